/-! THE MODEL'S CALLS -/
def l_m_taken_a (c : Int) (M : Int → Int → Int) : Nat → Int → Int → Int × Int
  | 0, n, j => (n, j)
  | k + 1, n, j => if M 163 (1597 + 12 * c) ≤ j then (n, j) else if ¬ M 163 (1114 + 8 * M 163 (1598 + 12 * c + j)) = 2 then l_m_taken_a c M k (1 + n) (1 + j) else l_m_taken_a c M k (2 + n) (1 + j)
theorem kl_m_taken_a {z : Int} {P M : Int → Int → Int} {r : Option xV × xH → Prop} (hS : x_Sh z P) (hT : y_TC M) (c : Int)   (hc : 0 ≤ c ∧ c < 3) : ∀ k : Nat, ∀ n : Int, ∀ j : Int, ((j ≤ n ∧ n ≤ 2 * j) ∧ 0 ≤ j ∧ j ≤ 8) → 8 - j < (k : Int) → (M 163 (1597 + 12 * c) ≤ ((l_m_taken_a c M k n j).1) ∧ 0 ≤ ((l_m_taken_a c M k n j).1) ∧ ((l_m_taken_a c M k n j).1) ≤ 16 → x_Ev 159 37 [.inr 162, .inl (c), .inl (1594 + 12 * c), .inl ((l_m_taken_a c M k n j).1), .inl ((l_m_taken_a c M k n j).2)] [] (0, 0) (z, P, M) r) → x_Ev 159 8 [.inr 162, .inl (c), .inl (1594 + 12 * c), .inl (n), .inl (j)] [] (0, 0) (z, P, M) r := by
  intro k
  induction k with
  | zero => intro n j hi hm; omega
  | succ k ih =>
    intro n j hi hm kk
    refine e_iload (k := 8) (xi159 8) rfl ?_
    refine e_aload (k := 9) (xi159 9) rfl (by decide) ?_
    refine e_getR (j := 0) (w := 163) (k := 10) (xi159 10) (ok_mo hS) rfl (sh_all hS) ?_
    refine e_iload (k := 11) (xi159 11) rfl ?_
    refine e_iconst (k := 12) (xi159 12) ?_
    refine e_iadd (w := 1597 + 12 * c) (k := 13) (xi159 13) (x_wn (by omega)) ?_
    have t1 := ty_aG3 hT (i := 1597 + 12 * c) (c := c) (by omega) (by omega)
    refine e_iald (w := M 163 (1597 + 12 * c)) (k := 14) (xi159 14) (ok_all hS) (by rw [ln_all]; omega) rfl ?_
    refine e_c_ge (k := 15) (xi159 15) (fun c0 => ?_) (fun c0 => ?_)
    · skip
      rw [(show l_m_taken_a c M (k + 1) n j = (n, j) from by rw [l_m_taken_a, if_pos c0])] at kk
      try dsimp only at kk
      exact kk (by first | exact trivial | omega)
    · skip
      refine e_iload (k := 16) (xi159 16) rfl ?_
      refine e_aload (k := 17) (xi159 17) rfl (by decide) ?_
      refine e_aload (k := 18) (xi159 18) rfl (by decide) ?_
      refine e_getR (j := 0) (w := 163) (k := 19) (xi159 19) (ok_mo hS) rfl (sh_all hS) ?_
      refine e_iload (k := 20) (xi159 20) rfl ?_
      refine e_iconst (k := 21) (xi159 21) ?_
      refine e_iadd (w := 1598 + 12 * c) (k := 22) (xi159 22) (x_wn (by omega)) ?_
      refine e_iload (k := 23) (xi159 23) rfl ?_
      refine e_iadd (w := 1598 + 12 * c + j) (k := 24) (xi159 24) (x_wn (by omega)) ?_
      have t2 := ty_aR hT (i := 1598 + 12 * c + j) (c := c) (d := j) (by omega) (by omega) (by omega)
      refine e_iald (w := M 163 (1598 + 12 * c + j)) (k := 25) (xi159 25) (ok_all hS) (by rw [ln_all]; omega) rfl ?_
      refine e_iconst (k := 26) (xi159 26) ?_
      have t3 := ty_aW0 hT (i := 1114 + 8 * M 163 (1598 + 12 * c + j)) (w := M 163 (1598 + 12 * c + j)) (by omega) (by omega)
      refine e_call (k := 27) (v := some (.inl (M 163 (1114 + 8 * M 163 (1598 + 12 * c + j))))) (h1 := (z, P, M)) (c1 := 0) (c2 := 0) (rest := [.inl (n)]) (as := [.inr 162, .inl (M 163 (1598 + 12 * c + j)), .inl 0]) (xi159 27) (by decide) xm129 rfl ⟨rfl, Nat.le_of_ble_eq_true rfl, by decide⟩ (Or.inr (x_okt (ok_mo hS))) (k_mof hS hT (M 163 (1598 + 12 * c + j)) 0 (1114 + 8 * M 163 (1598 + 12 * c + j)) (by omega) (by omega) (by omega)) ?_
      refine e_iconst (k := 28) (xi159 28) ?_
      refine e_c_ne (k := 29) (xi159 29) (fun c1 => ?_) (fun c1 => ?_)
      · skip
        refine e_iconst (k := 32) (xi159 32) ?_
        refine e_iadd (w := 1 + n) (k := 33) (xi159 33) (x_wn (by omega)) ?_
        refine e_istore (k := 34) (xi159 34) (Nat.le_of_ble_eq_true rfl) ?_
        show x_Ev 159 35 [.inr 162, .inl (c), .inl (1594 + 12 * c), .inl (1 + n), .inl (j)] [] (0, 0) (z, P, M) _
        refine e_iinc (w := 1 + j) (k := 35) (xi159 35) rfl (x_wn (by omega)) ?_
        show x_Ev 159 36 [.inr 162, .inl (c), .inl (1594 + 12 * c), .inl (1 + n), .inl (1 + j)] [] (0, 0) (z, P, M) _
        refine e_goto (k := 36) (xi159 36) ?_
        rw [(show l_m_taken_a c M (k + 1) n j = l_m_taken_a c M k (1 + n) (1 + j) from by rw [l_m_taken_a, if_neg c0, if_pos c1])] at kk
        exact ih (1 + n) (1 + j) (by omega) (by omega) kk
      · skip
        refine e_iconst (k := 30) (xi159 30) ?_
        refine e_goto (k := 31) (xi159 31) ?_
        refine e_iadd (w := 2 + n) (k := 33) (xi159 33) (x_wn (by omega)) ?_
        refine e_istore (k := 34) (xi159 34) (Nat.le_of_ble_eq_true rfl) ?_
        show x_Ev 159 35 [.inr 162, .inl (c), .inl (1594 + 12 * c), .inl (2 + n), .inl (j)] [] (0, 0) (z, P, M) _
        refine e_iinc (w := 1 + j) (k := 35) (xi159 35) rfl (x_wn (by omega)) ?_
        show x_Ev 159 36 [.inr 162, .inl (c), .inl (1594 + 12 * c), .inl (2 + n), .inl (1 + j)] [] (0, 0) (z, P, M) _
        refine e_goto (k := 36) (xi159 36) ?_
        rw [(show l_m_taken_a c M (k + 1) n j = l_m_taken_a c M k (2 + n) (1 + j) from by rw [l_m_taken_a, if_neg c0, if_neg c1])] at kk
        exact ih (2 + n) (1 + j) (by omega) (by omega) kk
def v_m_taken (c : Int) (M : Int → Int → Int) : Int := (l_m_taken_a c M 9 0 0).1
theorem k_m_taken {z : Int} {P M : Int → Int → Int} (hS : x_Sh z P) (hT : y_TC M) (c : Int)  (hc : 0 ≤ c ∧ c < 3) : x_CallR 159 [.inr 162, .inl (c)] (z, P, M) (fun q => q = (some (.inl (v_m_taken c M)), (z, P, M)) ∧ (fun v => M 163 (1597 + 12 * c) ≤ v ∧ 0 ≤ v ∧ v ≤ 16) (v_m_taken c M)) := by
  have kg := ty_aG3 hT (i := 1597 + 12 * c) (c := c) (by omega) (by omega)
  refine e_body (ls0 := [.inr 162, .inl (c), x_un, x_un, x_un]) xm159 rfl ?_
  refine e_aload (k := 0) (xi159 0) rfl (by decide) ?_
  refine e_iload (k := 1) (xi159 1) rfl ?_
  refine e_call (k := 2) (v := some (.inl (1594 + 12 * c))) (h1 := (z, P, M)) (c1 := 0) (c2 := 0) (rest := []) (as := [.inr 162, .inl (c)]) (xi159 2) (by decide) xm156 rfl ⟨rfl, Nat.le_of_ble_eq_true rfl, by decide⟩ (Or.inr (x_okt (ok_mo hS))) (k_mwagonAt hS hT c (by omega)) ?_
  refine e_istore (k := 3) (xi159 3) (Nat.le_of_ble_eq_true rfl) ?_
  show x_Ev 159 4 [.inr 162, .inl (c), .inl (1594 + 12 * c), x_un, x_un] [] (0, 0) (z, P, M) _
  refine e_iconst (k := 4) (xi159 4) ?_
  refine e_istore (k := 5) (xi159 5) (Nat.le_of_ble_eq_true rfl) ?_
  show x_Ev 159 6 [.inr 162, .inl (c), .inl (1594 + 12 * c), .inl 0, x_un] [] (0, 0) (z, P, M) _
  refine e_iconst (k := 6) (xi159 6) ?_
  refine e_istore (k := 7) (xi159 7) (Nat.le_of_ble_eq_true rfl) ?_
  show x_Ev 159 8 [.inr 162, .inl (c), .inl (1594 + 12 * c), .inl 0, .inl 0] [] (0, 0) (z, P, M) _
  refine kl_m_taken_a hS hT c    (by omega) 9 0 0 (by omega) (by omega) ?_
  intro q2
  show x_Ev 159 37 [.inr 162, .inl (c), .inl (1594 + 12 * c), .inl ((l_m_taken_a c M 9 0 0).1), .inl ((l_m_taken_a c M 9 0 0).2)] [] (0, 0) (z, P, M) _
  refine e_iload (k := 37) (xi159 37) rfl ?_
  refine e_iret (k := 38) (xi159 38) ?_
  exact y_fV (Q := fun v => M 163 (1597 + 12 * c) ≤ v ∧ 0 ≤ v ∧ v ≤ 16) (show v_m_taken c M = (l_m_taken_a c M 9 0 0).1 from rfl) (by omega)
def v_m_allows (c w : Int) (M : Int → Int → Int) : Int := if ¬ M 163 (1114 + 8 * w) = 2 then (if M 163 (1594 + 12 * c) < 1 + v_m_taken c M then 0 else 1) else if M 163 (1594 + 12 * c) < 2 + v_m_taken c M then 0 else 1
theorem k_m_allows {z : Int} {P M : Int → Int → Int} (hS : x_Sh z P) (hT : y_TC M) (c : Int) (w : Int)  (hc : 0 ≤ c ∧ c < 3) (hw : 0 ≤ w ∧ w < 60) : x_CallR 160 [.inr 162, .inl (c), .inl (w)] (z, P, M) (fun q => q = (some (.inl (v_m_allows c w M)), (z, P, M)) ∧ (fun v => (0 ≤ v ∧ v ≤ 1) ∧ (v = 1 → M 163 (1597 + 12 * c) < 8)) (v_m_allows c w M)) := by
  refine e_body (ls0 := [.inr 162, .inl (c), .inl (w)]) xm160 rfl ?_
  refine e_aload (k := 0) (xi160 0) rfl (by decide) ?_
  refine e_iload (k := 1) (xi160 1) rfl ?_
  refine e_callR (k := 2) (c1 := 0) (c2 := 0) (rest := []) (as := [.inr 162, .inl (c)]) (xi160 2) (by decide) xm159 rfl ⟨rfl, Nat.le_of_ble_eq_true rfl, by decide⟩ (Or.inr (x_okt (ok_mo hS))) (k_m_taken hS hT c  (by omega)) ?_
  rintro v_ h_ ⟨e1, q3⟩
  cases e1
  show x_Ev 160 3 [.inr 162, .inl (c), .inl (w)] [.inl (v_m_taken c M)] (0, 0) (z, P, M) _
  refine e_aload (k := 3) (xi160 3) rfl (by decide) ?_
  refine e_iload (k := 4) (xi160 4) rfl ?_
  refine e_iconst (k := 5) (xi160 5) ?_
  have t4 := ty_aW0 hT (i := 1114 + 8 * w) (w := w) (by omega) (by omega)
  refine e_call (k := 6) (v := some (.inl (M 163 (1114 + 8 * w)))) (h1 := (z, P, M)) (c1 := 0) (c2 := 0) (rest := [.inl (v_m_taken c M)]) (as := [.inr 162, .inl (w), .inl 0]) (xi160 6) (by decide) xm129 rfl ⟨rfl, Nat.le_of_ble_eq_true rfl, by decide⟩ (Or.inr (x_okt (ok_mo hS))) (k_mof hS hT w 0 (1114 + 8 * w) (by omega) (by omega) (by omega)) ?_
  refine e_iconst (k := 7) (xi160 7) ?_
  refine e_c_ne (k := 8) (xi160 8) (fun c0 => ?_) (fun c0 => ?_)
  · skip
    refine e_iconst (k := 11) (xi160 11) ?_
    refine e_iadd (w := 1 + v_m_taken c M) (k := 12) (xi160 12) (x_wn (by omega)) ?_
    refine e_aload (k := 13) (xi160 13) rfl (by decide) ?_
    refine e_getR (j := 0) (w := 163) (k := 14) (xi160 14) (ok_mo hS) rfl (sh_all hS) ?_
    refine e_aload (k := 15) (xi160 15) rfl (by decide) ?_
    refine e_iload (k := 16) (xi160 16) rfl ?_
    refine e_call (k := 17) (v := some (.inl (1594 + 12 * c))) (h1 := (z, P, M)) (c1 := 0) (c2 := 0) (rest := [.inr 163, .inl (1 + v_m_taken c M)]) (as := [.inr 162, .inl (c)]) (xi160 17) (by decide) xm156 rfl ⟨rfl, Nat.le_of_ble_eq_true rfl, by decide⟩ (Or.inr (x_okt (ok_mo hS))) (k_mwagonAt hS hT c (by omega)) ?_
    have t5 := ty_aG0 hT (i := 1594 + 12 * c) (c := c) (by omega) (by omega)
    refine e_iald (w := M 163 (1594 + 12 * c)) (k := 18) (xi160 18) (ok_all hS) (by rw [ln_all]; omega) rfl ?_
    refine e_c_gt (k := 19) (xi160 19) (fun c1 => ?_) (fun c1 => ?_)
    · skip
      refine e_iconst (k := 22) (xi160 22) ?_
      refine e_zret (k := 23) (xi160 23) (by first | decide | omega) ?_
      exact y_fV (Q := fun v => (0 ≤ v ∧ v ≤ 1) ∧ (v = 1 → M 163 (1597 + 12 * c) < 8)) (show v_m_allows c w M = 0 from by rw [v_m_allows, if_pos c0, if_pos c1]) (by omega)
    · skip
      refine e_iconst (k := 20) (xi160 20) ?_
      refine e_goto (k := 21) (xi160 21) ?_
      refine e_zret (k := 23) (xi160 23) (by first | decide | omega) ?_
      exact y_fV (Q := fun v => (0 ≤ v ∧ v ≤ 1) ∧ (v = 1 → M 163 (1597 + 12 * c) < 8)) (show v_m_allows c w M = 1 from by rw [v_m_allows, if_pos c0, if_neg c1]) (by omega)
  · skip
    refine e_iconst (k := 9) (xi160 9) ?_
    refine e_goto (k := 10) (xi160 10) ?_
    refine e_iadd (w := 2 + v_m_taken c M) (k := 12) (xi160 12) (x_wn (by omega)) ?_
    refine e_aload (k := 13) (xi160 13) rfl (by decide) ?_
    refine e_getR (j := 0) (w := 163) (k := 14) (xi160 14) (ok_mo hS) rfl (sh_all hS) ?_
    refine e_aload (k := 15) (xi160 15) rfl (by decide) ?_
    refine e_iload (k := 16) (xi160 16) rfl ?_
    refine e_call (k := 17) (v := some (.inl (1594 + 12 * c))) (h1 := (z, P, M)) (c1 := 0) (c2 := 0) (rest := [.inr 163, .inl (2 + v_m_taken c M)]) (as := [.inr 162, .inl (c)]) (xi160 17) (by decide) xm156 rfl ⟨rfl, Nat.le_of_ble_eq_true rfl, by decide⟩ (Or.inr (x_okt (ok_mo hS))) (k_mwagonAt hS hT c (by omega)) ?_
    have t6 := ty_aG0 hT (i := 1594 + 12 * c) (c := c) (by omega) (by omega)
    refine e_iald (w := M 163 (1594 + 12 * c)) (k := 18) (xi160 18) (ok_all hS) (by rw [ln_all]; omega) rfl ?_
    refine e_c_gt (k := 19) (xi160 19) (fun c2 => ?_) (fun c2 => ?_)
    · skip
      refine e_iconst (k := 22) (xi160 22) ?_
      refine e_zret (k := 23) (xi160 23) (by first | decide | omega) ?_
      exact y_fV (Q := fun v => (0 ≤ v ∧ v ≤ 1) ∧ (v = 1 → M 163 (1597 + 12 * c) < 8)) (show v_m_allows c w M = 0 from by rw [v_m_allows, if_neg c0, if_pos c2]) (by omega)
    · skip
      refine e_iconst (k := 20) (xi160 20) ?_
      refine e_goto (k := 21) (xi160 21) ?_
      refine e_zret (k := 23) (xi160 23) (by first | decide | omega) ?_
      exact y_fV (Q := fun v => (0 ≤ v ∧ v ≤ 1) ∧ (v = 1 → M 163 (1597 + 12 * c) < 8)) (show v_m_allows c w M = 1 from by rw [v_m_allows, if_neg c0, if_neg c2]) (by omega)
def u_m_climbs (c w : Int) (M : Int → Int → Int) : Int → Int → Int := (x_up ((x_up ((x_up ((x_up ((x_up M 163 (1598 + 12 * c + M 163 (1597 + 12 * c)) w)) 163 (1597 + 12 * c) (1 + M 163 (1597 + 12 * c)))) 163 (1116 + 8 * w) 1)) 163 (1117 + 8 * w) c)) 163 (1118 + 8 * w) ((-1)))
theorem k_m_climbs {z : Int} {P M : Int → Int → Int} (hS : x_Sh z P) (hT : y_TC M) (c : Int) (w : Int)  (hc : 0 ≤ c ∧ c < 3) (hw : 0 ≤ w ∧ w < 60) (hn : M 163 (1597 + 12 * c) < 8) : x_CallR 161 [.inr 162, .inl (c), .inl (w)] (z, P, M) (fun q => q = (none, (z, P, u_m_climbs c w M)) ∧ y_TL 1 M (u_m_climbs c w M)) := by
  have tl0 : y_TL 1 M M := tl_refl hT
  refine e_body (ls0 := [.inr 162, .inl (c), .inl (w), x_un]) xm161 rfl ?_
  refine e_aload (k := 0) (xi161 0) rfl (by decide) ?_
  refine e_iload (k := 1) (xi161 1) rfl ?_
  refine e_call (k := 2) (v := some (.inl (1594 + 12 * c))) (h1 := (z, P, M)) (c1 := 0) (c2 := 0) (rest := []) (as := [.inr 162, .inl (c)]) (xi161 2) (by decide) xm156 rfl ⟨rfl, Nat.le_of_ble_eq_true rfl, by decide⟩ (Or.inr (x_okt (ok_mo hS))) (k_mwagonAt hS tl0.1 c (by omega)) ?_
  refine e_istore (k := 3) (xi161 3) (Nat.le_of_ble_eq_true rfl) ?_
  show x_Ev 161 4 [.inr 162, .inl (c), .inl (w), .inl (1594 + 12 * c)] [] (0, 0) (z, P, M) _
  refine e_aload (k := 4) (xi161 4) rfl (by decide) ?_
  refine e_getR (j := 0) (w := 163) (k := 5) (xi161 5) (ok_mo hS) rfl (sh_all hS) ?_
  refine e_iload (k := 6) (xi161 6) rfl ?_
  refine e_iconst (k := 7) (xi161 7) ?_
  refine e_iadd (w := 1598 + 12 * c) (k := 8) (xi161 8) (x_wn (by omega)) ?_
  refine e_aload (k := 9) (xi161 9) rfl (by decide) ?_
  refine e_getR (j := 0) (w := 163) (k := 10) (xi161 10) (ok_mo hS) rfl (sh_all hS) ?_
  refine e_iload (k := 11) (xi161 11) rfl ?_
  refine e_iconst (k := 12) (xi161 12) ?_
  refine e_iadd (w := 1597 + 12 * c) (k := 13) (xi161 13) (x_wn (by omega)) ?_
  have t1 := ty_aG3 tl0.1 (i := 1597 + 12 * c) (c := c) (by omega) (by omega)
  refine e_iald (w := M 163 (1597 + 12 * c)) (k := 14) (xi161 14) (ok_all hS) (by rw [ln_all]; omega) rfl ?_
  refine e_iadd (w := 1598 + 12 * c + M 163 (1597 + 12 * c)) (k := 15) (xi161 15) (x_wn (by omega)) ?_
  refine e_iload (k := 16) (xi161 16) rfl ?_
  refine e_iast (k := 17) (xi161 17) (ok_all hS) (by rw [ln_all]; omega) ?_
  have tl2 : y_TL 1 M (x_up M 163 (1598 + 12 * c + M 163 (1597 + 12 * c)) w) := tl_up tl0 (sl_aR (i := 1598 + 12 * c + M 163 (1597 + 12 * c)) (c := c) (d := M 163 (1597 + 12 * c)) (by omega) (by omega) (by omega) (by omega)) (nf_aR (i := 1598 + 12 * c + M 163 (1597 + 12 * c)) (c := c) (d := M 163 (1597 + 12 * c)) (by omega) (by omega) (by omega))
  refine e_aload (k := 18) (xi161 18) rfl (by decide) ?_
  refine e_getR (j := 0) (w := 163) (k := 19) (xi161 19) (ok_mo hS) rfl (sh_all hS) ?_
  refine e_iload (k := 20) (xi161 20) rfl ?_
  refine e_iconst (k := 21) (xi161 21) ?_
  refine e_iadd (w := 1597 + 12 * c) (k := 22) (xi161 22) (x_wn (by omega)) ?_
  refine e_dup2 (k := 23) (xi161 23) ?_
  refine e_iald (w := M 163 (1597 + 12 * c)) (k := 24) (xi161 24) (ok_all hS) (by rw [ln_all]; omega) (((x_up_nk (by omega)).trans rfl)) ?_
  refine e_iconst (k := 25) (xi161 25) ?_
  refine e_iadd (w := 1 + M 163 (1597 + 12 * c)) (k := 26) (xi161 26) (x_wn (by omega)) ?_
  refine e_iast (k := 27) (xi161 27) (ok_all hS) (by rw [ln_all]; omega) ?_
  have tl3 : y_TL 1 M (x_up ((x_up M 163 (1598 + 12 * c + M 163 (1597 + 12 * c)) w)) 163 (1597 + 12 * c) (1 + M 163 (1597 + 12 * c))) := tl_up tl2 (sl_aG3 (i := 1597 + 12 * c) (c := c) (by omega) (by omega) (by omega)) (nf_aG3 (i := 1597 + 12 * c) (c := c) (by omega) (by omega))
  refine e_aload (k := 28) (xi161 28) rfl (by decide) ?_
  refine e_iload (k := 29) (xi161 29) rfl ?_
  refine e_iconst (k := 30) (xi161 30) ?_
  refine e_iconst (k := 31) (xi161 31) ?_
  have tl4 : y_TL 1 M (x_up ((x_up ((x_up M 163 (1598 + 12 * c + M 163 (1597 + 12 * c)) w)) 163 (1597 + 12 * c) (1 + M 163 (1597 + 12 * c)))) 163 (1116 + 8 * w) 1) := tl_up tl3 (sl_aW2 (i := 1116 + 8 * w) (w := w) (by omega) (by omega) (by omega)) (nf_aW2 (i := 1116 + 8 * w) (w := w) (by omega) (by omega))
  refine e_call (k := 32) (v := none) (h1 := (z, P, (x_up ((x_up ((x_up M 163 (1598 + 12 * c + M 163 (1597 + 12 * c)) w)) 163 (1597 + 12 * c) (1 + M 163 (1597 + 12 * c)))) 163 (1116 + 8 * w) 1))) (c1 := 0) (c2 := 0) (rest := []) (as := [.inr 162, .inl (w), .inl 2, .inl 1]) (xi161 32) (by decide) xm130 rfl ⟨rfl, Nat.le_of_ble_eq_true rfl, by decide⟩ (Or.inr (x_okt (ok_mo hS))) (k_msets hS w 2 1 (1116 + 8 * w) (by omega) (by omega) (by omega)) ?_
  refine e_aload (k := 33) (xi161 33) rfl (by decide) ?_
  refine e_iload (k := 34) (xi161 34) rfl ?_
  refine e_iconst (k := 35) (xi161 35) ?_
  refine e_iload (k := 36) (xi161 36) rfl ?_
  have tl5 : y_TL 1 M (x_up ((x_up ((x_up ((x_up M 163 (1598 + 12 * c + M 163 (1597 + 12 * c)) w)) 163 (1597 + 12 * c) (1 + M 163 (1597 + 12 * c)))) 163 (1116 + 8 * w) 1)) 163 (1117 + 8 * w) c) := tl_up tl4 (sl_aW3 (i := 1117 + 8 * w) (w := w) (by omega) (by omega) (by omega)) (nf_aW3 (i := 1117 + 8 * w) (w := w) (by omega) (by omega))
  refine e_call (k := 37) (v := none) (h1 := (z, P, (x_up ((x_up ((x_up ((x_up M 163 (1598 + 12 * c + M 163 (1597 + 12 * c)) w)) 163 (1597 + 12 * c) (1 + M 163 (1597 + 12 * c)))) 163 (1116 + 8 * w) 1)) 163 (1117 + 8 * w) c))) (c1 := 0) (c2 := 0) (rest := []) (as := [.inr 162, .inl (w), .inl 3, .inl (c)]) (xi161 37) (by decide) xm130 rfl ⟨rfl, Nat.le_of_ble_eq_true rfl, by decide⟩ (Or.inr (x_okt (ok_mo hS))) (k_msets hS w 3 c (1117 + 8 * w) (by omega) (by omega) (by omega)) ?_
  refine e_aload (k := 38) (xi161 38) rfl (by decide) ?_
  refine e_iload (k := 39) (xi161 39) rfl ?_
  refine e_iconst (k := 40) (xi161 40) ?_
  refine e_iconst (k := 41) (xi161 41) ?_
  have tl6 : y_TL 1 M (x_up ((x_up ((x_up ((x_up ((x_up M 163 (1598 + 12 * c + M 163 (1597 + 12 * c)) w)) 163 (1597 + 12 * c) (1 + M 163 (1597 + 12 * c)))) 163 (1116 + 8 * w) 1)) 163 (1117 + 8 * w) c)) 163 (1118 + 8 * w) ((-1))) := tl_up tl5 (sl_aW4 (i := 1118 + 8 * w) (w := w) (by omega) (by omega) (by omega)) (nf_aW4 (i := 1118 + 8 * w) (w := w) (by omega) (by omega))
  refine e_call (k := 42) (v := none) (h1 := (z, P, (x_up ((x_up ((x_up ((x_up ((x_up M 163 (1598 + 12 * c + M 163 (1597 + 12 * c)) w)) 163 (1597 + 12 * c) (1 + M 163 (1597 + 12 * c)))) 163 (1116 + 8 * w) 1)) 163 (1117 + 8 * w) c)) 163 (1118 + 8 * w) ((-1))))) (c1 := 0) (c2 := 0) (rest := []) (as := [.inr 162, .inl (w), .inl 4, .inl ((-1))]) (xi161 42) (by decide) xm130 rfl ⟨rfl, Nat.le_of_ble_eq_true rfl, by decide⟩ (Or.inr (x_okt (ok_mo hS))) (k_msets hS w 4 ((-1)) (1118 + 8 * w) (by omega) (by omega) (by omega)) ?_
  refine e_vret (k := 43) (xi161 43) ?_
  exact y_fU (show u_m_climbs c w M = (x_up ((x_up ((x_up ((x_up ((x_up M 163 (1598 + 12 * c + M 163 (1597 + 12 * c)) w)) 163 (1597 + 12 * c) (1 + M 163 (1597 + 12 * c)))) 163 (1116 + 8 * w) 1)) 163 (1117 + 8 * w) c)) 163 (1118 + 8 * w) ((-1))) from rfl) tl6
def l_n_stand_a (n s : Int) : Nat → (Int → Int → Int) → Int → (Int → Int → Int) × Int
  | 0, M, d => (M, d)
  | k + 1, M, d => if n ≤ d then (M, d) else l_n_stand_a n s k ((x_up M 163 (11 + 80 * s + d) ((-1)))) (1 + d)
theorem kl_n_stand_a {z : Int} {P M0 : Int → Int → Int} {r : Option xV × xH → Prop} (hS : x_Sh z P) (n : Int) (s : Int)  (hs : 0 ≤ s ∧ s < 12) (hn : 2 ≤ n ∧ n ≤ 12)  : ∀ k : Nat, ∀ M : (Int → Int → Int), ∀ d : Int, y_TL 1 M0 M → (0 ≤ d ∧ d ≤ 12) → 12 - d < (k : Int) → (y_TL 1 M0 ((l_n_stand_a n s k M d).1) → True → x_Ev 121 41 [.inr 162, .inl (n), .inl (s), .inl ((l_n_stand_a n s k M d).2)] [] (0, 0) (z, P, (l_n_stand_a n s k M d).1) r) → x_Ev 121 28 [.inr 162, .inl (n), .inl (s), .inl (d)] [] (0, 0) (z, P, M) r := by
  intro k
  induction k with
  | zero => intro M d tl0 hi hm; omega
  | succ k ih =>
    intro M d tl0 hi hm kk
    refine e_iload (k := 28) (xi121 28) rfl ?_
    refine e_iload (k := 29) (xi121 29) rfl ?_
    refine e_c_ge (k := 30) (xi121 30) (fun c0 => ?_) (fun c0 => ?_)
    · skip
      have t1 := ty_a0 tl0.1
      rw [(show l_n_stand_a n s (k + 1) M d = (M, d) from by rw [l_n_stand_a, if_pos c0])] at kk
      try dsimp only at kk
      exact kk tl0 (by first | exact trivial | omega)
    · skip
      refine e_aload (k := 31) (xi121 31) rfl (by decide) ?_
      refine e_getR (j := 0) (w := 163) (k := 32) (xi121 32) (ok_mo hS) rfl (sh_all hS) ?_
      refine e_aload (k := 33) (xi121 33) rfl (by decide) ?_
      refine e_iload (k := 34) (xi121 34) rfl ?_
      refine e_iload (k := 35) (xi121 35) rfl ?_
      refine e_call (k := 36) (v := some (.inl (11 + 80 * s + d))) (h1 := (z, P, M)) (c1 := 0) (c2 := 0) (rest := [.inr 163]) (as := [.inr 162, .inl (s), .inl (d)]) (xi121 36) (by decide) xm119 rfl ⟨rfl, Nat.le_of_ble_eq_true rfl, by decide⟩ (Or.inr (x_okt (ok_mo hS))) (k_mdockAt hS tl0.1 s d (by omega) (by omega)) ?_
      refine e_iconst (k := 37) (xi121 37) ?_
      refine e_iast (k := 38) (xi121 38) (ok_all hS) (by rw [ln_all]; omega) ?_
      have tl2 : y_TL 1 M0 (x_up M 163 (11 + 80 * s + d) ((-1))) := tl_up tl0 (sl_aC (i := 11 + 80 * s + d) (s := s) (d := d) (by omega) (by omega) (by omega) (by omega)) (nf_aC (i := 11 + 80 * s + d) (s := s) (d := d) (by omega) (by omega) (by omega))
      refine e_iinc (w := 1 + d) (k := 39) (xi121 39) rfl (x_wn (by omega)) ?_
      show x_Ev 121 40 [.inr 162, .inl (n), .inl (s), .inl (1 + d)] [] (0, 0) (z, P, (x_up M 163 (11 + 80 * s + d) ((-1)))) _
      refine e_goto (k := 40) (xi121 40) ?_
      have t3 := ty_a0 tl2.1
      have t4 : ((x_up M 163 (11 + 80 * s + d) ((-1)))) 163 0 = M 163 0 := ((x_up_nk (by omega)).trans rfl)
      have t5 := ty_a0 tl0.1
      rw [(show l_n_stand_a n s (k + 1) M d = l_n_stand_a n s k ((x_up M 163 (11 + 80 * s + d) ((-1)))) (1 + d) from by rw [l_n_stand_a, if_neg c0])] at kk
      exact ih ((x_up M 163 (11 + 80 * s + d) ((-1)))) (1 + d) tl2 (by omega) (by omega) kk
def v_n_stand (n : Int) (M : Int → Int → Int) : Int := if M 163 0 = 12 then (-1) else if n < 2 then (-1) else if n ≤ 12 then M 163 0 else (-1)
def u_n_stand (n : Int) (M : Int → Int → Int) : Int → Int → Int := if M 163 0 = 12 then M else if n < 2 then M else if n ≤ 12 then (x_up ((x_up ((x_up ((l_n_stand_a n (M 163 0) 13 ((x_up M 163 (10 + 80 * M 163 0) n)) 0).1) 163 (24 + 80 * M 163 0) ((-1)))) 163 (25 + 80 * M 163 0) ((-1)))) 163 0 (1 + ((l_n_stand_a n (M 163 0) 13 ((x_up M 163 (10 + 80 * M 163 0) n)) 0).1) 163 0)) else M
theorem k_n_stand {z : Int} {P M : Int → Int → Int} (hS : x_Sh z P) (hT : y_TC M) (n : Int)   : x_CallR 121 [.inr 162, .inl (n)] (z, P, M) (fun q => q = (some (.inl (v_n_stand n M)), (z, P, u_n_stand n M)) ∧ y_TL 8 M (u_n_stand n M) ∧ True) := by
  have tl0 : y_TL 8 M M := tl_refl hT
  refine e_body (ls0 := [.inr 162, .inl (n), x_un, x_un]) xm121 rfl ?_
  refine e_aload (k := 0) (xi121 0) rfl (by decide) ?_
  refine e_getR (j := 0) (w := 163) (k := 1) (xi121 1) (ok_mo hS) rfl (sh_all hS) ?_
  refine e_iconst (k := 2) (xi121 2) ?_
  have t1 := ty_a0 tl0.1
  refine e_iald (w := M 163 0) (k := 3) (xi121 3) (ok_all hS) (by rw [ln_all]; omega) rfl ?_
  refine e_iconst (k := 4) (xi121 4) ?_
  refine e_c_eq (k := 5) (xi121 5) (fun c0 => ?_) (fun c0 => ?_)
  · skip
    refine e_iconst (k := 12) (xi121 12) ?_
    refine e_iret (k := 13) (xi121 13) ?_
    exact y_fW (Q := fun _ => True) (show v_n_stand n M = (-1) from by rw [v_n_stand, if_pos c0]) (show u_n_stand n M = M from by rw [u_n_stand, if_pos c0]) tl0 trivial
  · skip
    refine e_iload (k := 6) (xi121 6) rfl ?_
    refine e_iconst (k := 7) (xi121 7) ?_
    refine e_c_lt (k := 8) (xi121 8) (fun c1 => ?_) (fun c1 => ?_)
    · skip
      refine e_iconst (k := 12) (xi121 12) ?_
      refine e_iret (k := 13) (xi121 13) ?_
      exact y_fW (Q := fun _ => True) (show v_n_stand n M = (-1) from by rw [v_n_stand, if_neg c0, if_pos c1]) (show u_n_stand n M = M from by rw [u_n_stand, if_neg c0, if_pos c1]) tl0 trivial
    · skip
      refine e_iload (k := 9) (xi121 9) rfl ?_
      refine e_iconst (k := 10) (xi121 10) ?_
      refine e_c_le (k := 11) (xi121 11) (fun c2 => ?_) (fun c2 => ?_)
      · skip
        refine e_aload (k := 14) (xi121 14) rfl (by decide) ?_
        refine e_getR (j := 0) (w := 163) (k := 15) (xi121 15) (ok_mo hS) rfl (sh_all hS) ?_
        refine e_iconst (k := 16) (xi121 16) ?_
        refine e_iald (w := M 163 0) (k := 17) (xi121 17) (ok_all hS) (by rw [ln_all]; omega) rfl ?_
        refine e_istore (k := 18) (xi121 18) (Nat.le_of_ble_eq_true rfl) ?_
        show x_Ev 121 19 [.inr 162, .inl (n), .inl (M 163 0), x_un] [] (0, 0) (z, P, M) _
        refine e_aload (k := 19) (xi121 19) rfl (by decide) ?_
        refine e_getR (j := 0) (w := 163) (k := 20) (xi121 20) (ok_mo hS) rfl (sh_all hS) ?_
        refine e_aload (k := 21) (xi121 21) rfl (by decide) ?_
        refine e_iload (k := 22) (xi121 22) rfl ?_
        refine e_call (k := 23) (v := some (.inl (10 + 80 * M 163 0))) (h1 := (z, P, M)) (c1 := 0) (c2 := 0) (rest := [.inr 163]) (as := [.inr 162, .inl (M 163 0)]) (xi121 23) (by decide) xm117 rfl ⟨rfl, Nat.le_of_ble_eq_true rfl, by decide⟩ (Or.inr (x_okt (ok_mo hS))) (k_mstandAt hS tl0.1 (M 163 0) (by omega)) ?_
        refine e_iload (k := 24) (xi121 24) rfl ?_
        refine e_iast (k := 25) (xi121 25) (ok_all hS) (by rw [ln_all]; omega) ?_
        have tl2 : y_TL 8 M (x_up M 163 (10 + 80 * M 163 0) n) := tl_up tl0 (sl_aD (i := 10 + 80 * M 163 0) (s := M 163 0) (by omega) (by omega) (by omega)) (nf8 (by omega))
        refine e_iconst (k := 26) (xi121 26) ?_
        refine e_istore (k := 27) (xi121 27) (Nat.le_of_ble_eq_true rfl) ?_
        show x_Ev 121 28 [.inr 162, .inl (n), .inl (M 163 0), .inl 0] [] (0, 0) (z, P, (x_up M 163 (10 + 80 * M 163 0) n)) _
        have t3 := ty_a0 tl2.1
        have t4 : ((x_up M 163 (10 + 80 * M 163 0) n)) 163 0 = M 163 0 := ((x_up_nk (by omega)).trans rfl)
        refine kl_n_stand_a hS n (M 163 0)   (by omega) (by omega) 13 ((x_up M 163 (10 + 80 * M 163 0) n)) 0 (tl_refl tl2.1) (by omega) (by omega) ?_
        intro tl5 q6
        have tl7 := tl_trans tl2 (tl_81 tl5)
        have n8 := tl_a tl5
        show x_Ev 121 41 [.inr 162, .inl (n), .inl (M 163 0), .inl ((l_n_stand_a n (M 163 0) 13 ((x_up M 163 (10 + 80 * M 163 0) n)) 0).2)] [] (0, 0) (z, P, (l_n_stand_a n (M 163 0) 13 ((x_up M 163 (10 + 80 * M 163 0) n)) 0).1) _
        refine e_aload (k := 41) (xi121 41) rfl (by decide) ?_
        refine e_getR (j := 0) (w := 163) (k := 42) (xi121 42) (ok_mo hS) rfl (sh_all hS) ?_
        refine e_aload (k := 43) (xi121 43) rfl (by decide) ?_
        refine e_iload (k := 44) (xi121 44) rfl ?_
        refine e_call (k := 45) (v := some (.inl (10 + 80 * M 163 0))) (h1 := (z, P, (l_n_stand_a n (M 163 0) 13 ((x_up M 163 (10 + 80 * M 163 0) n)) 0).1)) (c1 := 0) (c2 := 0) (rest := [.inr 163]) (as := [.inr 162, .inl (M 163 0)]) (xi121 45) (by decide) xm117 rfl ⟨rfl, Nat.le_of_ble_eq_true rfl, by decide⟩ (Or.inr (x_okt (ok_mo hS))) (k_mstandAt hS tl7.1 (M 163 0) (by omega)) ?_
        refine e_iconst (k := 46) (xi121 46) ?_
        refine e_iadd (w := 24 + 80 * M 163 0) (k := 47) (xi121 47) (x_wn (by omega)) ?_
        refine e_iconst (k := 48) (xi121 48) ?_
        refine e_iast (k := 49) (xi121 49) (ok_all hS) (by rw [ln_all]; omega) ?_
        have tl9 : y_TL 8 M (x_up ((l_n_stand_a n (M 163 0) 13 ((x_up M 163 (10 + 80 * M 163 0) n)) 0).1) 163 (24 + 80 * M 163 0) ((-1))) := tl_up tl7 (sl_aWt (i := 24 + 80 * M 163 0) (s := M 163 0) (by omega) (by omega) (by omega)) (nf8 (by omega))
        refine e_aload (k := 50) (xi121 50) rfl (by decide) ?_
        refine e_getR (j := 0) (w := 163) (k := 51) (xi121 51) (ok_mo hS) rfl (sh_all hS) ?_
        refine e_aload (k := 52) (xi121 52) rfl (by decide) ?_
        refine e_iload (k := 53) (xi121 53) rfl ?_
        refine e_call (k := 54) (v := some (.inl (10 + 80 * M 163 0))) (h1 := (z, P, (x_up ((l_n_stand_a n (M 163 0) 13 ((x_up M 163 (10 + 80 * M 163 0) n)) 0).1) 163 (24 + 80 * M 163 0) ((-1))))) (c1 := 0) (c2 := 0) (rest := [.inr 163]) (as := [.inr 162, .inl (M 163 0)]) (xi121 54) (by decide) xm117 rfl ⟨rfl, Nat.le_of_ble_eq_true rfl, by decide⟩ (Or.inr (x_okt (ok_mo hS))) (k_mstandAt hS tl9.1 (M 163 0) (by omega)) ?_
        refine e_iconst (k := 55) (xi121 55) ?_
        refine e_iadd (w := 25 + 80 * M 163 0) (k := 56) (xi121 56) (x_wn (by omega)) ?_
        refine e_iconst (k := 57) (xi121 57) ?_
        refine e_iast (k := 58) (xi121 58) (ok_all hS) (by rw [ln_all]; omega) ?_
        have tl10 : y_TL 8 M (x_up ((x_up ((l_n_stand_a n (M 163 0) 13 ((x_up M 163 (10 + 80 * M 163 0) n)) 0).1) 163 (24 + 80 * M 163 0) ((-1)))) 163 (25 + 80 * M 163 0) ((-1))) := tl_up tl9 (sl_aOc (i := 25 + 80 * M 163 0) (s := M 163 0) (by omega) (by omega) (by omega)) (nf8 (by omega))
        refine e_aload (k := 59) (xi121 59) rfl (by decide) ?_
        refine e_getR (j := 0) (w := 163) (k := 60) (xi121 60) (ok_mo hS) rfl (sh_all hS) ?_
        refine e_iconst (k := 61) (xi121 61) ?_
        refine e_dup2 (k := 62) (xi121 62) ?_
        have t11 := ty_a0 tl7.1
        refine e_iald (w := ((l_n_stand_a n (M 163 0) 13 ((x_up M 163 (10 + 80 * M 163 0) n)) 0).1) 163 0) (k := 63) (xi121 63) (ok_all hS) (by rw [ln_all]; omega) (((x_up_nk (by omega)).trans (((x_up_nk (by omega)).trans rfl)))) ?_
        refine e_iconst (k := 64) (xi121 64) ?_
        refine e_iadd (w := 1 + ((l_n_stand_a n (M 163 0) 13 ((x_up M 163 (10 + 80 * M 163 0) n)) 0).1) 163 0) (k := 65) (xi121 65) (x_wn (by omega)) ?_
        refine e_iast (k := 66) (xi121 66) (ok_all hS) (by rw [ln_all]; omega) ?_
        have tl12 : y_TL 8 M (x_up ((x_up ((x_up ((l_n_stand_a n (M 163 0) 13 ((x_up M 163 (10 + 80 * M 163 0) n)) 0).1) 163 (24 + 80 * M 163 0) ((-1)))) 163 (25 + 80 * M 163 0) ((-1)))) 163 0 (1 + ((l_n_stand_a n (M 163 0) 13 ((x_up M 163 (10 + 80 * M 163 0) n)) 0).1) 163 0)) := tl_up tl10 (sl_a0 (by omega)) (nf8 (by omega))
        refine e_iload (k := 67) (xi121 67) rfl ?_
        refine e_iret (k := 68) (xi121 68) ?_
        exact y_fW (Q := fun _ => True) (show v_n_stand n M = M 163 0 from by rw [v_n_stand, if_neg c0, if_neg c1, if_pos c2]) (show u_n_stand n M = (x_up ((x_up ((x_up ((l_n_stand_a n (M 163 0) 13 ((x_up M 163 (10 + 80 * M 163 0) n)) 0).1) 163 (24 + 80 * M 163 0) ((-1)))) 163 (25 + 80 * M 163 0) ((-1)))) 163 0 (1 + ((l_n_stand_a n (M 163 0) 13 ((x_up M 163 (10 + 80 * M 163 0) n)) 0).1) 163 0)) from by rw [u_n_stand, if_neg c0, if_neg c1, if_pos c2]) tl12 trivial
      · skip
        refine e_iconst (k := 12) (xi121 12) ?_
        refine e_iret (k := 13) (xi121 13) ?_
        exact y_fW (Q := fun _ => True) (show v_n_stand n M = (-1) from by rw [v_n_stand, if_neg c0, if_neg c1, if_neg c2]) (show u_n_stand n M = M from by rw [u_n_stand, if_neg c0, if_neg c1, if_neg c2]) tl0 trivial
def v_n_length (a b l : Int) (M : Int → Int → Int) : Int := if 0 ≤ a ∧ a < M 163 0 then (if 0 ≤ b ∧ b < M 163 0 then (if a = b then 0 else if l < 1 then 0 else if l ≤ 999 then 1 else 0) else 0) else 0
def u_n_length (a b l : Int) (M : Int → Int → Int) : Int → Int → Int := if 0 ≤ a ∧ a < M 163 0 then (if 0 ≤ b ∧ b < M 163 0 then (if a = b then M else if l < 1 then M else if l ≤ 999 then (x_up ((x_up M 163 (970 + 12 * a + b) l)) 163 (970 + 12 * b + a) l) else M) else M) else M
theorem k_n_length {z : Int} {P M : Int → Int → Int} (hS : x_Sh z P) (hT : y_TC M) (a : Int) (b : Int) (l : Int)   : x_CallR 122 [.inr 162, .inl (a), .inl (b), .inl (l)] (z, P, M) (fun q => q = (some (.inl (v_n_length a b l M)), (z, P, u_n_length a b l M)) ∧ y_TL 1 M (u_n_length a b l M) ∧ True) := by
  have tl0 : y_TL 1 M M := tl_refl hT
  refine e_body (ls0 := [.inr 162, .inl (a), .inl (b), .inl (l)]) xm122 rfl ?_
  refine e_aload (k := 0) (xi122 0) rfl (by decide) ?_
  refine e_iload (k := 1) (xi122 1) rfl ?_
  have t1 := ty_a0 tl0.1
  refine e_call (k := 2) (v := some (.inl (x_b (0 ≤ a ∧ a < M 163 0)))) (h1 := (z, P, M)) (c1 := 0) (c2 := 0) (rest := []) (as := [.inr 162, .inl (a)]) (xi122 2) (by decide) xm114 rfl ⟨rfl, Nat.le_of_ble_eq_true rfl, by decide⟩ (Or.inr (x_okt (ok_mo hS))) (k_isStand hS tl0.1 a  ) ?_
  refine e_b_eq (k := 3) (xi122 3) (fun c0 => ?_) (fun c0 => ?_)
  · skip
    refine e_aload (k := 4) (xi122 4) rfl (by decide) ?_
    refine e_iload (k := 5) (xi122 5) rfl ?_
    refine e_call (k := 6) (v := some (.inl (x_b (0 ≤ b ∧ b < M 163 0)))) (h1 := (z, P, M)) (c1 := 0) (c2 := 0) (rest := []) (as := [.inr 162, .inl (b)]) (xi122 6) (by decide) xm114 rfl ⟨rfl, Nat.le_of_ble_eq_true rfl, by decide⟩ (Or.inr (x_okt (ok_mo hS))) (k_isStand hS tl0.1 b  ) ?_
    refine e_b_eq (k := 7) (xi122 7) (fun c1 => ?_) (fun c1 => ?_)
    · skip
      refine e_iload (k := 8) (xi122 8) rfl ?_
      refine e_iload (k := 9) (xi122 9) rfl ?_
      refine e_c_eq (k := 10) (xi122 10) (fun c2 => ?_) (fun c2 => ?_)
      · skip
        refine e_iconst (k := 17) (xi122 17) ?_
        refine e_zret (k := 18) (xi122 18) (by first | decide | omega) ?_
        exact y_fW (Q := fun _ => True) (show v_n_length a b l M = 0 from by rw [v_n_length, if_pos c0, if_pos c1, if_pos c2]) (show u_n_length a b l M = M from by rw [u_n_length, if_pos c0, if_pos c1, if_pos c2]) tl0 trivial
      · skip
        refine e_iload (k := 11) (xi122 11) rfl ?_
        refine e_iconst (k := 12) (xi122 12) ?_
        refine e_c_lt (k := 13) (xi122 13) (fun c3 => ?_) (fun c3 => ?_)
        · skip
          refine e_iconst (k := 17) (xi122 17) ?_
          refine e_zret (k := 18) (xi122 18) (by first | decide | omega) ?_
          exact y_fW (Q := fun _ => True) (show v_n_length a b l M = 0 from by rw [v_n_length, if_pos c0, if_pos c1, if_neg c2, if_pos c3]) (show u_n_length a b l M = M from by rw [u_n_length, if_pos c0, if_pos c1, if_neg c2, if_pos c3]) tl0 trivial
        · skip
          refine e_iload (k := 14) (xi122 14) rfl ?_
          refine e_iconst (k := 15) (xi122 15) ?_
          refine e_c_le (k := 16) (xi122 16) (fun c4 => ?_) (fun c4 => ?_)
          · skip
            refine e_aload (k := 19) (xi122 19) rfl (by decide) ?_
            refine e_getR (j := 0) (w := 163) (k := 20) (xi122 20) (ok_mo hS) rfl (sh_all hS) ?_
            refine e_iconst (k := 21) (xi122 21) ?_
            refine e_iconst (k := 22) (xi122 22) ?_
            refine e_iload (k := 23) (xi122 23) rfl ?_
            refine e_imul (w := 12 * a) (k := 24) (xi122 24) (x_wn (by omega)) ?_
            refine e_iadd (w := 970 + 12 * a) (k := 25) (xi122 25) (x_wn (by omega)) ?_
            refine e_iload (k := 26) (xi122 26) rfl ?_
            refine e_iadd (w := 970 + 12 * a + b) (k := 27) (xi122 27) (x_wn (by omega)) ?_
            refine e_iload (k := 28) (xi122 28) rfl ?_
            refine e_iast (k := 29) (xi122 29) (ok_all hS) (by rw [ln_all]; omega) ?_
            have tl2 : y_TL 1 M (x_up M 163 (970 + 12 * a + b) l) := tl_up tl0 (sl_aL (i := 970 + 12 * a + b) (a := a) (b := b) (by omega) (by omega) (by omega) (by omega)) (nf_aL (i := 970 + 12 * a + b) (a := a) (b := b) (by omega) (by omega) (by omega))
            refine e_aload (k := 30) (xi122 30) rfl (by decide) ?_
            refine e_getR (j := 0) (w := 163) (k := 31) (xi122 31) (ok_mo hS) rfl (sh_all hS) ?_
            refine e_iconst (k := 32) (xi122 32) ?_
            refine e_iconst (k := 33) (xi122 33) ?_
            refine e_iload (k := 34) (xi122 34) rfl ?_
            refine e_imul (w := 12 * b) (k := 35) (xi122 35) (x_wn (by omega)) ?_
            refine e_iadd (w := 970 + 12 * b) (k := 36) (xi122 36) (x_wn (by omega)) ?_
            refine e_iload (k := 37) (xi122 37) rfl ?_
            refine e_iadd (w := 970 + 12 * b + a) (k := 38) (xi122 38) (x_wn (by omega)) ?_
            refine e_iload (k := 39) (xi122 39) rfl ?_
            refine e_iast (k := 40) (xi122 40) (ok_all hS) (by rw [ln_all]; omega) ?_
            have tl3 : y_TL 1 M (x_up ((x_up M 163 (970 + 12 * a + b) l)) 163 (970 + 12 * b + a) l) := tl_up tl2 (sl_aL (i := 970 + 12 * b + a) (a := b) (b := a) (by omega) (by omega) (by omega) (by omega)) (nf_aL (i := 970 + 12 * b + a) (a := b) (b := a) (by omega) (by omega) (by omega))
            refine e_iconst (k := 41) (xi122 41) ?_
            refine e_zret (k := 42) (xi122 42) (by first | decide | omega) ?_
            exact y_fW (Q := fun _ => True) (show v_n_length a b l M = 1 from by rw [v_n_length, if_pos c0, if_pos c1, if_neg c2, if_neg c3, if_pos c4]) (show u_n_length a b l M = (x_up ((x_up M 163 (970 + 12 * a + b) l)) 163 (970 + 12 * b + a) l) from by rw [u_n_length, if_pos c0, if_pos c1, if_neg c2, if_neg c3, if_pos c4]) tl3 trivial
          · skip
            refine e_iconst (k := 17) (xi122 17) ?_
            refine e_zret (k := 18) (xi122 18) (by first | decide | omega) ?_
            exact y_fW (Q := fun _ => True) (show v_n_length a b l M = 0 from by rw [v_n_length, if_pos c0, if_pos c1, if_neg c2, if_neg c3, if_neg c4]) (show u_n_length a b l M = M from by rw [u_n_length, if_pos c0, if_pos c1, if_neg c2, if_neg c3, if_neg c4]) tl0 trivial
    · skip
      refine e_iconst (k := 17) (xi122 17) ?_
      refine e_zret (k := 18) (xi122 18) (by first | decide | omega) ?_
      exact y_fW (Q := fun _ => True) (show v_n_length a b l M = 0 from by rw [v_n_length, if_pos c0, if_neg c1]) (show u_n_length a b l M = M from by rw [u_n_length, if_pos c0, if_neg c1]) tl0 trivial
  · skip
    refine e_iconst (k := 17) (xi122 17) ?_
    refine e_zret (k := 18) (xi122 18) (by first | decide | omega) ?_
    exact y_fW (Q := fun _ => True) (show v_n_length a b l M = 0 from by rw [v_n_length, if_neg c0]) (show u_n_length a b l M = M from by rw [u_n_length, if_neg c0]) tl0 trivial
def v_n_next (a b : Int) (M : Int → Int → Int) : Int := if 0 ≤ a ∧ a < M 163 0 then (if 0 ≤ b ∧ b < M 163 0 then (if ¬ a = b then (if ¬ M 163 (25 + 80 * a) = 8 then (if 0 ≤ M 163 (25 + 80 * a) then 1 + M 163 (25 + 80 * a) else 1) else (-1)) else (-1)) else (-1)) else (-1)
def u_n_next (a b : Int) (M : Int → Int → Int) : Int → Int → Int := if 0 ≤ a ∧ a < M 163 0 then (if 0 ≤ b ∧ b < M 163 0 then (if ¬ a = b then (if ¬ M 163 (25 + 80 * a) = 8 then (if 0 ≤ M 163 (25 + 80 * a) then (x_up ((x_up M 163 (26 + 80 * a + M 163 (25 + 80 * a)) b)) 163 (25 + 80 * a) (1 + M 163 (25 + 80 * a))) else (x_up ((x_up ((x_up M 163 (25 + 80 * a) 0)) 163 (26 + 80 * a) b)) 163 (25 + 80 * a) 1)) else M) else M) else M) else M
theorem k_n_next {z : Int} {P M : Int → Int → Int} (hS : x_Sh z P) (hT : y_TC M) (a : Int) (b : Int)   : x_CallR 123 [.inr 162, .inl (a), .inl (b)] (z, P, M) (fun q => q = (some (.inl (v_n_next a b M)), (z, P, u_n_next a b M)) ∧ y_TL 8 M (u_n_next a b M) ∧ True) := by
  have tl0 : y_TL 8 M M := tl_refl hT
  refine e_body (ls0 := [.inr 162, .inl (a), .inl (b), x_un]) xm123 rfl ?_
  refine e_aload (k := 0) (xi123 0) rfl (by decide) ?_
  refine e_iload (k := 1) (xi123 1) rfl ?_
  have t1 := ty_a0 tl0.1
  refine e_call (k := 2) (v := some (.inl (x_b (0 ≤ a ∧ a < M 163 0)))) (h1 := (z, P, M)) (c1 := 0) (c2 := 0) (rest := []) (as := [.inr 162, .inl (a)]) (xi123 2) (by decide) xm114 rfl ⟨rfl, Nat.le_of_ble_eq_true rfl, by decide⟩ (Or.inr (x_okt (ok_mo hS))) (k_isStand hS tl0.1 a  ) ?_
  refine e_b_eq (k := 3) (xi123 3) (fun c0 => ?_) (fun c0 => ?_)
  · skip
    refine e_aload (k := 4) (xi123 4) rfl (by decide) ?_
    refine e_iload (k := 5) (xi123 5) rfl ?_
    refine e_call (k := 6) (v := some (.inl (x_b (0 ≤ b ∧ b < M 163 0)))) (h1 := (z, P, M)) (c1 := 0) (c2 := 0) (rest := []) (as := [.inr 162, .inl (b)]) (xi123 6) (by decide) xm114 rfl ⟨rfl, Nat.le_of_ble_eq_true rfl, by decide⟩ (Or.inr (x_okt (ok_mo hS))) (k_isStand hS tl0.1 b  ) ?_
    refine e_b_eq (k := 7) (xi123 7) (fun c1 => ?_) (fun c1 => ?_)
    · skip
      refine e_iload (k := 8) (xi123 8) rfl ?_
      refine e_iload (k := 9) (xi123 9) rfl ?_
      refine e_c_ne (k := 10) (xi123 10) (fun c2 => ?_) (fun c2 => ?_)
      · skip
        refine e_aload (k := 13) (xi123 13) rfl (by decide) ?_
        refine e_iload (k := 14) (xi123 14) rfl ?_
        refine e_call (k := 15) (v := some (.inl (10 + 80 * a))) (h1 := (z, P, M)) (c1 := 0) (c2 := 0) (rest := []) (as := [.inr 162, .inl (a)]) (xi123 15) (by decide) xm117 rfl ⟨rfl, Nat.le_of_ble_eq_true rfl, by decide⟩ (Or.inr (x_okt (ok_mo hS))) (k_mstandAt hS tl0.1 a (by omega)) ?_
        refine e_iconst (k := 16) (xi123 16) ?_
        refine e_iadd (w := 25 + 80 * a) (k := 17) (xi123 17) (x_wn (by omega)) ?_
        refine e_istore (k := 18) (xi123 18) (Nat.le_of_ble_eq_true rfl) ?_
        show x_Ev 123 19 [.inr 162, .inl (a), .inl (b), .inl (25 + 80 * a)] [] (0, 0) (z, P, M) _
        refine e_aload (k := 19) (xi123 19) rfl (by decide) ?_
        refine e_getR (j := 0) (w := 163) (k := 20) (xi123 20) (ok_mo hS) rfl (sh_all hS) ?_
        refine e_iload (k := 21) (xi123 21) rfl ?_
        have t2 := ty_aOc tl0.1 (i := 25 + 80 * a) (s := a) (by omega) (by omega)
        refine e_iald (w := M 163 (25 + 80 * a)) (k := 22) (xi123 22) (ok_all hS) (by rw [ln_all]; omega) rfl ?_
        refine e_iconst (k := 23) (xi123 23) ?_
        refine e_c_ne (k := 24) (xi123 24) (fun c3 => ?_) (fun c3 => ?_)
        · skip
          refine e_aload (k := 27) (xi123 27) rfl (by decide) ?_
          refine e_getR (j := 0) (w := 163) (k := 28) (xi123 28) (ok_mo hS) rfl (sh_all hS) ?_
          refine e_iload (k := 29) (xi123 29) rfl ?_
          refine e_iald (w := M 163 (25 + 80 * a)) (k := 30) (xi123 30) (ok_all hS) (by rw [ln_all]; omega) rfl ?_
          refine e_z_ge (k := 31) (xi123 31) (fun c4 => ?_) (fun c4 => ?_)
          · skip
            refine e_aload (k := 37) (xi123 37) rfl (by decide) ?_
            refine e_getR (j := 0) (w := 163) (k := 38) (xi123 38) (ok_mo hS) rfl (sh_all hS) ?_
            refine e_iload (k := 39) (xi123 39) rfl ?_
            refine e_iconst (k := 40) (xi123 40) ?_
            refine e_iadd (w := 26 + 80 * a) (k := 41) (xi123 41) (x_wn (by omega)) ?_
            refine e_aload (k := 42) (xi123 42) rfl (by decide) ?_
            refine e_getR (j := 0) (w := 163) (k := 43) (xi123 43) (ok_mo hS) rfl (sh_all hS) ?_
            refine e_iload (k := 44) (xi123 44) rfl ?_
            refine e_iald (w := M 163 (25 + 80 * a)) (k := 45) (xi123 45) (ok_all hS) (by rw [ln_all]; omega) rfl ?_
            refine e_iadd (w := 26 + 80 * a + M 163 (25 + 80 * a)) (k := 46) (xi123 46) (x_wn (by omega)) ?_
            refine e_iload (k := 47) (xi123 47) rfl ?_
            refine e_iast (k := 48) (xi123 48) (ok_all hS) (by rw [ln_all]; omega) ?_
            have tl3 : y_TL 8 M (x_up M 163 (26 + 80 * a + M 163 (25 + 80 * a)) b) := tl_up tl0 (sl_aO (i := 26 + 80 * a + M 163 (25 + 80 * a)) (s := a) (d := M 163 (25 + 80 * a)) (by omega) (by omega) (by omega) (by omega)) (nf8 (by omega))
            refine e_aload (k := 49) (xi123 49) rfl (by decide) ?_
            refine e_getR (j := 0) (w := 163) (k := 50) (xi123 50) (ok_mo hS) rfl (sh_all hS) ?_
            refine e_iload (k := 51) (xi123 51) rfl ?_
            refine e_dup2 (k := 52) (xi123 52) ?_
            refine e_iald (w := M 163 (25 + 80 * a)) (k := 53) (xi123 53) (ok_all hS) (by rw [ln_all]; omega) (((x_up_nk (by omega)).trans rfl)) ?_
            refine e_iconst (k := 54) (xi123 54) ?_
            refine e_iadd (w := 1 + M 163 (25 + 80 * a)) (k := 55) (xi123 55) (x_wn (by omega)) ?_
            refine e_iast (k := 56) (xi123 56) (ok_all hS) (by rw [ln_all]; omega) ?_
            have tl4 : y_TL 8 M (x_up ((x_up M 163 (26 + 80 * a + M 163 (25 + 80 * a)) b)) 163 (25 + 80 * a) (1 + M 163 (25 + 80 * a))) := tl_up tl3 (sl_aOc (i := 25 + 80 * a) (s := a) (by omega) (by omega) (by omega)) (nf8 (by omega))
            refine e_aload (k := 57) (xi123 57) rfl (by decide) ?_
            refine e_getR (j := 0) (w := 163) (k := 58) (xi123 58) (ok_mo hS) rfl (sh_all hS) ?_
            refine e_iload (k := 59) (xi123 59) rfl ?_
            refine e_iald (w := 1 + M 163 (25 + 80 * a)) (k := 60) (xi123 60) (ok_all hS) (by rw [ln_all]; omega) x_up_self ?_
            refine e_iret (k := 61) (xi123 61) ?_
            exact y_fW (Q := fun _ => True) (show v_n_next a b M = 1 + M 163 (25 + 80 * a) from by rw [v_n_next, if_pos c0, if_pos c1, if_pos c2, if_pos c3, if_pos c4]) (show u_n_next a b M = (x_up ((x_up M 163 (26 + 80 * a + M 163 (25 + 80 * a)) b)) 163 (25 + 80 * a) (1 + M 163 (25 + 80 * a))) from by rw [u_n_next, if_pos c0, if_pos c1, if_pos c2, if_pos c3, if_pos c4]) tl4 trivial
          · skip
            refine e_aload (k := 32) (xi123 32) rfl (by decide) ?_
            refine e_getR (j := 0) (w := 163) (k := 33) (xi123 33) (ok_mo hS) rfl (sh_all hS) ?_
            refine e_iload (k := 34) (xi123 34) rfl ?_
            refine e_iconst (k := 35) (xi123 35) ?_
            refine e_iast (k := 36) (xi123 36) (ok_all hS) (by rw [ln_all]; omega) ?_
            have tl5 : y_TL 8 M (x_up M 163 (25 + 80 * a) 0) := tl_up tl0 (sl_aOc (i := 25 + 80 * a) (s := a) (by omega) (by omega) (by omega)) (nf8 (by omega))
            refine e_aload (k := 37) (xi123 37) rfl (by decide) ?_
            refine e_getR (j := 0) (w := 163) (k := 38) (xi123 38) (ok_mo hS) rfl (sh_all hS) ?_
            refine e_iload (k := 39) (xi123 39) rfl ?_
            refine e_iconst (k := 40) (xi123 40) ?_
            refine e_iadd (w := 26 + 80 * a) (k := 41) (xi123 41) (x_wn (by omega)) ?_
            refine e_aload (k := 42) (xi123 42) rfl (by decide) ?_
            refine e_getR (j := 0) (w := 163) (k := 43) (xi123 43) (ok_mo hS) rfl (sh_all hS) ?_
            refine e_iload (k := 44) (xi123 44) rfl ?_
            refine e_iald (w := 0) (k := 45) (xi123 45) (ok_all hS) (by rw [ln_all]; omega) x_up_self ?_
            refine e_iadd (w := 26 + 80 * a) (k := 46) (xi123 46) (x_wn (by omega)) ?_
            refine e_iload (k := 47) (xi123 47) rfl ?_
            refine e_iast (k := 48) (xi123 48) (ok_all hS) (by rw [ln_all]; omega) ?_
            have tl6 : y_TL 8 M (x_up ((x_up M 163 (25 + 80 * a) 0)) 163 (26 + 80 * a) b) := tl_up tl5 (sl_aO (i := 26 + 80 * a) (s := a) (d := 0) (by omega) (by omega) (by omega) (by omega)) (nf8 (by omega))
            refine e_aload (k := 49) (xi123 49) rfl (by decide) ?_
            refine e_getR (j := 0) (w := 163) (k := 50) (xi123 50) (ok_mo hS) rfl (sh_all hS) ?_
            refine e_iload (k := 51) (xi123 51) rfl ?_
            refine e_dup2 (k := 52) (xi123 52) ?_
            refine e_iald (w := 0) (k := 53) (xi123 53) (ok_all hS) (by rw [ln_all]; omega) (((x_up_nk (by omega)).trans x_up_self)) ?_
            refine e_iconst (k := 54) (xi123 54) ?_
            refine e_iadd (w := 1) (k := 55) (xi123 55) (by decide) ?_
            refine e_iast (k := 56) (xi123 56) (ok_all hS) (by rw [ln_all]; omega) ?_
            have tl7 : y_TL 8 M (x_up ((x_up ((x_up M 163 (25 + 80 * a) 0)) 163 (26 + 80 * a) b)) 163 (25 + 80 * a) 1) := tl_up tl6 (sl_aOc (i := 25 + 80 * a) (s := a) (by omega) (by omega) (by omega)) (nf8 (by omega))
            refine e_aload (k := 57) (xi123 57) rfl (by decide) ?_
            refine e_getR (j := 0) (w := 163) (k := 58) (xi123 58) (ok_mo hS) rfl (sh_all hS) ?_
            refine e_iload (k := 59) (xi123 59) rfl ?_
            refine e_iald (w := 1) (k := 60) (xi123 60) (ok_all hS) (by rw [ln_all]; omega) x_up_self ?_
            refine e_iret (k := 61) (xi123 61) ?_
            exact y_fW (Q := fun _ => True) (show v_n_next a b M = 1 from by rw [v_n_next, if_pos c0, if_pos c1, if_pos c2, if_pos c3, if_neg c4]) (show u_n_next a b M = (x_up ((x_up ((x_up M 163 (25 + 80 * a) 0)) 163 (26 + 80 * a) b)) 163 (25 + 80 * a) 1) from by rw [u_n_next, if_pos c0, if_pos c1, if_pos c2, if_pos c3, if_neg c4]) tl7 trivial
        · skip
          refine e_iconst (k := 25) (xi123 25) ?_
          refine e_iret (k := 26) (xi123 26) ?_
          exact y_fW (Q := fun _ => True) (show v_n_next a b M = (-1) from by rw [v_n_next, if_pos c0, if_pos c1, if_pos c2, if_neg c3]) (show u_n_next a b M = M from by rw [u_n_next, if_pos c0, if_pos c1, if_pos c2, if_neg c3]) tl0 trivial
      · skip
        refine e_iconst (k := 11) (xi123 11) ?_
        refine e_iret (k := 12) (xi123 12) ?_
        exact y_fW (Q := fun _ => True) (show v_n_next a b M = (-1) from by rw [v_n_next, if_pos c0, if_pos c1, if_neg c2]) (show u_n_next a b M = M from by rw [u_n_next, if_pos c0, if_pos c1, if_neg c2]) tl0 trivial
    · skip
      refine e_iconst (k := 11) (xi123 11) ?_
      refine e_iret (k := 12) (xi123 12) ?_
      exact y_fW (Q := fun _ => True) (show v_n_next a b M = (-1) from by rw [v_n_next, if_pos c0, if_neg c1]) (show u_n_next a b M = M from by rw [u_n_next, if_pos c0, if_neg c1]) tl0 trivial
  · skip
    refine e_iconst (k := 11) (xi123 11) ?_
    refine e_iret (k := 12) (xi123 12) ?_
    exact y_fW (Q := fun _ => True) (show v_n_next a b M = (-1) from by rw [v_n_next, if_neg c0]) (show u_n_next a b M = M from by rw [u_n_next, if_neg c0]) tl0 trivial
def v_n_tear (a b : Int) (M : Int → Int → Int) : Int := if 0 ≤ a ∧ a < M 163 0 then (if 0 ≤ b ∧ b < 2 then (if ¬ b = 0 then (if ¬ b = 0 then (if ¬ M 163 (34 + 80 * a) = 0 then (if ¬ b = 0 then 1 else 1) else 0) else if ¬ M 163 (34 + 80 * a) = (-1) then (if ¬ b = 0 then 1 else 1) else 0) else if ¬ b = 0 then (if ¬ M 163 (25 + 80 * a) = 0 then (if ¬ b = 0 then 1 else 1) else 0) else if ¬ M 163 (25 + 80 * a) = (-1) then (if ¬ b = 0 then 1 else 1) else 0) else 0) else 0
def u_n_tear (a b : Int) (M : Int → Int → Int) : Int → Int → Int := if 0 ≤ a ∧ a < M 163 0 then (if 0 ≤ b ∧ b < 2 then (if ¬ b = 0 then (if ¬ b = 0 then (if ¬ M 163 (34 + 80 * a) = 0 then (if ¬ b = 0 then (x_up M 163 (34 + 80 * a) 0) else (x_up M 163 (34 + 80 * a) ((-1)))) else M) else if ¬ M 163 (34 + 80 * a) = (-1) then (if ¬ b = 0 then (x_up M 163 (34 + 80 * a) 0) else (x_up M 163 (34 + 80 * a) ((-1)))) else M) else if ¬ b = 0 then (if ¬ M 163 (25 + 80 * a) = 0 then (if ¬ b = 0 then (x_up M 163 (25 + 80 * a) 0) else (x_up M 163 (25 + 80 * a) ((-1)))) else M) else if ¬ M 163 (25 + 80 * a) = (-1) then (if ¬ b = 0 then (x_up M 163 (25 + 80 * a) 0) else (x_up M 163 (25 + 80 * a) ((-1)))) else M) else M) else M
theorem k_n_tear {z : Int} {P M : Int → Int → Int} (hS : x_Sh z P) (hT : y_TC M) (a : Int) (b : Int)   : x_CallR 124 [.inr 162, .inl (a), .inl (b)] (z, P, M) (fun q => q = (some (.inl (v_n_tear a b M)), (z, P, u_n_tear a b M)) ∧ y_TL 8 M (u_n_tear a b M) ∧ True) := by
  have tl0 : y_TL 8 M M := tl_refl hT
  refine e_body (ls0 := [.inr 162, .inl (a), .inl (b), x_un]) xm124 rfl ?_
  refine e_aload (k := 0) (xi124 0) rfl (by decide) ?_
  refine e_iload (k := 1) (xi124 1) rfl ?_
  have t1 := ty_a0 tl0.1
  refine e_call (k := 2) (v := some (.inl (x_b (0 ≤ a ∧ a < M 163 0)))) (h1 := (z, P, M)) (c1 := 0) (c2 := 0) (rest := []) (as := [.inr 162, .inl (a)]) (xi124 2) (by decide) xm114 rfl ⟨rfl, Nat.le_of_ble_eq_true rfl, by decide⟩ (Or.inr (x_okt (ok_mo hS))) (k_isStand hS tl0.1 a  ) ?_
  refine e_b_eq (k := 3) (xi124 3) (fun c0 => ?_) (fun c0 => ?_)
  · skip
    refine e_iload (k := 4) (xi124 4) rfl ?_
    refine e_iconst (k := 5) (xi124 5) ?_
    refine e_call (k := 6) (v := some (.inl (x_b (0 ≤ b ∧ b < 2)))) (h1 := (z, P, M)) (c1 := 0) (c2 := 0) (rest := []) (as := [.inl (b), .inl 2]) (xi124 6) (by decide) xm113 rfl ⟨rfl, Nat.le_of_ble_eq_true rfl, by decide⟩ (Or.inl rfl) (k_isIn hS tl0.1 b 2  ) ?_
    refine e_b_ne (k := 7) (xi124 7) (fun c1 => ?_) (fun c1 => ?_)
    · skip
      refine e_aload (k := 10) (xi124 10) rfl (by decide) ?_
      refine e_iload (k := 11) (xi124 11) rfl ?_
      refine e_call (k := 12) (v := some (.inl (10 + 80 * a))) (h1 := (z, P, M)) (c1 := 0) (c2 := 0) (rest := []) (as := [.inr 162, .inl (a)]) (xi124 12) (by decide) xm117 rfl ⟨rfl, Nat.le_of_ble_eq_true rfl, by decide⟩ (Or.inr (x_okt (ok_mo hS))) (k_mstandAt hS tl0.1 a (by omega)) ?_
      refine e_iload (k := 13) (xi124 13) rfl ?_
      refine e_z_ne (k := 14) (xi124 14) (fun c2 => ?_) (fun c2 => ?_)
      · skip
        refine e_iconst (k := 17) (xi124 17) ?_
        refine e_iadd (w := 34 + 80 * a) (k := 18) (xi124 18) (x_wn (by omega)) ?_
        refine e_istore (k := 19) (xi124 19) (Nat.le_of_ble_eq_true rfl) ?_
        show x_Ev 124 20 [.inr 162, .inl (a), .inl (b), .inl (34 + 80 * a)] [] (0, 0) (z, P, M) _
        refine e_aload (k := 20) (xi124 20) rfl (by decide) ?_
        refine e_getR (j := 0) (w := 163) (k := 21) (xi124 21) (ok_mo hS) rfl (sh_all hS) ?_
        refine e_iload (k := 22) (xi124 22) rfl ?_
        have t2 := ty_aFl tl0.1 (i := 34 + 80 * a) (s := a) (by omega) (by omega)
        refine e_iald (w := M 163 (34 + 80 * a)) (k := 23) (xi124 23) (ok_all hS) (by rw [ln_all]; omega) rfl ?_
        refine e_iload (k := 24) (xi124 24) rfl ?_
        refine e_z_ne (k := 25) (xi124 25) (fun c3 => ?_) (fun c3 => ?_)
        · skip
          refine e_iconst (k := 28) (xi124 28) ?_
          refine e_c_ne (k := 29) (xi124 29) (fun c4 => ?_) (fun c4 => ?_)
          · skip
            refine e_aload (k := 32) (xi124 32) rfl (by decide) ?_
            refine e_getR (j := 0) (w := 163) (k := 33) (xi124 33) (ok_mo hS) rfl (sh_all hS) ?_
            refine e_iload (k := 34) (xi124 34) rfl ?_
            refine e_iload (k := 35) (xi124 35) rfl ?_
            refine e_z_ne (k := 36) (xi124 36) (fun c5 => ?_) (fun c5 => ?_)
            · skip
              refine e_iconst (k := 39) (xi124 39) ?_
              refine e_iast (k := 40) (xi124 40) (ok_all hS) (by rw [ln_all]; omega) ?_
              have tl3 : y_TL 8 M (x_up M 163 (34 + 80 * a) 0) := tl_up tl0 (sl_aFl (i := 34 + 80 * a) (s := a) (by omega) (by omega) (by omega)) (nf8 (by omega))
              refine e_iconst (k := 41) (xi124 41) ?_
              refine e_zret (k := 42) (xi124 42) (by first | decide | omega) ?_
              exact y_fW (Q := fun _ => True) (show v_n_tear a b M = 1 from by rw [v_n_tear, if_pos c0, if_pos c1, if_pos c2, if_pos c3, if_pos c4, if_pos c5]) (show u_n_tear a b M = (x_up M 163 (34 + 80 * a) 0) from by rw [u_n_tear, if_pos c0, if_pos c1, if_pos c2, if_pos c3, if_pos c4, if_pos c5]) tl3 trivial
            · skip
              refine e_iconst (k := 37) (xi124 37) ?_
              refine e_goto (k := 38) (xi124 38) ?_
              refine e_iast (k := 40) (xi124 40) (ok_all hS) (by rw [ln_all]; omega) ?_
              have tl4 : y_TL 8 M (x_up M 163 (34 + 80 * a) ((-1))) := tl_up tl0 (sl_aFl (i := 34 + 80 * a) (s := a) (by omega) (by omega) (by omega)) (nf8 (by omega))
              refine e_iconst (k := 41) (xi124 41) ?_
              refine e_zret (k := 42) (xi124 42) (by first | decide | omega) ?_
              exact y_fW (Q := fun _ => True) (show v_n_tear a b M = 1 from by rw [v_n_tear, if_pos c0, if_pos c1, if_pos c2, if_pos c3, if_pos c4, if_neg c5]) (show u_n_tear a b M = (x_up M 163 (34 + 80 * a) ((-1))) from by rw [u_n_tear, if_pos c0, if_pos c1, if_pos c2, if_pos c3, if_pos c4, if_neg c5]) tl4 trivial
          · skip
            refine e_iconst (k := 30) (xi124 30) ?_
            refine e_zret (k := 31) (xi124 31) (by first | decide | omega) ?_
            exact y_fW (Q := fun _ => True) (show v_n_tear a b M = 0 from by rw [v_n_tear, if_pos c0, if_pos c1, if_pos c2, if_pos c3, if_neg c4]) (show u_n_tear a b M = M from by rw [u_n_tear, if_pos c0, if_pos c1, if_pos c2, if_pos c3, if_neg c4]) tl0 trivial
        · skip
          refine e_iconst (k := 26) (xi124 26) ?_
          refine e_goto (k := 27) (xi124 27) ?_
          refine e_c_ne (k := 29) (xi124 29) (fun c6 => ?_) (fun c6 => ?_)
          · skip
            refine e_aload (k := 32) (xi124 32) rfl (by decide) ?_
            refine e_getR (j := 0) (w := 163) (k := 33) (xi124 33) (ok_mo hS) rfl (sh_all hS) ?_
            refine e_iload (k := 34) (xi124 34) rfl ?_
            refine e_iload (k := 35) (xi124 35) rfl ?_
            refine e_z_ne (k := 36) (xi124 36) (fun c7 => ?_) (fun c7 => ?_)
            · skip
              refine e_iconst (k := 39) (xi124 39) ?_
              refine e_iast (k := 40) (xi124 40) (ok_all hS) (by rw [ln_all]; omega) ?_
              have tl5 : y_TL 8 M (x_up M 163 (34 + 80 * a) 0) := tl_up tl0 (sl_aFl (i := 34 + 80 * a) (s := a) (by omega) (by omega) (by omega)) (nf8 (by omega))
              refine e_iconst (k := 41) (xi124 41) ?_
              refine e_zret (k := 42) (xi124 42) (by first | decide | omega) ?_
              exact y_fW (Q := fun _ => True) (show v_n_tear a b M = 1 from by rw [v_n_tear, if_pos c0, if_pos c1, if_pos c2, if_neg c3, if_pos c6, if_pos c7]) (show u_n_tear a b M = (x_up M 163 (34 + 80 * a) 0) from by rw [u_n_tear, if_pos c0, if_pos c1, if_pos c2, if_neg c3, if_pos c6, if_pos c7]) tl5 trivial
            · skip
              refine e_iconst (k := 37) (xi124 37) ?_
              refine e_goto (k := 38) (xi124 38) ?_
              refine e_iast (k := 40) (xi124 40) (ok_all hS) (by rw [ln_all]; omega) ?_
              have tl6 : y_TL 8 M (x_up M 163 (34 + 80 * a) ((-1))) := tl_up tl0 (sl_aFl (i := 34 + 80 * a) (s := a) (by omega) (by omega) (by omega)) (nf8 (by omega))
              refine e_iconst (k := 41) (xi124 41) ?_
              refine e_zret (k := 42) (xi124 42) (by first | decide | omega) ?_
              exact y_fW (Q := fun _ => True) (show v_n_tear a b M = 1 from by rw [v_n_tear, if_pos c0, if_pos c1, if_pos c2, if_neg c3, if_pos c6, if_neg c7]) (show u_n_tear a b M = (x_up M 163 (34 + 80 * a) ((-1))) from by rw [u_n_tear, if_pos c0, if_pos c1, if_pos c2, if_neg c3, if_pos c6, if_neg c7]) tl6 trivial
          · skip
            refine e_iconst (k := 30) (xi124 30) ?_
            refine e_zret (k := 31) (xi124 31) (by first | decide | omega) ?_
            exact y_fW (Q := fun _ => True) (show v_n_tear a b M = 0 from by rw [v_n_tear, if_pos c0, if_pos c1, if_pos c2, if_neg c3, if_neg c6]) (show u_n_tear a b M = M from by rw [u_n_tear, if_pos c0, if_pos c1, if_pos c2, if_neg c3, if_neg c6]) tl0 trivial
      · skip
        refine e_iconst (k := 15) (xi124 15) ?_
        refine e_goto (k := 16) (xi124 16) ?_
        refine e_iadd (w := 25 + 80 * a) (k := 18) (xi124 18) (x_wn (by omega)) ?_
        refine e_istore (k := 19) (xi124 19) (Nat.le_of_ble_eq_true rfl) ?_
        show x_Ev 124 20 [.inr 162, .inl (a), .inl (b), .inl (25 + 80 * a)] [] (0, 0) (z, P, M) _
        refine e_aload (k := 20) (xi124 20) rfl (by decide) ?_
        refine e_getR (j := 0) (w := 163) (k := 21) (xi124 21) (ok_mo hS) rfl (sh_all hS) ?_
        refine e_iload (k := 22) (xi124 22) rfl ?_
        have t7 := ty_aOc tl0.1 (i := 25 + 80 * a) (s := a) (by omega) (by omega)
        refine e_iald (w := M 163 (25 + 80 * a)) (k := 23) (xi124 23) (ok_all hS) (by rw [ln_all]; omega) rfl ?_
        refine e_iload (k := 24) (xi124 24) rfl ?_
        refine e_z_ne (k := 25) (xi124 25) (fun c8 => ?_) (fun c8 => ?_)
        · skip
          refine e_iconst (k := 28) (xi124 28) ?_
          refine e_c_ne (k := 29) (xi124 29) (fun c9 => ?_) (fun c9 => ?_)
          · skip
            refine e_aload (k := 32) (xi124 32) rfl (by decide) ?_
            refine e_getR (j := 0) (w := 163) (k := 33) (xi124 33) (ok_mo hS) rfl (sh_all hS) ?_
            refine e_iload (k := 34) (xi124 34) rfl ?_
            refine e_iload (k := 35) (xi124 35) rfl ?_
            refine e_z_ne (k := 36) (xi124 36) (fun c10 => ?_) (fun c10 => ?_)
            · skip
              refine e_iconst (k := 39) (xi124 39) ?_
              refine e_iast (k := 40) (xi124 40) (ok_all hS) (by rw [ln_all]; omega) ?_
              have tl8 : y_TL 8 M (x_up M 163 (25 + 80 * a) 0) := tl_up tl0 (sl_aOc (i := 25 + 80 * a) (s := a) (by omega) (by omega) (by omega)) (nf8 (by omega))
              refine e_iconst (k := 41) (xi124 41) ?_
              refine e_zret (k := 42) (xi124 42) (by first | decide | omega) ?_
              exact y_fW (Q := fun _ => True) (show v_n_tear a b M = 1 from by rw [v_n_tear, if_pos c0, if_pos c1, if_neg c2, if_pos c8, if_pos c9, if_pos c10]) (show u_n_tear a b M = (x_up M 163 (25 + 80 * a) 0) from by rw [u_n_tear, if_pos c0, if_pos c1, if_neg c2, if_pos c8, if_pos c9, if_pos c10]) tl8 trivial
            · skip
              refine e_iconst (k := 37) (xi124 37) ?_
              refine e_goto (k := 38) (xi124 38) ?_
              refine e_iast (k := 40) (xi124 40) (ok_all hS) (by rw [ln_all]; omega) ?_
              have tl9 : y_TL 8 M (x_up M 163 (25 + 80 * a) ((-1))) := tl_up tl0 (sl_aOc (i := 25 + 80 * a) (s := a) (by omega) (by omega) (by omega)) (nf8 (by omega))
              refine e_iconst (k := 41) (xi124 41) ?_
              refine e_zret (k := 42) (xi124 42) (by first | decide | omega) ?_
              exact y_fW (Q := fun _ => True) (show v_n_tear a b M = 1 from by rw [v_n_tear, if_pos c0, if_pos c1, if_neg c2, if_pos c8, if_pos c9, if_neg c10]) (show u_n_tear a b M = (x_up M 163 (25 + 80 * a) ((-1))) from by rw [u_n_tear, if_pos c0, if_pos c1, if_neg c2, if_pos c8, if_pos c9, if_neg c10]) tl9 trivial
          · skip
            refine e_iconst (k := 30) (xi124 30) ?_
            refine e_zret (k := 31) (xi124 31) (by first | decide | omega) ?_
            exact y_fW (Q := fun _ => True) (show v_n_tear a b M = 0 from by rw [v_n_tear, if_pos c0, if_pos c1, if_neg c2, if_pos c8, if_neg c9]) (show u_n_tear a b M = M from by rw [u_n_tear, if_pos c0, if_pos c1, if_neg c2, if_pos c8, if_neg c9]) tl0 trivial
        · skip
          refine e_iconst (k := 26) (xi124 26) ?_
          refine e_goto (k := 27) (xi124 27) ?_
          refine e_c_ne (k := 29) (xi124 29) (fun c11 => ?_) (fun c11 => ?_)
          · skip
            refine e_aload (k := 32) (xi124 32) rfl (by decide) ?_
            refine e_getR (j := 0) (w := 163) (k := 33) (xi124 33) (ok_mo hS) rfl (sh_all hS) ?_
            refine e_iload (k := 34) (xi124 34) rfl ?_
            refine e_iload (k := 35) (xi124 35) rfl ?_
            refine e_z_ne (k := 36) (xi124 36) (fun c12 => ?_) (fun c12 => ?_)
            · skip
              refine e_iconst (k := 39) (xi124 39) ?_
              refine e_iast (k := 40) (xi124 40) (ok_all hS) (by rw [ln_all]; omega) ?_
              have tl10 : y_TL 8 M (x_up M 163 (25 + 80 * a) 0) := tl_up tl0 (sl_aOc (i := 25 + 80 * a) (s := a) (by omega) (by omega) (by omega)) (nf8 (by omega))
              refine e_iconst (k := 41) (xi124 41) ?_
              refine e_zret (k := 42) (xi124 42) (by first | decide | omega) ?_
              exact y_fW (Q := fun _ => True) (show v_n_tear a b M = 1 from by rw [v_n_tear, if_pos c0, if_pos c1, if_neg c2, if_neg c8, if_pos c11, if_pos c12]) (show u_n_tear a b M = (x_up M 163 (25 + 80 * a) 0) from by rw [u_n_tear, if_pos c0, if_pos c1, if_neg c2, if_neg c8, if_pos c11, if_pos c12]) tl10 trivial
            · skip
              refine e_iconst (k := 37) (xi124 37) ?_
              refine e_goto (k := 38) (xi124 38) ?_
              refine e_iast (k := 40) (xi124 40) (ok_all hS) (by rw [ln_all]; omega) ?_
              have tl11 : y_TL 8 M (x_up M 163 (25 + 80 * a) ((-1))) := tl_up tl0 (sl_aOc (i := 25 + 80 * a) (s := a) (by omega) (by omega) (by omega)) (nf8 (by omega))
              refine e_iconst (k := 41) (xi124 41) ?_
              refine e_zret (k := 42) (xi124 42) (by first | decide | omega) ?_
              exact y_fW (Q := fun _ => True) (show v_n_tear a b M = 1 from by rw [v_n_tear, if_pos c0, if_pos c1, if_neg c2, if_neg c8, if_pos c11, if_neg c12]) (show u_n_tear a b M = (x_up M 163 (25 + 80 * a) ((-1))) from by rw [u_n_tear, if_pos c0, if_pos c1, if_neg c2, if_neg c8, if_pos c11, if_neg c12]) tl11 trivial
          · skip
            refine e_iconst (k := 30) (xi124 30) ?_
            refine e_zret (k := 31) (xi124 31) (by first | decide | omega) ?_
            exact y_fW (Q := fun _ => True) (show v_n_tear a b M = 0 from by rw [v_n_tear, if_pos c0, if_pos c1, if_neg c2, if_neg c8, if_neg c11]) (show u_n_tear a b M = M from by rw [u_n_tear, if_pos c0, if_pos c1, if_neg c2, if_neg c8, if_neg c11]) tl0 trivial
    · skip
      refine e_iconst (k := 8) (xi124 8) ?_
      refine e_zret (k := 9) (xi124 9) (by first | decide | omega) ?_
      exact y_fW (Q := fun _ => True) (show v_n_tear a b M = 0 from by rw [v_n_tear, if_pos c0, if_neg c1]) (show u_n_tear a b M = M from by rw [u_n_tear, if_pos c0, if_neg c1]) tl0 trivial
  · skip
    refine e_iconst (k := 8) (xi124 8) ?_
    refine e_zret (k := 9) (xi124 9) (by first | decide | omega) ?_
    exact y_fW (Q := fun _ => True) (show v_n_tear a b M = 0 from by rw [v_n_tear, if_neg c0]) (show u_n_tear a b M = M from by rw [u_n_tear, if_neg c0]) tl0 trivial
def v_n_block (a b d : Int) (M : Int → Int → Int) : Int := if (0 ≤ a ∧ a < M 163 0) ∧ 0 ≤ b ∧ b < M 163 (10 + 80 * a) then (if d = 0 then (if M 163 (11 + 80 * a + b) = (-2) then (if d = 0 then 1 else 1) else 0) else if M 163 (11 + 80 * a + b) = (-1) then (if d = 0 then 1 else 1) else 0) else 0
def u_n_block (a b d : Int) (M : Int → Int → Int) : Int → Int → Int := if (0 ≤ a ∧ a < M 163 0) ∧ 0 ≤ b ∧ b < M 163 (10 + 80 * a) then (if d = 0 then (if M 163 (11 + 80 * a + b) = (-2) then (if d = 0 then (x_up M 163 (11 + 80 * a + b) ((-1))) else (x_up M 163 (11 + 80 * a + b) ((-2)))) else M) else if M 163 (11 + 80 * a + b) = (-1) then (if d = 0 then (x_up M 163 (11 + 80 * a + b) ((-1))) else (x_up M 163 (11 + 80 * a + b) ((-2)))) else M) else M
theorem k_n_block {z : Int} {P M : Int → Int → Int} (hS : x_Sh z P) (hT : y_TC M) (a : Int) (b : Int) (d : Int)   : x_CallR 126 [.inr 162, .inl (a), .inl (b), .inl (d)] (z, P, M) (fun q => q = (some (.inl (v_n_block a b d M)), (z, P, u_n_block a b d M)) ∧ y_TL 1 M (u_n_block a b d M) ∧ True) := by
  have tl0 : y_TL 1 M M := tl_refl hT
  refine e_body (ls0 := [.inr 162, .inl (a), .inl (b), .inl (d), x_un]) xm126 rfl ?_
  refine e_aload (k := 0) (xi126 0) rfl (by decide) ?_
  refine e_iload (k := 1) (xi126 1) rfl ?_
  refine e_iload (k := 2) (xi126 2) rfl ?_
  have t1 := ty_a0 tl0.1
  refine e_call (k := 3) (v := some (.inl (x_b ((0 ≤ a ∧ a < M 163 0) ∧ 0 ≤ b ∧ b < M 163 (10 + 80 * a))))) (h1 := (z, P, M)) (c1 := 0) (c2 := 0) (rest := []) (as := [.inr 162, .inl (a), .inl (b)]) (xi126 3) (by decide) xm125 rfl ⟨rfl, Nat.le_of_ble_eq_true rfl, by decide⟩ (Or.inr (x_okt (ok_mo hS))) (k_misDock hS tl0.1 a b  ) ?_
  refine e_b_ne (k := 4) (xi126 4) (fun c0 => ?_) (fun c0 => ?_)
  · skip
    have t2 := ty_aD tl0.1 (i := 10 + 80 * a) (s := a) (by omega) (by omega)
    refine e_aload (k := 7) (xi126 7) rfl (by decide) ?_
    refine e_iload (k := 8) (xi126 8) rfl ?_
    refine e_iload (k := 9) (xi126 9) rfl ?_
    refine e_call (k := 10) (v := some (.inl (11 + 80 * a + b))) (h1 := (z, P, M)) (c1 := 0) (c2 := 0) (rest := []) (as := [.inr 162, .inl (a), .inl (b)]) (xi126 10) (by decide) xm119 rfl ⟨rfl, Nat.le_of_ble_eq_true rfl, by decide⟩ (Or.inr (x_okt (ok_mo hS))) (k_mdockAt hS tl0.1 a b (by omega) (by omega)) ?_
    refine e_istore (k := 11) (xi126 11) (Nat.le_of_ble_eq_true rfl) ?_
    show x_Ev 126 12 [.inr 162, .inl (a), .inl (b), .inl (d), .inl (11 + 80 * a + b)] [] (0, 0) (z, P, M) _
    refine e_aload (k := 12) (xi126 12) rfl (by decide) ?_
    refine e_getR (j := 0) (w := 163) (k := 13) (xi126 13) (ok_mo hS) rfl (sh_all hS) ?_
    refine e_iload (k := 14) (xi126 14) rfl ?_
    have t3 := ty_aC tl0.1 (i := 11 + 80 * a + b) (s := a) (d := b) (by omega) (by omega) (by omega)
    refine e_iald (w := M 163 (11 + 80 * a + b)) (k := 15) (xi126 15) (ok_all hS) (by rw [ln_all]; omega) rfl ?_
    refine e_iload (k := 16) (xi126 16) rfl ?_
    refine e_z_eq (k := 17) (xi126 17) (fun c1 => ?_) (fun c1 => ?_)
    · skip
      refine e_iconst (k := 20) (xi126 20) ?_
      refine e_c_eq (k := 21) (xi126 21) (fun c2 => ?_) (fun c2 => ?_)
      · skip
        refine e_aload (k := 24) (xi126 24) rfl (by decide) ?_
        refine e_getR (j := 0) (w := 163) (k := 25) (xi126 25) (ok_mo hS) rfl (sh_all hS) ?_
        refine e_iload (k := 26) (xi126 26) rfl ?_
        refine e_iload (k := 27) (xi126 27) rfl ?_
        refine e_z_eq (k := 28) (xi126 28) (fun c3 => ?_) (fun c3 => ?_)
        · skip
          refine e_iconst (k := 31) (xi126 31) ?_
          refine e_iast (k := 32) (xi126 32) (ok_all hS) (by rw [ln_all]; omega) ?_
          have tl4 : y_TL 1 M (x_up M 163 (11 + 80 * a + b) ((-1))) := tl_up tl0 (sl_aC (i := 11 + 80 * a + b) (s := a) (d := b) (by omega) (by omega) (by omega) (by omega)) (nf_aC (i := 11 + 80 * a + b) (s := a) (d := b) (by omega) (by omega) (by omega))
          refine e_iconst (k := 33) (xi126 33) ?_
          refine e_zret (k := 34) (xi126 34) (by first | decide | omega) ?_
          exact y_fW (Q := fun _ => True) (show v_n_block a b d M = 1 from by rw [v_n_block, if_pos c0, if_pos c1, if_pos c2, if_pos c3]) (show u_n_block a b d M = (x_up M 163 (11 + 80 * a + b) ((-1))) from by rw [u_n_block, if_pos c0, if_pos c1, if_pos c2, if_pos c3]) tl4 trivial
        · skip
          refine e_iconst (k := 29) (xi126 29) ?_
          refine e_goto (k := 30) (xi126 30) ?_
          refine e_iast (k := 32) (xi126 32) (ok_all hS) (by rw [ln_all]; omega) ?_
          have tl5 : y_TL 1 M (x_up M 163 (11 + 80 * a + b) ((-2))) := tl_up tl0 (sl_aC (i := 11 + 80 * a + b) (s := a) (d := b) (by omega) (by omega) (by omega) (by omega)) (nf_aC (i := 11 + 80 * a + b) (s := a) (d := b) (by omega) (by omega) (by omega))
          refine e_iconst (k := 33) (xi126 33) ?_
          refine e_zret (k := 34) (xi126 34) (by first | decide | omega) ?_
          exact y_fW (Q := fun _ => True) (show v_n_block a b d M = 1 from by rw [v_n_block, if_pos c0, if_pos c1, if_pos c2, if_neg c3]) (show u_n_block a b d M = (x_up M 163 (11 + 80 * a + b) ((-2))) from by rw [u_n_block, if_pos c0, if_pos c1, if_pos c2, if_neg c3]) tl5 trivial
      · skip
        refine e_iconst (k := 22) (xi126 22) ?_
        refine e_zret (k := 23) (xi126 23) (by first | decide | omega) ?_
        exact y_fW (Q := fun _ => True) (show v_n_block a b d M = 0 from by rw [v_n_block, if_pos c0, if_pos c1, if_neg c2]) (show u_n_block a b d M = M from by rw [u_n_block, if_pos c0, if_pos c1, if_neg c2]) tl0 trivial
    · skip
      refine e_iconst (k := 18) (xi126 18) ?_
      refine e_goto (k := 19) (xi126 19) ?_
      refine e_c_eq (k := 21) (xi126 21) (fun c4 => ?_) (fun c4 => ?_)
      · skip
        refine e_aload (k := 24) (xi126 24) rfl (by decide) ?_
        refine e_getR (j := 0) (w := 163) (k := 25) (xi126 25) (ok_mo hS) rfl (sh_all hS) ?_
        refine e_iload (k := 26) (xi126 26) rfl ?_
        refine e_iload (k := 27) (xi126 27) rfl ?_
        refine e_z_eq (k := 28) (xi126 28) (fun c5 => ?_) (fun c5 => ?_)
        · skip
          refine e_iconst (k := 31) (xi126 31) ?_
          refine e_iast (k := 32) (xi126 32) (ok_all hS) (by rw [ln_all]; omega) ?_
          have tl6 : y_TL 1 M (x_up M 163 (11 + 80 * a + b) ((-1))) := tl_up tl0 (sl_aC (i := 11 + 80 * a + b) (s := a) (d := b) (by omega) (by omega) (by omega) (by omega)) (nf_aC (i := 11 + 80 * a + b) (s := a) (d := b) (by omega) (by omega) (by omega))
          refine e_iconst (k := 33) (xi126 33) ?_
          refine e_zret (k := 34) (xi126 34) (by first | decide | omega) ?_
          exact y_fW (Q := fun _ => True) (show v_n_block a b d M = 1 from by rw [v_n_block, if_pos c0, if_neg c1, if_pos c4, if_pos c5]) (show u_n_block a b d M = (x_up M 163 (11 + 80 * a + b) ((-1))) from by rw [u_n_block, if_pos c0, if_neg c1, if_pos c4, if_pos c5]) tl6 trivial
        · skip
          refine e_iconst (k := 29) (xi126 29) ?_
          refine e_goto (k := 30) (xi126 30) ?_
          refine e_iast (k := 32) (xi126 32) (ok_all hS) (by rw [ln_all]; omega) ?_
          have tl7 : y_TL 1 M (x_up M 163 (11 + 80 * a + b) ((-2))) := tl_up tl0 (sl_aC (i := 11 + 80 * a + b) (s := a) (d := b) (by omega) (by omega) (by omega) (by omega)) (nf_aC (i := 11 + 80 * a + b) (s := a) (d := b) (by omega) (by omega) (by omega))
          refine e_iconst (k := 33) (xi126 33) ?_
          refine e_zret (k := 34) (xi126 34) (by first | decide | omega) ?_
          exact y_fW (Q := fun _ => True) (show v_n_block a b d M = 1 from by rw [v_n_block, if_pos c0, if_neg c1, if_pos c4, if_neg c5]) (show u_n_block a b d M = (x_up M 163 (11 + 80 * a + b) ((-2))) from by rw [u_n_block, if_pos c0, if_neg c1, if_pos c4, if_neg c5]) tl7 trivial
      · skip
        refine e_iconst (k := 22) (xi126 22) ?_
        refine e_zret (k := 23) (xi126 23) (by first | decide | omega) ?_
        exact y_fW (Q := fun _ => True) (show v_n_block a b d M = 0 from by rw [v_n_block, if_pos c0, if_neg c1, if_neg c4]) (show u_n_block a b d M = M from by rw [u_n_block, if_pos c0, if_neg c1, if_neg c4]) tl0 trivial
  · skip
    refine e_iconst (k := 5) (xi126 5) ?_
    refine e_zret (k := 6) (xi126 6) (by first | decide | omega) ?_
    exact y_fW (Q := fun _ => True) (show v_n_block a b d M = 0 from by rw [v_n_block, if_neg c0]) (show u_n_block a b d M = M from by rw [u_n_block, if_neg c0]) tl0 trivial
def v_n_dock (a b : Int) (M : Int → Int → Int) : Int := if (0 ≤ a ∧ a < M 163 0) ∧ 0 ≤ b ∧ b < M 163 (10 + 80 * a) then M 163 (11 + 80 * a + b) else (-3)
theorem k_n_dock {z : Int} {P M : Int → Int → Int} (hS : x_Sh z P) (hT : y_TC M) (a : Int) (b : Int)   : x_CallR 127 [.inr 162, .inl (a), .inl (b)] (z, P, M) (fun q => q = (some (.inl (v_n_dock a b M)), (z, P, M)) ∧ True) := by
  refine e_body (ls0 := [.inr 162, .inl (a), .inl (b)]) xm127 rfl ?_
  refine e_aload (k := 0) (xi127 0) rfl (by decide) ?_
  refine e_iload (k := 1) (xi127 1) rfl ?_
  refine e_iload (k := 2) (xi127 2) rfl ?_
  have t1 := ty_a0 hT
  refine e_call (k := 3) (v := some (.inl (x_b ((0 ≤ a ∧ a < M 163 0) ∧ 0 ≤ b ∧ b < M 163 (10 + 80 * a))))) (h1 := (z, P, M)) (c1 := 0) (c2 := 0) (rest := []) (as := [.inr 162, .inl (a), .inl (b)]) (xi127 3) (by decide) xm125 rfl ⟨rfl, Nat.le_of_ble_eq_true rfl, by decide⟩ (Or.inr (x_okt (ok_mo hS))) (k_misDock hS hT a b  ) ?_
  refine e_b_eq (k := 4) (xi127 4) (fun c0 => ?_) (fun c0 => ?_)
  · skip
    have t2 := ty_aD hT (i := 10 + 80 * a) (s := a) (by omega) (by omega)
    refine e_aload (k := 5) (xi127 5) rfl (by decide) ?_
    refine e_getR (j := 0) (w := 163) (k := 6) (xi127 6) (ok_mo hS) rfl (sh_all hS) ?_
    refine e_aload (k := 7) (xi127 7) rfl (by decide) ?_
    refine e_iload (k := 8) (xi127 8) rfl ?_
    refine e_iload (k := 9) (xi127 9) rfl ?_
    refine e_call (k := 10) (v := some (.inl (11 + 80 * a + b))) (h1 := (z, P, M)) (c1 := 0) (c2 := 0) (rest := [.inr 163]) (as := [.inr 162, .inl (a), .inl (b)]) (xi127 10) (by decide) xm119 rfl ⟨rfl, Nat.le_of_ble_eq_true rfl, by decide⟩ (Or.inr (x_okt (ok_mo hS))) (k_mdockAt hS hT a b (by omega) (by omega)) ?_
    have t3 := ty_aC hT (i := 11 + 80 * a + b) (s := a) (d := b) (by omega) (by omega) (by omega)
    refine e_iald (w := M 163 (11 + 80 * a + b)) (k := 11) (xi127 11) (ok_all hS) (by rw [ln_all]; omega) rfl ?_
    refine e_goto (k := 12) (xi127 12) ?_
    refine e_iret (k := 14) (xi127 14) ?_
    exact y_fV (Q := fun _ => True) (show v_n_dock a b M = M 163 (11 + 80 * a + b) from by rw [v_n_dock, if_pos c0]) trivial
  · skip
    refine e_iconst (k := 13) (xi127 13) ?_
    refine e_iret (k := 14) (xi127 14) ?_
    exact y_fV (Q := fun _ => True) (show v_n_dock a b M = (-3) from by rw [v_n_dock, if_neg c0]) trivial
def v_n_tell (a b : Int) (M : Int → Int → Int) : Int := if 0 ≤ a ∧ a < M 163 0 then (if b = 0 then M 163 (10 + 80 * a) else if b = 1 then v_m_cntD a ((-1)) M else if b = 2 then v_m_cntW a 0 0 M else if b = 3 then v_m_cntW a 0 1 M else if b = 4 then M 163 (23 + 80 * a) else if b = 5 then M 163 (24 + 80 * a) else if b = 6 then M 163 (25 + 80 * a) else if b = 7 then v_m_cntW a 3 0 M else (-3)) else (-3)
theorem k_n_tell {z : Int} {P M : Int → Int → Int} (hS : x_Sh z P) (hT : y_TC M) (a : Int) (b : Int)   : x_CallR 132 [.inr 162, .inl (a), .inl (b)] (z, P, M) (fun q => q = (some (.inl (v_n_tell a b M)), (z, P, M)) ∧ True) := by
  refine e_body (ls0 := [.inr 162, .inl (a), .inl (b)]) xm132 rfl ?_
  refine e_aload (k := 0) (xi132 0) rfl (by decide) ?_
  refine e_iload (k := 1) (xi132 1) rfl ?_
  have t1 := ty_a0 hT
  refine e_call (k := 2) (v := some (.inl (x_b (0 ≤ a ∧ a < M 163 0)))) (h1 := (z, P, M)) (c1 := 0) (c2 := 0) (rest := []) (as := [.inr 162, .inl (a)]) (xi132 2) (by decide) xm114 rfl ⟨rfl, Nat.le_of_ble_eq_true rfl, by decide⟩ (Or.inr (x_okt (ok_mo hS))) (k_isStand hS hT a  ) ?_
  refine e_b_ne (k := 3) (xi132 3) (fun c0 => ?_) (fun c0 => ?_)
  · skip
    refine e_iload (k := 6) (xi132 6) rfl ?_
    by_cases c1 : b = 0
    · skip
      refine e_sw (t2 := 8) (k := 7) (xi132 7) (by rw [c1]; decide +kernel) ?_
      refine e_aload (k := 8) (xi132 8) rfl (by decide) ?_
      refine e_iload (k := 9) (xi132 9) rfl ?_
      have t2 := ty_aD hT (i := 10 + 80 * a) (s := a) (by omega) (by omega)
      refine e_call (k := 10) (v := some (.inl (M 163 (10 + 80 * a)))) (h1 := (z, P, M)) (c1 := 0) (c2 := 0) (rest := []) (as := [.inr 162, .inl (a)]) (xi132 10) (by decide) xm118 rfl ⟨rfl, Nat.le_of_ble_eq_true rfl, by decide⟩ (Or.inr (x_okt (ok_mo hS))) (k_mdocks hS hT a (10 + 80 * a) (by omega) (by omega)) ?_
      refine e_iret (k := 11) (xi132 11) ?_
      exact y_fV (Q := fun _ => True) (show v_n_tell a b M = M 163 (10 + 80 * a) from by rw [v_n_tell, if_pos c0, if_pos c1]) trivial
    by_cases c2 : b = 1
    · skip
      refine e_sw (t2 := 12) (k := 7) (xi132 7) (by rw [c2]; decide +kernel) ?_
      refine e_aload (k := 12) (xi132 12) rfl (by decide) ?_
      refine e_iload (k := 13) (xi132 13) rfl ?_
      refine e_iconst (k := 14) (xi132 14) ?_
      refine e_callR (k := 15) (c1 := 0) (c2 := 0) (rest := []) (as := [.inr 162, .inl (a), .inl ((-1))]) (xi132 15) (by decide) xm128 rfl ⟨rfl, Nat.le_of_ble_eq_true rfl, by decide⟩ (Or.inr (x_okt (ok_mo hS))) (k_m_cntD hS hT a ((-1))  (by omega)) ?_
      rintro v_ h_ ⟨e3, q5⟩
      cases e3
      show x_Ev 132 16 [.inr 162, .inl (a), .inl (b)] [.inl (v_m_cntD a ((-1)) M)] (0, 0) (z, P, M) _
      refine e_iret (k := 16) (xi132 16) ?_
      exact y_fV (Q := fun _ => True) (show v_n_tell a b M = v_m_cntD a ((-1)) M from by rw [v_n_tell, if_pos c0, if_neg c1, if_pos c2]) trivial
    by_cases c3 : b = 2
    · skip
      refine e_sw (t2 := 17) (k := 7) (xi132 7) (by rw [c3]; decide +kernel) ?_
      refine e_aload (k := 17) (xi132 17) rfl (by decide) ?_
      refine e_iload (k := 18) (xi132 18) rfl ?_
      refine e_iconst (k := 19) (xi132 19) ?_
      refine e_iconst (k := 20) (xi132 20) ?_
      refine e_callR (k := 21) (c1 := 0) (c2 := 0) (rest := []) (as := [.inr 162, .inl (a), .inl 0, .inl 0]) (xi132 21) (by decide) xm131 rfl ⟨rfl, Nat.le_of_ble_eq_true rfl, by decide⟩ (Or.inr (x_okt (ok_mo hS))) (k_m_cntW hS hT a 0 0  ) ?_
      rintro v_ h_ ⟨e6, q8⟩
      cases e6
      show x_Ev 132 22 [.inr 162, .inl (a), .inl (b)] [.inl (v_m_cntW a 0 0 M)] (0, 0) (z, P, M) _
      refine e_iret (k := 22) (xi132 22) ?_
      exact y_fV (Q := fun _ => True) (show v_n_tell a b M = v_m_cntW a 0 0 M from by rw [v_n_tell, if_pos c0, if_neg c1, if_neg c2, if_pos c3]) trivial
    by_cases c4 : b = 3
    · skip
      refine e_sw (t2 := 23) (k := 7) (xi132 7) (by rw [c4]; decide +kernel) ?_
      refine e_aload (k := 23) (xi132 23) rfl (by decide) ?_
      refine e_iload (k := 24) (xi132 24) rfl ?_
      refine e_iconst (k := 25) (xi132 25) ?_
      refine e_iconst (k := 26) (xi132 26) ?_
      refine e_callR (k := 27) (c1 := 0) (c2 := 0) (rest := []) (as := [.inr 162, .inl (a), .inl 0, .inl 1]) (xi132 27) (by decide) xm131 rfl ⟨rfl, Nat.le_of_ble_eq_true rfl, by decide⟩ (Or.inr (x_okt (ok_mo hS))) (k_m_cntW hS hT a 0 1  ) ?_
      rintro v_ h_ ⟨e9, q11⟩
      cases e9
      show x_Ev 132 28 [.inr 162, .inl (a), .inl (b)] [.inl (v_m_cntW a 0 1 M)] (0, 0) (z, P, M) _
      refine e_iret (k := 28) (xi132 28) ?_
      exact y_fV (Q := fun _ => True) (show v_n_tell a b M = v_m_cntW a 0 1 M from by rw [v_n_tell, if_pos c0, if_neg c1, if_neg c2, if_neg c3, if_pos c4]) trivial
    by_cases c5 : b = 4
    · skip
      refine e_sw (t2 := 29) (k := 7) (xi132 7) (by rw [c5]; decide +kernel) ?_
      refine e_aload (k := 29) (xi132 29) rfl (by decide) ?_
      refine e_getR (j := 0) (w := 163) (k := 30) (xi132 30) (ok_mo hS) rfl (sh_all hS) ?_
      refine e_aload (k := 31) (xi132 31) rfl (by decide) ?_
      refine e_iload (k := 32) (xi132 32) rfl ?_
      refine e_call (k := 33) (v := some (.inl (10 + 80 * a))) (h1 := (z, P, M)) (c1 := 0) (c2 := 0) (rest := [.inr 163]) (as := [.inr 162, .inl (a)]) (xi132 33) (by decide) xm117 rfl ⟨rfl, Nat.le_of_ble_eq_true rfl, by decide⟩ (Or.inr (x_okt (ok_mo hS))) (k_mstandAt hS hT a (by omega)) ?_
      refine e_iconst (k := 34) (xi132 34) ?_
      refine e_iadd (w := 23 + 80 * a) (k := 35) (xi132 35) (x_wn (by omega)) ?_
      refine e_iald (w := M 163 (23 + 80 * a)) (k := 36) (xi132 36) (ok_all hS) (by rw [ln_all]; omega) rfl ?_
      refine e_iret (k := 37) (xi132 37) ?_
      exact y_fV (Q := fun _ => True) (show v_n_tell a b M = M 163 (23 + 80 * a) from by rw [v_n_tell, if_pos c0, if_neg c1, if_neg c2, if_neg c3, if_neg c4, if_pos c5]) trivial
    by_cases c6 : b = 5
    · skip
      refine e_sw (t2 := 38) (k := 7) (xi132 7) (by rw [c6]; decide +kernel) ?_
      refine e_aload (k := 38) (xi132 38) rfl (by decide) ?_
      refine e_getR (j := 0) (w := 163) (k := 39) (xi132 39) (ok_mo hS) rfl (sh_all hS) ?_
      refine e_aload (k := 40) (xi132 40) rfl (by decide) ?_
      refine e_iload (k := 41) (xi132 41) rfl ?_
      refine e_call (k := 42) (v := some (.inl (10 + 80 * a))) (h1 := (z, P, M)) (c1 := 0) (c2 := 0) (rest := [.inr 163]) (as := [.inr 162, .inl (a)]) (xi132 42) (by decide) xm117 rfl ⟨rfl, Nat.le_of_ble_eq_true rfl, by decide⟩ (Or.inr (x_okt (ok_mo hS))) (k_mstandAt hS hT a (by omega)) ?_
      refine e_iconst (k := 43) (xi132 43) ?_
      refine e_iadd (w := 24 + 80 * a) (k := 44) (xi132 44) (x_wn (by omega)) ?_
      have t12 := ty_aWt hT (i := 24 + 80 * a) (s := a) (by omega) (by omega)
      refine e_iald (w := M 163 (24 + 80 * a)) (k := 45) (xi132 45) (ok_all hS) (by rw [ln_all]; omega) rfl ?_
      refine e_iret (k := 46) (xi132 46) ?_
      exact y_fV (Q := fun _ => True) (show v_n_tell a b M = M 163 (24 + 80 * a) from by rw [v_n_tell, if_pos c0, if_neg c1, if_neg c2, if_neg c3, if_neg c4, if_neg c5, if_pos c6]) trivial
    by_cases c7 : b = 6
    · skip
      refine e_sw (t2 := 47) (k := 7) (xi132 7) (by rw [c7]; decide +kernel) ?_
      refine e_aload (k := 47) (xi132 47) rfl (by decide) ?_
      refine e_getR (j := 0) (w := 163) (k := 48) (xi132 48) (ok_mo hS) rfl (sh_all hS) ?_
      refine e_aload (k := 49) (xi132 49) rfl (by decide) ?_
      refine e_iload (k := 50) (xi132 50) rfl ?_
      refine e_call (k := 51) (v := some (.inl (10 + 80 * a))) (h1 := (z, P, M)) (c1 := 0) (c2 := 0) (rest := [.inr 163]) (as := [.inr 162, .inl (a)]) (xi132 51) (by decide) xm117 rfl ⟨rfl, Nat.le_of_ble_eq_true rfl, by decide⟩ (Or.inr (x_okt (ok_mo hS))) (k_mstandAt hS hT a (by omega)) ?_
      refine e_iconst (k := 52) (xi132 52) ?_
      refine e_iadd (w := 25 + 80 * a) (k := 53) (xi132 53) (x_wn (by omega)) ?_
      have t13 := ty_aOc hT (i := 25 + 80 * a) (s := a) (by omega) (by omega)
      refine e_iald (w := M 163 (25 + 80 * a)) (k := 54) (xi132 54) (ok_all hS) (by rw [ln_all]; omega) rfl ?_
      refine e_iret (k := 55) (xi132 55) ?_
      exact y_fV (Q := fun _ => True) (show v_n_tell a b M = M 163 (25 + 80 * a) from by rw [v_n_tell, if_pos c0, if_neg c1, if_neg c2, if_neg c3, if_neg c4, if_neg c5, if_neg c6, if_pos c7]) trivial
    by_cases c8 : b = 7
    · skip
      refine e_sw (t2 := 56) (k := 7) (xi132 7) (by rw [c8]; decide +kernel) ?_
      refine e_aload (k := 56) (xi132 56) rfl (by decide) ?_
      refine e_iload (k := 57) (xi132 57) rfl ?_
      refine e_iconst (k := 58) (xi132 58) ?_
      refine e_iconst (k := 59) (xi132 59) ?_
      refine e_callR (k := 60) (c1 := 0) (c2 := 0) (rest := []) (as := [.inr 162, .inl (a), .inl 3, .inl 0]) (xi132 60) (by decide) xm131 rfl ⟨rfl, Nat.le_of_ble_eq_true rfl, by decide⟩ (Or.inr (x_okt (ok_mo hS))) (k_m_cntW hS hT a 3 0  ) ?_
      rintro v_ h_ ⟨e14, q16⟩
      cases e14
      show x_Ev 132 61 [.inr 162, .inl (a), .inl (b)] [.inl (v_m_cntW a 3 0 M)] (0, 0) (z, P, M) _
      refine e_iret (k := 61) (xi132 61) ?_
      exact y_fV (Q := fun _ => True) (show v_n_tell a b M = v_m_cntW a 3 0 M from by rw [v_n_tell, if_pos c0, if_neg c1, if_neg c2, if_neg c3, if_neg c4, if_neg c5, if_neg c6, if_neg c7, if_pos c8]) trivial
    refine e_sw (k := 7) (t2 := 62) (xi132 7) (if_pos (by omega)) ?_
    refine e_iconst (k := 62) (xi132 62) ?_
    refine e_iret (k := 63) (xi132 63) ?_
    exact y_fV (Q := fun _ => True) (show v_n_tell a b M = (-3) from by rw [v_n_tell, if_pos c0, if_neg c1, if_neg c2, if_neg c3, if_neg c4, if_neg c5, if_neg c6, if_neg c7, if_neg c8]) trivial
  · skip
    refine e_iconst (k := 4) (xi132 4) ?_
    refine e_iret (k := 5) (xi132 5) ?_
    exact y_fV (Q := fun _ => True) (show v_n_tell a b M = (-3) from by rw [v_n_tell, if_neg c0]) trivial
def v_n_put (a b d : Int) (M : Int → Int → Int) : Int := if M 163 1 = 60 then (-1) else if 0 ≤ a ∧ a < 4 then (if (((0 ≤ b ∧ b < M 163 0) ∧ 0 ≤ d ∧ d < M 163 (10 + 80 * b)) ∧ M 163 (11 + 80 * b + d) = -1) ∧ (a = 2 → 1 + d < M 163 (10 + 80 * b) ∧ M 163 (12 + 80 * b + d) = -1) then (if a = 1 ∨ a = 2 then M 163 1 else M 163 1) else (-1)) else (-1)
def u_n_put (a b d : Int) (M : Int → Int → Int) : Int → Int → Int := if M 163 1 = 60 then M else if 0 ≤ a ∧ a < 4 then (if (((0 ≤ b ∧ b < M 163 0) ∧ 0 ≤ d ∧ d < M 163 (10 + 80 * b)) ∧ M 163 (11 + 80 * b + d) = -1) ∧ (a = 2 → 1 + d < M 163 (10 + 80 * b) ∧ M 163 (12 + 80 * b + d) = -1) then (if a = 1 ∨ a = 2 then (u_m_comes (M 163 1) b d ((x_up ((x_up ((x_up ((x_up ((x_up ((x_up M 163 1 (1 + M 163 1))) 163 (1114 + 8 * M 163 1) a)) 163 (1115 + 8 * M 163 1) 1000)) 163 (1119 + 8 * M 163 1) 0)) 163 (1120 + 8 * M 163 1) 0)) 163 (1121 + 8 * M 163 1) ((-1))))) else (u_m_comes (M 163 1) b d ((x_up ((x_up ((x_up ((x_up ((x_up ((x_up M 163 1 (1 + M 163 1))) 163 (1114 + 8 * M 163 1) a)) 163 (1115 + 8 * M 163 1) 0)) 163 (1119 + 8 * M 163 1) 0)) 163 (1120 + 8 * M 163 1) 0)) 163 (1121 + 8 * M 163 1) ((-1)))))) else M) else M
theorem k_n_put {z : Int} {P M : Int → Int → Int} (hS : x_Sh z P) (hT : y_TC M) (a : Int) (b : Int) (d : Int)   : x_CallR 139 [.inr 162, .inl (a), .inl (b), .inl (d)] (z, P, M) (fun q => q = (some (.inl (v_n_put a b d M)), (z, P, u_n_put a b d M)) ∧ y_TL 10 M (u_n_put a b d M) ∧ True) := by
  have tl0 : y_TL 10 M M := tl_refl hT
  refine e_body (ls0 := [.inr 162, .inl (a), .inl (b), .inl (d), x_un]) xm139 rfl ?_
  refine e_aload (k := 0) (xi139 0) rfl (by decide) ?_
  refine e_getR (j := 0) (w := 163) (k := 1) (xi139 1) (ok_mo hS) rfl (sh_all hS) ?_
  refine e_iconst (k := 2) (xi139 2) ?_
  have t1 := ty_a1 tl0.1
  refine e_iald (w := M 163 1) (k := 3) (xi139 3) (ok_all hS) (by rw [ln_all]; omega) rfl ?_
  refine e_iconst (k := 4) (xi139 4) ?_
  refine e_c_eq (k := 5) (xi139 5) (fun c0 => ?_) (fun c0 => ?_)
  · skip
    refine e_iconst (k := 16) (xi139 16) ?_
    refine e_iret (k := 17) (xi139 17) ?_
    exact y_fW (Q := fun _ => True) (show v_n_put a b d M = (-1) from by rw [v_n_put, if_pos c0]) (show u_n_put a b d M = M from by rw [u_n_put, if_pos c0]) tl0 trivial
  · skip
    refine e_iload (k := 6) (xi139 6) rfl ?_
    refine e_iconst (k := 7) (xi139 7) ?_
    refine e_call (k := 8) (v := some (.inl (x_b (0 ≤ a ∧ a < 4)))) (h1 := (z, P, M)) (c1 := 0) (c2 := 0) (rest := []) (as := [.inl (a), .inl 4]) (xi139 8) (by decide) xm113 rfl ⟨rfl, Nat.le_of_ble_eq_true rfl, by decide⟩ (Or.inl rfl) (k_isIn hS tl0.1 a 4  ) ?_
    refine e_b_eq (k := 9) (xi139 9) (fun c1 => ?_) (fun c1 => ?_)
    · skip
      refine e_aload (k := 10) (xi139 10) rfl (by decide) ?_
      refine e_iload (k := 11) (xi139 11) rfl ?_
      refine e_iload (k := 12) (xi139 12) rfl ?_
      refine e_iload (k := 13) (xi139 13) rfl ?_
      have t2 := ty_a0 tl0.1
      refine e_call (k := 14) (v := some (.inl (x_b ((((0 ≤ b ∧ b < M 163 0) ∧ 0 ≤ d ∧ d < M 163 (10 + 80 * b)) ∧ M 163 (11 + 80 * b + d) = -1) ∧ (a = 2 → 1 + d < M 163 (10 + 80 * b) ∧ M 163 (12 + 80 * b + d) = -1))))) (h1 := (z, P, M)) (c1 := 0) (c2 := 0) (rest := []) (as := [.inr 162, .inl (a), .inl (b), .inl (d)]) (xi139 14) (by decide) xm134 rfl ⟨rfl, Nat.le_of_ble_eq_true rfl, by decide⟩ (Or.inr (x_okt (ok_mo hS))) (k_mfits hS tl0.1 a b d (11 + 80 * b + d) (12 + 80 * b + d) (by omega) (by omega)) ?_
      refine e_b_ne (k := 15) (xi139 15) (fun c2 => ?_) (fun c2 => ?_)
      · skip
        have t3 := ty_aD tl0.1 (i := 10 + 80 * b) (s := b) (by omega) (by omega)
        refine e_aload (k := 18) (xi139 18) rfl (by decide) ?_
        refine e_getR (j := 0) (w := 163) (k := 19) (xi139 19) (ok_mo hS) rfl (sh_all hS) ?_
        refine e_iconst (k := 20) (xi139 20) ?_
        refine e_iald (w := M 163 1) (k := 21) (xi139 21) (ok_all hS) (by rw [ln_all]; omega) rfl ?_
        refine e_istore (k := 22) (xi139 22) (Nat.le_of_ble_eq_true rfl) ?_
        show x_Ev 139 23 [.inr 162, .inl (a), .inl (b), .inl (d), .inl (M 163 1)] [] (0, 0) (z, P, M) _
        refine e_aload (k := 23) (xi139 23) rfl (by decide) ?_
        refine e_getR (j := 0) (w := 163) (k := 24) (xi139 24) (ok_mo hS) rfl (sh_all hS) ?_
        refine e_iconst (k := 25) (xi139 25) ?_
        refine e_dup2 (k := 26) (xi139 26) ?_
        refine e_iald (w := M 163 1) (k := 27) (xi139 27) (ok_all hS) (by rw [ln_all]; omega) rfl ?_
        refine e_iconst (k := 28) (xi139 28) ?_
        refine e_iadd (w := 1 + M 163 1) (k := 29) (xi139 29) (x_wn (by omega)) ?_
        refine e_iast (k := 30) (xi139 30) (ok_all hS) (by rw [ln_all]; omega) ?_
        have tl4 : y_TL 10 M (x_up M 163 1 (1 + M 163 1)) := tl_up tl0 (sl_a1 (by omega)) (nf10)
        refine e_aload (k := 31) (xi139 31) rfl (by decide) ?_
        refine e_iload (k := 32) (xi139 32) rfl ?_
        refine e_iconst (k := 33) (xi139 33) ?_
        refine e_iload (k := 34) (xi139 34) rfl ?_
        have tl5 : y_TL 10 M (x_up ((x_up M 163 1 (1 + M 163 1))) 163 (1114 + 8 * M 163 1) a) := tl_up tl4 (sl_aW0 (i := 1114 + 8 * M 163 1) (w := M 163 1) (by omega) (by omega) (by omega)) (nf10a (nf_aW0 (i := 1114 + 8 * M 163 1) (w := M 163 1) (by omega) (by omega)))
        refine e_call (k := 35) (v := none) (h1 := (z, P, (x_up ((x_up M 163 1 (1 + M 163 1))) 163 (1114 + 8 * M 163 1) a))) (c1 := 0) (c2 := 0) (rest := []) (as := [.inr 162, .inl (M 163 1), .inl 0, .inl (a)]) (xi139 35) (by decide) xm130 rfl ⟨rfl, Nat.le_of_ble_eq_true rfl, by decide⟩ (Or.inr (x_okt (ok_mo hS))) (k_msets hS (M 163 1) 0 a (1114 + 8 * M 163 1) (by omega) (by omega) (by omega)) ?_
        refine e_aload (k := 36) (xi139 36) rfl (by decide) ?_
        refine e_iload (k := 37) (xi139 37) rfl ?_
        refine e_iconst (k := 38) (xi139 38) ?_
        refine e_iload (k := 39) (xi139 39) rfl ?_
        refine e_call (k := 40) (v := some (.inl (x_b (a = 1 ∨ a = 2)))) (h1 := (z, P, (x_up ((x_up M 163 1 (1 + M 163 1))) 163 (1114 + 8 * M 163 1) a))) (c1 := 0) (c2 := 0) (rest := [.inl 1, .inl (M 163 1), .inr 162]) (as := [.inl (a)]) (xi139 40) (by decide) xm138 rfl ⟨rfl, Nat.le_of_ble_eq_true rfl, by decide⟩ (Or.inl rfl) (k_mhasCharge hS tl5.1 a  ) ?_
        refine e_b_eq (k := 41) (xi139 41) (fun c3 => ?_) (fun c3 => ?_)
        · skip
          refine e_iconst (k := 42) (xi139 42) ?_
          refine e_goto (k := 43) (xi139 43) ?_
          have tl6 : y_TL 10 M (x_up ((x_up ((x_up M 163 1 (1 + M 163 1))) 163 (1114 + 8 * M 163 1) a)) 163 (1115 + 8 * M 163 1) 1000) := tl_up tl5 (sl_aW1 (i := 1115 + 8 * M 163 1) (w := M 163 1) (by omega) (by omega) (by omega)) (nf10a (nf_aW1 (i := 1115 + 8 * M 163 1) (w := M 163 1) (by omega) (by omega)))
          refine e_call (k := 45) (v := none) (h1 := (z, P, (x_up ((x_up ((x_up M 163 1 (1 + M 163 1))) 163 (1114 + 8 * M 163 1) a)) 163 (1115 + 8 * M 163 1) 1000))) (c1 := 0) (c2 := 0) (rest := []) (as := [.inr 162, .inl (M 163 1), .inl 1, .inl 1000]) (xi139 45) (by decide) xm130 rfl ⟨rfl, Nat.le_of_ble_eq_true rfl, by decide⟩ (Or.inr (x_okt (ok_mo hS))) (k_msets hS (M 163 1) 1 1000 (1115 + 8 * M 163 1) (by omega) (by omega) (by omega)) ?_
          refine e_aload (k := 46) (xi139 46) rfl (by decide) ?_
          refine e_iload (k := 47) (xi139 47) rfl ?_
          refine e_iconst (k := 48) (xi139 48) ?_
          refine e_iconst (k := 49) (xi139 49) ?_
          have tl7 : y_TL 10 M (x_up ((x_up ((x_up ((x_up M 163 1 (1 + M 163 1))) 163 (1114 + 8 * M 163 1) a)) 163 (1115 + 8 * M 163 1) 1000)) 163 (1119 + 8 * M 163 1) 0) := tl_up tl6 (sl_aW5 (i := 1119 + 8 * M 163 1) (w := M 163 1) (by omega) (by omega)) (nf10a (nf_aW5 (i := 1119 + 8 * M 163 1) (w := M 163 1) (by omega) (by omega)))
          refine e_call (k := 50) (v := none) (h1 := (z, P, (x_up ((x_up ((x_up ((x_up M 163 1 (1 + M 163 1))) 163 (1114 + 8 * M 163 1) a)) 163 (1115 + 8 * M 163 1) 1000)) 163 (1119 + 8 * M 163 1) 0))) (c1 := 0) (c2 := 0) (rest := []) (as := [.inr 162, .inl (M 163 1), .inl 5, .inl 0]) (xi139 50) (by decide) xm130 rfl ⟨rfl, Nat.le_of_ble_eq_true rfl, by decide⟩ (Or.inr (x_okt (ok_mo hS))) (k_msets hS (M 163 1) 5 0 (1119 + 8 * M 163 1) (by omega) (by omega) (by omega)) ?_
          refine e_aload (k := 51) (xi139 51) rfl (by decide) ?_
          refine e_iload (k := 52) (xi139 52) rfl ?_
          refine e_iconst (k := 53) (xi139 53) ?_
          refine e_iconst (k := 54) (xi139 54) ?_
          have tl8 : y_TL 10 M (x_up ((x_up ((x_up ((x_up ((x_up M 163 1 (1 + M 163 1))) 163 (1114 + 8 * M 163 1) a)) 163 (1115 + 8 * M 163 1) 1000)) 163 (1119 + 8 * M 163 1) 0)) 163 (1120 + 8 * M 163 1) 0) := tl_up tl7 (sl_aW6 (i := 1120 + 8 * M 163 1) (w := M 163 1) (by omega) (by omega) (by omega)) (nf10a (nf_aW6 (i := 1120 + 8 * M 163 1) (w := M 163 1) (by omega) (by omega)))
          refine e_call (k := 55) (v := none) (h1 := (z, P, (x_up ((x_up ((x_up ((x_up ((x_up M 163 1 (1 + M 163 1))) 163 (1114 + 8 * M 163 1) a)) 163 (1115 + 8 * M 163 1) 1000)) 163 (1119 + 8 * M 163 1) 0)) 163 (1120 + 8 * M 163 1) 0))) (c1 := 0) (c2 := 0) (rest := []) (as := [.inr 162, .inl (M 163 1), .inl 6, .inl 0]) (xi139 55) (by decide) xm130 rfl ⟨rfl, Nat.le_of_ble_eq_true rfl, by decide⟩ (Or.inr (x_okt (ok_mo hS))) (k_msets hS (M 163 1) 6 0 (1120 + 8 * M 163 1) (by omega) (by omega) (by omega)) ?_
          refine e_aload (k := 56) (xi139 56) rfl (by decide) ?_
          refine e_iload (k := 57) (xi139 57) rfl ?_
          refine e_iconst (k := 58) (xi139 58) ?_
          refine e_iconst (k := 59) (xi139 59) ?_
          have tl9 : y_TL 10 M (x_up ((x_up ((x_up ((x_up ((x_up ((x_up M 163 1 (1 + M 163 1))) 163 (1114 + 8 * M 163 1) a)) 163 (1115 + 8 * M 163 1) 1000)) 163 (1119 + 8 * M 163 1) 0)) 163 (1120 + 8 * M 163 1) 0)) 163 (1121 + 8 * M 163 1) ((-1))) := tl_up tl8 (sl_aW7 (i := 1121 + 8 * M 163 1) (w := M 163 1) (by omega) (by omega) (by omega)) (nf10a (nf_aW7 (i := 1121 + 8 * M 163 1) (w := M 163 1) (by omega) (by omega)))
          refine e_call (k := 60) (v := none) (h1 := (z, P, (x_up ((x_up ((x_up ((x_up ((x_up ((x_up M 163 1 (1 + M 163 1))) 163 (1114 + 8 * M 163 1) a)) 163 (1115 + 8 * M 163 1) 1000)) 163 (1119 + 8 * M 163 1) 0)) 163 (1120 + 8 * M 163 1) 0)) 163 (1121 + 8 * M 163 1) ((-1))))) (c1 := 0) (c2 := 0) (rest := []) (as := [.inr 162, .inl (M 163 1), .inl 7, .inl ((-1))]) (xi139 60) (by decide) xm130 rfl ⟨rfl, Nat.le_of_ble_eq_true rfl, by decide⟩ (Or.inr (x_okt (ok_mo hS))) (k_msets hS (M 163 1) 7 ((-1)) (1121 + 8 * M 163 1) (by omega) (by omega) (by omega)) ?_
          refine e_aload (k := 61) (xi139 61) rfl (by decide) ?_
          refine e_iload (k := 62) (xi139 62) rfl ?_
          refine e_iload (k := 63) (xi139 63) rfl ?_
          refine e_iload (k := 64) (xi139 64) rfl ?_
          refine e_callR (k := 65) (c1 := 0) (c2 := 0) (rest := []) (as := [.inr 162, .inl (M 163 1), .inl (b), .inl (d)]) (xi139 65) (by decide) xm136 rfl ⟨rfl, Nat.le_of_ble_eq_true rfl, by decide⟩ (Or.inr (x_okt (ok_mo hS))) (k_m_comes hS tl9.1 (M 163 1) b d  (by omega) (by omega) (by omega)) ?_
          rintro v_ h_ ⟨e10, tl11⟩
          cases e10
          have tl13 := tl_trans tl9 (tl_10_5 tl11)
          have n14 := tl_n5 tl11
          show x_Ev 139 66 [.inr 162, .inl (a), .inl (b), .inl (d), .inl (M 163 1)] [] (0, 0) (z, P, (u_m_comes (M 163 1) b d ((x_up ((x_up ((x_up ((x_up ((x_up ((x_up M 163 1 (1 + M 163 1))) 163 (1114 + 8 * M 163 1) a)) 163 (1115 + 8 * M 163 1) 1000)) 163 (1119 + 8 * M 163 1) 0)) 163 (1120 + 8 * M 163 1) 0)) 163 (1121 + 8 * M 163 1) ((-1)))))) _
          refine e_iload (k := 66) (xi139 66) rfl ?_
          refine e_iret (k := 67) (xi139 67) ?_
          exact y_fW (Q := fun _ => True) (show v_n_put a b d M = M 163 1 from by rw [v_n_put, if_neg c0, if_pos c1, if_pos c2, if_pos c3]) (show u_n_put a b d M = (u_m_comes (M 163 1) b d ((x_up ((x_up ((x_up ((x_up ((x_up ((x_up M 163 1 (1 + M 163 1))) 163 (1114 + 8 * M 163 1) a)) 163 (1115 + 8 * M 163 1) 1000)) 163 (1119 + 8 * M 163 1) 0)) 163 (1120 + 8 * M 163 1) 0)) 163 (1121 + 8 * M 163 1) ((-1))))) from by rw [u_n_put, if_neg c0, if_pos c1, if_pos c2, if_pos c3]) tl13 trivial
        · skip
          refine e_iconst (k := 44) (xi139 44) ?_
          have tl15 : y_TL 10 M (x_up ((x_up ((x_up M 163 1 (1 + M 163 1))) 163 (1114 + 8 * M 163 1) a)) 163 (1115 + 8 * M 163 1) 0) := tl_up tl5 (sl_aW1 (i := 1115 + 8 * M 163 1) (w := M 163 1) (by omega) (by omega) (by omega)) (nf10a (nf_aW1 (i := 1115 + 8 * M 163 1) (w := M 163 1) (by omega) (by omega)))
          refine e_call (k := 45) (v := none) (h1 := (z, P, (x_up ((x_up ((x_up M 163 1 (1 + M 163 1))) 163 (1114 + 8 * M 163 1) a)) 163 (1115 + 8 * M 163 1) 0))) (c1 := 0) (c2 := 0) (rest := []) (as := [.inr 162, .inl (M 163 1), .inl 1, .inl 0]) (xi139 45) (by decide) xm130 rfl ⟨rfl, Nat.le_of_ble_eq_true rfl, by decide⟩ (Or.inr (x_okt (ok_mo hS))) (k_msets hS (M 163 1) 1 0 (1115 + 8 * M 163 1) (by omega) (by omega) (by omega)) ?_
          refine e_aload (k := 46) (xi139 46) rfl (by decide) ?_
          refine e_iload (k := 47) (xi139 47) rfl ?_
          refine e_iconst (k := 48) (xi139 48) ?_
          refine e_iconst (k := 49) (xi139 49) ?_
          have tl16 : y_TL 10 M (x_up ((x_up ((x_up ((x_up M 163 1 (1 + M 163 1))) 163 (1114 + 8 * M 163 1) a)) 163 (1115 + 8 * M 163 1) 0)) 163 (1119 + 8 * M 163 1) 0) := tl_up tl15 (sl_aW5 (i := 1119 + 8 * M 163 1) (w := M 163 1) (by omega) (by omega)) (nf10a (nf_aW5 (i := 1119 + 8 * M 163 1) (w := M 163 1) (by omega) (by omega)))
          refine e_call (k := 50) (v := none) (h1 := (z, P, (x_up ((x_up ((x_up ((x_up M 163 1 (1 + M 163 1))) 163 (1114 + 8 * M 163 1) a)) 163 (1115 + 8 * M 163 1) 0)) 163 (1119 + 8 * M 163 1) 0))) (c1 := 0) (c2 := 0) (rest := []) (as := [.inr 162, .inl (M 163 1), .inl 5, .inl 0]) (xi139 50) (by decide) xm130 rfl ⟨rfl, Nat.le_of_ble_eq_true rfl, by decide⟩ (Or.inr (x_okt (ok_mo hS))) (k_msets hS (M 163 1) 5 0 (1119 + 8 * M 163 1) (by omega) (by omega) (by omega)) ?_
          refine e_aload (k := 51) (xi139 51) rfl (by decide) ?_
          refine e_iload (k := 52) (xi139 52) rfl ?_
          refine e_iconst (k := 53) (xi139 53) ?_
          refine e_iconst (k := 54) (xi139 54) ?_
          have tl17 : y_TL 10 M (x_up ((x_up ((x_up ((x_up ((x_up M 163 1 (1 + M 163 1))) 163 (1114 + 8 * M 163 1) a)) 163 (1115 + 8 * M 163 1) 0)) 163 (1119 + 8 * M 163 1) 0)) 163 (1120 + 8 * M 163 1) 0) := tl_up tl16 (sl_aW6 (i := 1120 + 8 * M 163 1) (w := M 163 1) (by omega) (by omega) (by omega)) (nf10a (nf_aW6 (i := 1120 + 8 * M 163 1) (w := M 163 1) (by omega) (by omega)))
          refine e_call (k := 55) (v := none) (h1 := (z, P, (x_up ((x_up ((x_up ((x_up ((x_up M 163 1 (1 + M 163 1))) 163 (1114 + 8 * M 163 1) a)) 163 (1115 + 8 * M 163 1) 0)) 163 (1119 + 8 * M 163 1) 0)) 163 (1120 + 8 * M 163 1) 0))) (c1 := 0) (c2 := 0) (rest := []) (as := [.inr 162, .inl (M 163 1), .inl 6, .inl 0]) (xi139 55) (by decide) xm130 rfl ⟨rfl, Nat.le_of_ble_eq_true rfl, by decide⟩ (Or.inr (x_okt (ok_mo hS))) (k_msets hS (M 163 1) 6 0 (1120 + 8 * M 163 1) (by omega) (by omega) (by omega)) ?_
          refine e_aload (k := 56) (xi139 56) rfl (by decide) ?_
          refine e_iload (k := 57) (xi139 57) rfl ?_
          refine e_iconst (k := 58) (xi139 58) ?_
          refine e_iconst (k := 59) (xi139 59) ?_
          have tl18 : y_TL 10 M (x_up ((x_up ((x_up ((x_up ((x_up ((x_up M 163 1 (1 + M 163 1))) 163 (1114 + 8 * M 163 1) a)) 163 (1115 + 8 * M 163 1) 0)) 163 (1119 + 8 * M 163 1) 0)) 163 (1120 + 8 * M 163 1) 0)) 163 (1121 + 8 * M 163 1) ((-1))) := tl_up tl17 (sl_aW7 (i := 1121 + 8 * M 163 1) (w := M 163 1) (by omega) (by omega) (by omega)) (nf10a (nf_aW7 (i := 1121 + 8 * M 163 1) (w := M 163 1) (by omega) (by omega)))
          refine e_call (k := 60) (v := none) (h1 := (z, P, (x_up ((x_up ((x_up ((x_up ((x_up ((x_up M 163 1 (1 + M 163 1))) 163 (1114 + 8 * M 163 1) a)) 163 (1115 + 8 * M 163 1) 0)) 163 (1119 + 8 * M 163 1) 0)) 163 (1120 + 8 * M 163 1) 0)) 163 (1121 + 8 * M 163 1) ((-1))))) (c1 := 0) (c2 := 0) (rest := []) (as := [.inr 162, .inl (M 163 1), .inl 7, .inl ((-1))]) (xi139 60) (by decide) xm130 rfl ⟨rfl, Nat.le_of_ble_eq_true rfl, by decide⟩ (Or.inr (x_okt (ok_mo hS))) (k_msets hS (M 163 1) 7 ((-1)) (1121 + 8 * M 163 1) (by omega) (by omega) (by omega)) ?_
          refine e_aload (k := 61) (xi139 61) rfl (by decide) ?_
          refine e_iload (k := 62) (xi139 62) rfl ?_
          refine e_iload (k := 63) (xi139 63) rfl ?_
          refine e_iload (k := 64) (xi139 64) rfl ?_
          refine e_callR (k := 65) (c1 := 0) (c2 := 0) (rest := []) (as := [.inr 162, .inl (M 163 1), .inl (b), .inl (d)]) (xi139 65) (by decide) xm136 rfl ⟨rfl, Nat.le_of_ble_eq_true rfl, by decide⟩ (Or.inr (x_okt (ok_mo hS))) (k_m_comes hS tl18.1 (M 163 1) b d  (by omega) (by omega) (by omega)) ?_
          rintro v_ h_ ⟨e19, tl20⟩
          cases e19
          have tl22 := tl_trans tl18 (tl_10_5 tl20)
          have n23 := tl_n5 tl20
          show x_Ev 139 66 [.inr 162, .inl (a), .inl (b), .inl (d), .inl (M 163 1)] [] (0, 0) (z, P, (u_m_comes (M 163 1) b d ((x_up ((x_up ((x_up ((x_up ((x_up ((x_up M 163 1 (1 + M 163 1))) 163 (1114 + 8 * M 163 1) a)) 163 (1115 + 8 * M 163 1) 0)) 163 (1119 + 8 * M 163 1) 0)) 163 (1120 + 8 * M 163 1) 0)) 163 (1121 + 8 * M 163 1) ((-1)))))) _
          refine e_iload (k := 66) (xi139 66) rfl ?_
          refine e_iret (k := 67) (xi139 67) ?_
          exact y_fW (Q := fun _ => True) (show v_n_put a b d M = M 163 1 from by rw [v_n_put, if_neg c0, if_pos c1, if_pos c2, if_neg c3]) (show u_n_put a b d M = (u_m_comes (M 163 1) b d ((x_up ((x_up ((x_up ((x_up ((x_up ((x_up M 163 1 (1 + M 163 1))) 163 (1114 + 8 * M 163 1) a)) 163 (1115 + 8 * M 163 1) 0)) 163 (1119 + 8 * M 163 1) 0)) 163 (1120 + 8 * M 163 1) 0)) 163 (1121 + 8 * M 163 1) ((-1))))) from by rw [u_n_put, if_neg c0, if_pos c1, if_pos c2, if_neg c3]) tl22 trivial
      · skip
        refine e_iconst (k := 16) (xi139 16) ?_
        refine e_iret (k := 17) (xi139 17) ?_
        exact y_fW (Q := fun _ => True) (show v_n_put a b d M = (-1) from by rw [v_n_put, if_neg c0, if_pos c1, if_neg c2]) (show u_n_put a b d M = M from by rw [u_n_put, if_neg c0, if_pos c1, if_neg c2]) tl0 trivial
    · skip
      refine e_iconst (k := 16) (xi139 16) ?_
      refine e_iret (k := 17) (xi139 17) ?_
      exact y_fW (Q := fun _ => True) (show v_n_put a b d M = (-1) from by rw [v_n_put, if_neg c0, if_neg c1]) (show u_n_put a b d M = M from by rw [u_n_put, if_neg c0, if_neg c1]) tl0 trivial
def v_n_charge (a b : Int) (M : Int → Int → Int) : Int := if 0 ≤ a ∧ a < M 163 1 then (if (M 163 (1114 + 8 * a)) = 1 ∨ (M 163 (1114 + 8 * a)) = 2 then (if 0 ≤ x_thou b then x_thou b else (-1)) else (-1)) else (-1)
def u_n_charge (a b : Int) (M : Int → Int → Int) : Int → Int → Int := if 0 ≤ a ∧ a < M 163 1 then (if (M 163 (1114 + 8 * a)) = 1 ∨ (M 163 (1114 + 8 * a)) = 2 then (if 0 ≤ x_thou b then (x_up M 163 (1115 + 8 * a) (x_thou b)) else M) else M) else M
theorem k_n_charge {z : Int} {P M : Int → Int → Int} (hS : x_Sh z P) (hT : y_TC M) (a : Int) (b : Int)   : x_CallR 141 [.inr 162, .inl (a), .inl (b)] (z, P, M) (fun q => q = (some (.inl (v_n_charge a b M)), (z, P, u_n_charge a b M)) ∧ y_TL 1 M (u_n_charge a b M) ∧ True) := by
  have tl0 : y_TL 1 M M := tl_refl hT
  refine e_body (ls0 := [.inr 162, .inl (a), .inl (b), x_un]) xm141 rfl ?_
  refine e_aload (k := 0) (xi141 0) rfl (by decide) ?_
  refine e_iload (k := 1) (xi141 1) rfl ?_
  have t1 := ty_a1 tl0.1
  refine e_call (k := 2) (v := some (.inl (x_b (0 ≤ a ∧ a < M 163 1)))) (h1 := (z, P, M)) (c1 := 0) (c2 := 0) (rest := []) (as := [.inr 162, .inl (a)]) (xi141 2) (by decide) xm115 rfl ⟨rfl, Nat.le_of_ble_eq_true rfl, by decide⟩ (Or.inr (x_okt (ok_mo hS))) (k_isWheel hS tl0.1 a  ) ?_
  refine e_b_eq (k := 3) (xi141 3) (fun c0 => ?_) (fun c0 => ?_)
  · skip
    refine e_aload (k := 4) (xi141 4) rfl (by decide) ?_
    refine e_iload (k := 5) (xi141 5) rfl ?_
    refine e_iconst (k := 6) (xi141 6) ?_
    have t2 := ty_aW0 tl0.1 (i := 1114 + 8 * a) (w := a) (by omega) (by omega)
    refine e_call (k := 7) (v := some (.inl (M 163 (1114 + 8 * a)))) (h1 := (z, P, M)) (c1 := 0) (c2 := 0) (rest := []) (as := [.inr 162, .inl (a), .inl 0]) (xi141 7) (by decide) xm129 rfl ⟨rfl, Nat.le_of_ble_eq_true rfl, by decide⟩ (Or.inr (x_okt (ok_mo hS))) (k_mof hS tl0.1 a 0 (1114 + 8 * a) (by omega) (by omega) (by omega)) ?_
    refine e_call (k := 8) (v := some (.inl (x_b ((M 163 (1114 + 8 * a)) = 1 ∨ (M 163 (1114 + 8 * a)) = 2)))) (h1 := (z, P, M)) (c1 := 0) (c2 := 0) (rest := []) (as := [.inl (M 163 (1114 + 8 * a))]) (xi141 8) (by decide) xm138 rfl ⟨rfl, Nat.le_of_ble_eq_true rfl, by decide⟩ (Or.inl rfl) (k_mhasCharge hS tl0.1 (M 163 (1114 + 8 * a))  ) ?_
    refine e_b_ne (k := 9) (xi141 9) (fun c1 => ?_) (fun c1 => ?_)
    · skip
      refine e_iload (k := 12) (xi141 12) rfl ?_
      refine e_prim (k := 13) (xi141 13) ⟨Nat.le_of_ble_eq_true rfl, rfl⟩ ?_
      have p3 := y_thou_in b
      refine e_istore (k := 14) (xi141 14) (Nat.le_of_ble_eq_true rfl) ?_
      show x_Ev 141 15 [.inr 162, .inl (a), .inl (b), .inl (x_thou b)] [] (0, 0) (z, P, M) _
      refine e_iload (k := 15) (xi141 15) rfl ?_
      refine e_z_ge (k := 16) (xi141 16) (fun c2 => ?_) (fun c2 => ?_)
      · skip
        refine e_aload (k := 19) (xi141 19) rfl (by decide) ?_
        refine e_iload (k := 20) (xi141 20) rfl ?_
        refine e_iconst (k := 21) (xi141 21) ?_
        refine e_iload (k := 22) (xi141 22) rfl ?_
        have tl4 : y_TL 1 M (x_up M 163 (1115 + 8 * a) (x_thou b)) := tl_up tl0 (sl_aW1 (i := 1115 + 8 * a) (w := a) (by omega) (by omega) (by omega)) (nf_aW1 (i := 1115 + 8 * a) (w := a) (by omega) (by omega))
        refine e_call (k := 23) (v := none) (h1 := (z, P, (x_up M 163 (1115 + 8 * a) (x_thou b)))) (c1 := 0) (c2 := 0) (rest := []) (as := [.inr 162, .inl (a), .inl 1, .inl (x_thou b)]) (xi141 23) (by decide) xm130 rfl ⟨rfl, Nat.le_of_ble_eq_true rfl, by decide⟩ (Or.inr (x_okt (ok_mo hS))) (k_msets hS a 1 (x_thou b) (1115 + 8 * a) (by omega) (by omega) (by omega)) ?_
        refine e_iload (k := 24) (xi141 24) rfl ?_
        refine e_iret (k := 25) (xi141 25) ?_
        exact y_fW (Q := fun _ => True) (show v_n_charge a b M = x_thou b from by rw [v_n_charge, if_pos c0, if_pos c1, if_pos c2]) (show u_n_charge a b M = (x_up M 163 (1115 + 8 * a) (x_thou b)) from by rw [u_n_charge, if_pos c0, if_pos c1, if_pos c2]) tl4 trivial
      · skip
        refine e_iconst (k := 17) (xi141 17) ?_
        refine e_iret (k := 18) (xi141 18) ?_
        exact y_fW (Q := fun _ => True) (show v_n_charge a b M = (-1) from by rw [v_n_charge, if_pos c0, if_pos c1, if_neg c2]) (show u_n_charge a b M = M from by rw [u_n_charge, if_pos c0, if_pos c1, if_neg c2]) tl0 trivial
    · skip
      refine e_iconst (k := 10) (xi141 10) ?_
      refine e_iret (k := 11) (xi141 11) ?_
      exact y_fW (Q := fun _ => True) (show v_n_charge a b M = (-1) from by rw [v_n_charge, if_pos c0, if_neg c1]) (show u_n_charge a b M = M from by rw [u_n_charge, if_pos c0, if_neg c1]) tl0 trivial
  · skip
    refine e_iconst (k := 10) (xi141 10) ?_
    refine e_iret (k := 11) (xi141 11) ?_
    exact y_fW (Q := fun _ => True) (show v_n_charge a b M = (-1) from by rw [v_n_charge, if_neg c0]) (show u_n_charge a b M = M from by rw [u_n_charge, if_neg c0]) tl0 trivial
def v_n_wheel (a b : Int) (M : Int → Int → Int) : Int := if 0 ≤ a ∧ a < M 163 1 then (if b = 0 then M 163 (1114 + 8 * a + b) else if b = 1 then M 163 (1114 + 8 * a + b) else if b = 2 then M 163 (1114 + 8 * a + b) else if b = 3 then (if ¬ M 163 (1116 + 8 * a) = 1 then M 163 (1117 + 8 * a) else (-1)) else if b = 4 then (if ¬ M 163 (1116 + 8 * a) = 0 then (if ¬ M 163 (1116 + 8 * a) = 1 then (-1) else M 163 (1117 + 8 * a)) else M 163 (1118 + 8 * a)) else if b = 5 then M 163 (1114 + 8 * a + b) else if b = 6 then (if ¬ M 163 (1120 + 8 * a) = 2 then 0 else 1) else if b = 7 then (if ¬ M 163 (1116 + 8 * a) = 2 then (-1) else M 163 (1121 + 8 * a)) else (-3)) else (-3)
theorem k_n_wheel {z : Int} {P M : Int → Int → Int} (hS : x_Sh z P) (hT : y_TC M) (a : Int) (b : Int)   : x_CallR 142 [.inr 162, .inl (a), .inl (b)] (z, P, M) (fun q => q = (some (.inl (v_n_wheel a b M)), (z, P, M)) ∧ True) := by
  refine e_body (ls0 := [.inr 162, .inl (a), .inl (b), x_un]) xm142 rfl ?_
  refine e_aload (k := 0) (xi142 0) rfl (by decide) ?_
  refine e_iload (k := 1) (xi142 1) rfl ?_
  have t1 := ty_a1 hT
  refine e_call (k := 2) (v := some (.inl (x_b (0 ≤ a ∧ a < M 163 1)))) (h1 := (z, P, M)) (c1 := 0) (c2 := 0) (rest := []) (as := [.inr 162, .inl (a)]) (xi142 2) (by decide) xm115 rfl ⟨rfl, Nat.le_of_ble_eq_true rfl, by decide⟩ (Or.inr (x_okt (ok_mo hS))) (k_isWheel hS hT a  ) ?_
  refine e_b_ne (k := 3) (xi142 3) (fun c0 => ?_) (fun c0 => ?_)
  · skip
    refine e_aload (k := 6) (xi142 6) rfl (by decide) ?_
    refine e_iload (k := 7) (xi142 7) rfl ?_
    refine e_iconst (k := 8) (xi142 8) ?_
    have t2 := ty_aW2 hT (i := 1116 + 8 * a) (w := a) (by omega) (by omega)
    refine e_call (k := 9) (v := some (.inl (M 163 (1116 + 8 * a)))) (h1 := (z, P, M)) (c1 := 0) (c2 := 0) (rest := []) (as := [.inr 162, .inl (a), .inl 2]) (xi142 9) (by decide) xm129 rfl ⟨rfl, Nat.le_of_ble_eq_true rfl, by decide⟩ (Or.inr (x_okt (ok_mo hS))) (k_mof hS hT a 2 (1116 + 8 * a) (by omega) (by omega) (by omega)) ?_
    refine e_istore (k := 10) (xi142 10) (Nat.le_of_ble_eq_true rfl) ?_
    show x_Ev 142 11 [.inr 162, .inl (a), .inl (b), .inl (M 163 (1116 + 8 * a))] [] (0, 0) (z, P, M) _
    refine e_iload (k := 11) (xi142 11) rfl ?_
    by_cases c1 : b = 0
    · skip
      refine e_sw (t2 := 13) (k := 12) (xi142 12) (by rw [c1]; decide +kernel) ?_
      refine e_aload (k := 13) (xi142 13) rfl (by decide) ?_
      refine e_iload (k := 14) (xi142 14) rfl ?_
      refine e_iload (k := 15) (xi142 15) rfl ?_
      refine e_call (k := 16) (v := some (.inl (M 163 (1114 + 8 * a + b)))) (h1 := (z, P, M)) (c1 := 0) (c2 := 0) (rest := []) (as := [.inr 162, .inl (a), .inl (b)]) (xi142 16) (by decide) xm129 rfl ⟨rfl, Nat.le_of_ble_eq_true rfl, by decide⟩ (Or.inr (x_okt (ok_mo hS))) (k_mof hS hT a b (1114 + 8 * a + b) (by omega) (by omega) (by omega)) ?_
      refine e_iret (k := 17) (xi142 17) ?_
      exact y_fV (Q := fun _ => True) (show v_n_wheel a b M = M 163 (1114 + 8 * a + b) from by rw [v_n_wheel, if_pos c0, if_pos c1]) trivial
    by_cases c2 : b = 1
    · skip
      refine e_sw (t2 := 13) (k := 12) (xi142 12) (by rw [c2]; decide +kernel) ?_
      refine e_aload (k := 13) (xi142 13) rfl (by decide) ?_
      refine e_iload (k := 14) (xi142 14) rfl ?_
      refine e_iload (k := 15) (xi142 15) rfl ?_
      refine e_call (k := 16) (v := some (.inl (M 163 (1114 + 8 * a + b)))) (h1 := (z, P, M)) (c1 := 0) (c2 := 0) (rest := []) (as := [.inr 162, .inl (a), .inl (b)]) (xi142 16) (by decide) xm129 rfl ⟨rfl, Nat.le_of_ble_eq_true rfl, by decide⟩ (Or.inr (x_okt (ok_mo hS))) (k_mof hS hT a b (1114 + 8 * a + b) (by omega) (by omega) (by omega)) ?_
      refine e_iret (k := 17) (xi142 17) ?_
      exact y_fV (Q := fun _ => True) (show v_n_wheel a b M = M 163 (1114 + 8 * a + b) from by rw [v_n_wheel, if_pos c0, if_neg c1, if_pos c2]) trivial
    by_cases c3 : b = 2
    · skip
      refine e_sw (t2 := 13) (k := 12) (xi142 12) (by rw [c3]; decide +kernel) ?_
      refine e_aload (k := 13) (xi142 13) rfl (by decide) ?_
      refine e_iload (k := 14) (xi142 14) rfl ?_
      refine e_iload (k := 15) (xi142 15) rfl ?_
      refine e_call (k := 16) (v := some (.inl (M 163 (1114 + 8 * a + b)))) (h1 := (z, P, M)) (c1 := 0) (c2 := 0) (rest := []) (as := [.inr 162, .inl (a), .inl (b)]) (xi142 16) (by decide) xm129 rfl ⟨rfl, Nat.le_of_ble_eq_true rfl, by decide⟩ (Or.inr (x_okt (ok_mo hS))) (k_mof hS hT a b (1114 + 8 * a + b) (by omega) (by omega) (by omega)) ?_
      refine e_iret (k := 17) (xi142 17) ?_
      exact y_fV (Q := fun _ => True) (show v_n_wheel a b M = M 163 (1114 + 8 * a + b) from by rw [v_n_wheel, if_pos c0, if_neg c1, if_neg c2, if_pos c3]) trivial
    by_cases c4 : b = 3
    · skip
      refine e_sw (t2 := 18) (k := 12) (xi142 12) (by rw [c4]; decide +kernel) ?_
      refine e_iload (k := 18) (xi142 18) rfl ?_
      refine e_iconst (k := 19) (xi142 19) ?_
      refine e_c_ne (k := 20) (xi142 20) (fun c5 => ?_) (fun c5 => ?_)
      · skip
        refine e_aload (k := 23) (xi142 23) rfl (by decide) ?_
        refine e_iload (k := 24) (xi142 24) rfl ?_
        refine e_iconst (k := 25) (xi142 25) ?_
        have t3 := ty_aW3 hT (i := 1117 + 8 * a) (w := a) (by omega) (by omega)
        refine e_call (k := 26) (v := some (.inl (M 163 (1117 + 8 * a)))) (h1 := (z, P, M)) (c1 := 0) (c2 := 0) (rest := []) (as := [.inr 162, .inl (a), .inl 3]) (xi142 26) (by decide) xm129 rfl ⟨rfl, Nat.le_of_ble_eq_true rfl, by decide⟩ (Or.inr (x_okt (ok_mo hS))) (k_mof hS hT a 3 (1117 + 8 * a) (by omega) (by omega) (by omega)) ?_
        refine e_iret (k := 27) (xi142 27) ?_
        exact y_fV (Q := fun _ => True) (show v_n_wheel a b M = M 163 (1117 + 8 * a) from by rw [v_n_wheel, if_pos c0, if_neg c1, if_neg c2, if_neg c3, if_pos c4, if_pos c5]) trivial
      · skip
        refine e_iconst (k := 21) (xi142 21) ?_
        refine e_goto (k := 22) (xi142 22) ?_
        refine e_iret (k := 27) (xi142 27) ?_
        exact y_fV (Q := fun _ => True) (show v_n_wheel a b M = (-1) from by rw [v_n_wheel, if_pos c0, if_neg c1, if_neg c2, if_neg c3, if_pos c4, if_neg c5]) trivial
    by_cases c6 : b = 4
    · skip
      refine e_sw (t2 := 28) (k := 12) (xi142 12) (by rw [c6]; decide +kernel) ?_
      refine e_iload (k := 28) (xi142 28) rfl ?_
      refine e_z_ne (k := 29) (xi142 29) (fun c7 => ?_) (fun c7 => ?_)
      · skip
        refine e_iload (k := 35) (xi142 35) rfl ?_
        refine e_iconst (k := 36) (xi142 36) ?_
        refine e_c_ne (k := 37) (xi142 37) (fun c8 => ?_) (fun c8 => ?_)
        · skip
          refine e_iconst (k := 43) (xi142 43) ?_
          refine e_iret (k := 44) (xi142 44) ?_
          exact y_fV (Q := fun _ => True) (show v_n_wheel a b M = (-1) from by rw [v_n_wheel, if_pos c0, if_neg c1, if_neg c2, if_neg c3, if_neg c4, if_pos c6, if_pos c7, if_pos c8]) trivial
        · skip
          refine e_aload (k := 38) (xi142 38) rfl (by decide) ?_
          refine e_iload (k := 39) (xi142 39) rfl ?_
          refine e_iconst (k := 40) (xi142 40) ?_
          have t4 := ty_aW3 hT (i := 1117 + 8 * a) (w := a) (by omega) (by omega)
          refine e_call (k := 41) (v := some (.inl (M 163 (1117 + 8 * a)))) (h1 := (z, P, M)) (c1 := 0) (c2 := 0) (rest := []) (as := [.inr 162, .inl (a), .inl 3]) (xi142 41) (by decide) xm129 rfl ⟨rfl, Nat.le_of_ble_eq_true rfl, by decide⟩ (Or.inr (x_okt (ok_mo hS))) (k_mof hS hT a 3 (1117 + 8 * a) (by omega) (by omega) (by omega)) ?_
          refine e_goto (k := 42) (xi142 42) ?_
          refine e_iret (k := 44) (xi142 44) ?_
          exact y_fV (Q := fun _ => True) (show v_n_wheel a b M = M 163 (1117 + 8 * a) from by rw [v_n_wheel, if_pos c0, if_neg c1, if_neg c2, if_neg c3, if_neg c4, if_pos c6, if_pos c7, if_neg c8]) trivial
      · skip
        refine e_aload (k := 30) (xi142 30) rfl (by decide) ?_
        refine e_iload (k := 31) (xi142 31) rfl ?_
        refine e_iconst (k := 32) (xi142 32) ?_
        have t5 := ty_aW4 hT (i := 1118 + 8 * a) (w := a) (by omega) (by omega)
        refine e_call (k := 33) (v := some (.inl (M 163 (1118 + 8 * a)))) (h1 := (z, P, M)) (c1 := 0) (c2 := 0) (rest := []) (as := [.inr 162, .inl (a), .inl 4]) (xi142 33) (by decide) xm129 rfl ⟨rfl, Nat.le_of_ble_eq_true rfl, by decide⟩ (Or.inr (x_okt (ok_mo hS))) (k_mof hS hT a 4 (1118 + 8 * a) (by omega) (by omega) (by omega)) ?_
        refine e_goto (k := 34) (xi142 34) ?_
        refine e_iret (k := 44) (xi142 44) ?_
        exact y_fV (Q := fun _ => True) (show v_n_wheel a b M = M 163 (1118 + 8 * a) from by rw [v_n_wheel, if_pos c0, if_neg c1, if_neg c2, if_neg c3, if_neg c4, if_pos c6, if_neg c7]) trivial
    by_cases c9 : b = 5
    · skip
      refine e_sw (t2 := 13) (k := 12) (xi142 12) (by rw [c9]; decide +kernel) ?_
      refine e_aload (k := 13) (xi142 13) rfl (by decide) ?_
      refine e_iload (k := 14) (xi142 14) rfl ?_
      refine e_iload (k := 15) (xi142 15) rfl ?_
      refine e_call (k := 16) (v := some (.inl (M 163 (1114 + 8 * a + b)))) (h1 := (z, P, M)) (c1 := 0) (c2 := 0) (rest := []) (as := [.inr 162, .inl (a), .inl (b)]) (xi142 16) (by decide) xm129 rfl ⟨rfl, Nat.le_of_ble_eq_true rfl, by decide⟩ (Or.inr (x_okt (ok_mo hS))) (k_mof hS hT a b (1114 + 8 * a + b) (by omega) (by omega) (by omega)) ?_
      refine e_iret (k := 17) (xi142 17) ?_
      exact y_fV (Q := fun _ => True) (show v_n_wheel a b M = M 163 (1114 + 8 * a + b) from by rw [v_n_wheel, if_pos c0, if_neg c1, if_neg c2, if_neg c3, if_neg c4, if_neg c6, if_pos c9]) trivial
    by_cases c10 : b = 6
    · skip
      refine e_sw (t2 := 45) (k := 12) (xi142 12) (by rw [c10]; decide +kernel) ?_
      refine e_aload (k := 45) (xi142 45) rfl (by decide) ?_
      refine e_iload (k := 46) (xi142 46) rfl ?_
      refine e_iconst (k := 47) (xi142 47) ?_
      have t6 := ty_aW6 hT (i := 1120 + 8 * a) (w := a) (by omega) (by omega)
      refine e_call (k := 48) (v := some (.inl (M 163 (1120 + 8 * a)))) (h1 := (z, P, M)) (c1 := 0) (c2 := 0) (rest := []) (as := [.inr 162, .inl (a), .inl 6]) (xi142 48) (by decide) xm129 rfl ⟨rfl, Nat.le_of_ble_eq_true rfl, by decide⟩ (Or.inr (x_okt (ok_mo hS))) (k_mof hS hT a 6 (1120 + 8 * a) (by omega) (by omega) (by omega)) ?_
      refine e_iconst (k := 49) (xi142 49) ?_
      refine e_c_ne (k := 50) (xi142 50) (fun c11 => ?_) (fun c11 => ?_)
      · skip
        refine e_iconst (k := 53) (xi142 53) ?_
        refine e_iret (k := 54) (xi142 54) ?_
        exact y_fV (Q := fun _ => True) (show v_n_wheel a b M = 0 from by rw [v_n_wheel, if_pos c0, if_neg c1, if_neg c2, if_neg c3, if_neg c4, if_neg c6, if_neg c9, if_pos c10, if_pos c11]) trivial
      · skip
        refine e_iconst (k := 51) (xi142 51) ?_
        refine e_goto (k := 52) (xi142 52) ?_
        refine e_iret (k := 54) (xi142 54) ?_
        exact y_fV (Q := fun _ => True) (show v_n_wheel a b M = 1 from by rw [v_n_wheel, if_pos c0, if_neg c1, if_neg c2, if_neg c3, if_neg c4, if_neg c6, if_neg c9, if_pos c10, if_neg c11]) trivial
    by_cases c12 : b = 7
    · skip
      refine e_sw (t2 := 55) (k := 12) (xi142 12) (by rw [c12]; decide +kernel) ?_
      refine e_iload (k := 55) (xi142 55) rfl ?_
      refine e_iconst (k := 56) (xi142 56) ?_
      refine e_c_ne (k := 57) (xi142 57) (fun c13 => ?_) (fun c13 => ?_)
      · skip
        refine e_iconst (k := 63) (xi142 63) ?_
        refine e_iret (k := 64) (xi142 64) ?_
        exact y_fV (Q := fun _ => True) (show v_n_wheel a b M = (-1) from by rw [v_n_wheel, if_pos c0, if_neg c1, if_neg c2, if_neg c3, if_neg c4, if_neg c6, if_neg c9, if_neg c10, if_pos c12, if_pos c13]) trivial
      · skip
        refine e_aload (k := 58) (xi142 58) rfl (by decide) ?_
        refine e_iload (k := 59) (xi142 59) rfl ?_
        refine e_iconst (k := 60) (xi142 60) ?_
        have t7 := ty_aW7 hT (i := 1121 + 8 * a) (w := a) (by omega) (by omega)
        refine e_call (k := 61) (v := some (.inl (M 163 (1121 + 8 * a)))) (h1 := (z, P, M)) (c1 := 0) (c2 := 0) (rest := []) (as := [.inr 162, .inl (a), .inl 7]) (xi142 61) (by decide) xm129 rfl ⟨rfl, Nat.le_of_ble_eq_true rfl, by decide⟩ (Or.inr (x_okt (ok_mo hS))) (k_mof hS hT a 7 (1121 + 8 * a) (by omega) (by omega) (by omega)) ?_
        refine e_goto (k := 62) (xi142 62) ?_
        refine e_iret (k := 64) (xi142 64) ?_
        exact y_fV (Q := fun _ => True) (show v_n_wheel a b M = M 163 (1121 + 8 * a) from by rw [v_n_wheel, if_pos c0, if_neg c1, if_neg c2, if_neg c3, if_neg c4, if_neg c6, if_neg c9, if_neg c10, if_pos c12, if_neg c13]) trivial
    refine e_sw (k := 12) (t2 := 65) (xi142 12) (if_pos (by omega)) ?_
    refine e_iconst (k := 65) (xi142 65) ?_
    refine e_iret (k := 66) (xi142 66) ?_
    exact y_fV (Q := fun _ => True) (show v_n_wheel a b M = (-3) from by rw [v_n_wheel, if_pos c0, if_neg c1, if_neg c2, if_neg c3, if_neg c4, if_neg c6, if_neg c9, if_neg c10, if_neg c12]) trivial
  · skip
    refine e_iconst (k := 4) (xi142 4) ?_
    refine e_iret (k := 5) (xi142 5) ?_
    exact y_fV (Q := fun _ => True) (show v_n_wheel a b M = (-3) from by rw [v_n_wheel, if_neg c0]) trivial
def v_n_fault (a : Int) (M : Int → Int → Int) : Int := if 0 ≤ a ∧ a < M 163 1 then (if M 163 (1120 + 8 * a) ≤ 0 then 1 else 0) else 0
def u_n_fault (a : Int) (M : Int → Int → Int) : Int → Int → Int := if 0 ≤ a ∧ a < M 163 1 then (if M 163 (1120 + 8 * a) ≤ 0 then (x_up M 163 (1120 + 8 * a) 1) else M) else M
theorem k_n_fault {z : Int} {P M : Int → Int → Int} (hS : x_Sh z P) (hT : y_TC M) (a : Int)   : x_CallR 143 [.inr 162, .inl (a)] (z, P, M) (fun q => q = (some (.inl (v_n_fault a M)), (z, P, u_n_fault a M)) ∧ y_TL 1 M (u_n_fault a M) ∧ True) := by
  have tl0 : y_TL 1 M M := tl_refl hT
  refine e_body (ls0 := [.inr 162, .inl (a)]) xm143 rfl ?_
  refine e_aload (k := 0) (xi143 0) rfl (by decide) ?_
  refine e_iload (k := 1) (xi143 1) rfl ?_
  have t1 := ty_a1 tl0.1
  refine e_call (k := 2) (v := some (.inl (x_b (0 ≤ a ∧ a < M 163 1)))) (h1 := (z, P, M)) (c1 := 0) (c2 := 0) (rest := []) (as := [.inr 162, .inl (a)]) (xi143 2) (by decide) xm115 rfl ⟨rfl, Nat.le_of_ble_eq_true rfl, by decide⟩ (Or.inr (x_okt (ok_mo hS))) (k_isWheel hS tl0.1 a  ) ?_
  refine e_b_eq (k := 3) (xi143 3) (fun c0 => ?_) (fun c0 => ?_)
  · skip
    refine e_aload (k := 4) (xi143 4) rfl (by decide) ?_
    refine e_iload (k := 5) (xi143 5) rfl ?_
    refine e_iconst (k := 6) (xi143 6) ?_
    have t2 := ty_aW6 tl0.1 (i := 1120 + 8 * a) (w := a) (by omega) (by omega)
    refine e_call (k := 7) (v := some (.inl (M 163 (1120 + 8 * a)))) (h1 := (z, P, M)) (c1 := 0) (c2 := 0) (rest := []) (as := [.inr 162, .inl (a), .inl 6]) (xi143 7) (by decide) xm129 rfl ⟨rfl, Nat.le_of_ble_eq_true rfl, by decide⟩ (Or.inr (x_okt (ok_mo hS))) (k_mof hS tl0.1 a 6 (1120 + 8 * a) (by omega) (by omega) (by omega)) ?_
    refine e_z_le (k := 8) (xi143 8) (fun c1 => ?_) (fun c1 => ?_)
    · skip
      refine e_aload (k := 11) (xi143 11) rfl (by decide) ?_
      refine e_iload (k := 12) (xi143 12) rfl ?_
      refine e_iconst (k := 13) (xi143 13) ?_
      refine e_iconst (k := 14) (xi143 14) ?_
      have tl3 : y_TL 1 M (x_up M 163 (1120 + 8 * a) 1) := tl_up tl0 (sl_aW6 (i := 1120 + 8 * a) (w := a) (by omega) (by omega) (by omega)) (nf_aW6 (i := 1120 + 8 * a) (w := a) (by omega) (by omega))
      refine e_call (k := 15) (v := none) (h1 := (z, P, (x_up M 163 (1120 + 8 * a) 1))) (c1 := 0) (c2 := 0) (rest := []) (as := [.inr 162, .inl (a), .inl 6, .inl 1]) (xi143 15) (by decide) xm130 rfl ⟨rfl, Nat.le_of_ble_eq_true rfl, by decide⟩ (Or.inr (x_okt (ok_mo hS))) (k_msets hS a 6 1 (1120 + 8 * a) (by omega) (by omega) (by omega)) ?_
      refine e_iconst (k := 16) (xi143 16) ?_
      refine e_zret (k := 17) (xi143 17) (by first | decide | omega) ?_
      exact y_fW (Q := fun _ => True) (show v_n_fault a M = 1 from by rw [v_n_fault, if_pos c0, if_pos c1]) (show u_n_fault a M = (x_up M 163 (1120 + 8 * a) 1) from by rw [u_n_fault, if_pos c0, if_pos c1]) tl3 trivial
    · skip
      refine e_iconst (k := 9) (xi143 9) ?_
      refine e_zret (k := 10) (xi143 10) (by first | decide | omega) ?_
      exact y_fW (Q := fun _ => True) (show v_n_fault a M = 0 from by rw [v_n_fault, if_pos c0, if_neg c1]) (show u_n_fault a M = M from by rw [u_n_fault, if_pos c0, if_neg c1]) tl0 trivial
  · skip
    refine e_iconst (k := 9) (xi143 9) ?_
    refine e_zret (k := 10) (xi143 10) (by first | decide | omega) ?_
    exact y_fW (Q := fun _ => True) (show v_n_fault a M = 0 from by rw [v_n_fault, if_neg c0]) (show u_n_fault a M = M from by rw [u_n_fault, if_neg c0]) tl0 trivial
def v_n_test (a : Int) (M : Int → Int → Int) : Int := if 0 ≤ a ∧ a < M 163 1 then (if ¬ M 163 (1116 + 8 * a) = 2 then (if M 163 (1120 + 8 * a) ≤ 0 then 0 else 1) else (-1)) else (-1)
def u_n_test (a : Int) (M : Int → Int → Int) : Int → Int → Int := if 0 ≤ a ∧ a < M 163 1 then (if ¬ M 163 (1116 + 8 * a) = 2 then (if M 163 (1120 + 8 * a) ≤ 0 then (x_up M 163 (1119 + 8 * a) 0) else (x_up M 163 (1120 + 8 * a) 2)) else M) else M
theorem k_n_test {z : Int} {P M : Int → Int → Int} (hS : x_Sh z P) (hT : y_TC M) (a : Int)   : x_CallR 144 [.inr 162, .inl (a)] (z, P, M) (fun q => q = (some (.inl (v_n_test a M)), (z, P, u_n_test a M)) ∧ y_TL 1 M (u_n_test a M) ∧ True) := by
  have tl0 : y_TL 1 M M := tl_refl hT
  refine e_body (ls0 := [.inr 162, .inl (a)]) xm144 rfl ?_
  refine e_aload (k := 0) (xi144 0) rfl (by decide) ?_
  refine e_iload (k := 1) (xi144 1) rfl ?_
  have t1 := ty_a1 tl0.1
  refine e_call (k := 2) (v := some (.inl (x_b (0 ≤ a ∧ a < M 163 1)))) (h1 := (z, P, M)) (c1 := 0) (c2 := 0) (rest := []) (as := [.inr 162, .inl (a)]) (xi144 2) (by decide) xm115 rfl ⟨rfl, Nat.le_of_ble_eq_true rfl, by decide⟩ (Or.inr (x_okt (ok_mo hS))) (k_isWheel hS tl0.1 a  ) ?_
  refine e_b_eq (k := 3) (xi144 3) (fun c0 => ?_) (fun c0 => ?_)
  · skip
    refine e_aload (k := 4) (xi144 4) rfl (by decide) ?_
    refine e_iload (k := 5) (xi144 5) rfl ?_
    refine e_iconst (k := 6) (xi144 6) ?_
    have t2 := ty_aW2 tl0.1 (i := 1116 + 8 * a) (w := a) (by omega) (by omega)
    refine e_call (k := 7) (v := some (.inl (M 163 (1116 + 8 * a)))) (h1 := (z, P, M)) (c1 := 0) (c2 := 0) (rest := []) (as := [.inr 162, .inl (a), .inl 2]) (xi144 7) (by decide) xm129 rfl ⟨rfl, Nat.le_of_ble_eq_true rfl, by decide⟩ (Or.inr (x_okt (ok_mo hS))) (k_mof hS tl0.1 a 2 (1116 + 8 * a) (by omega) (by omega) (by omega)) ?_
    refine e_iconst (k := 8) (xi144 8) ?_
    refine e_c_ne (k := 9) (xi144 9) (fun c1 => ?_) (fun c1 => ?_)
    · skip
      refine e_aload (k := 12) (xi144 12) rfl (by decide) ?_
      refine e_iload (k := 13) (xi144 13) rfl ?_
      refine e_iconst (k := 14) (xi144 14) ?_
      have t3 := ty_aW6 tl0.1 (i := 1120 + 8 * a) (w := a) (by omega) (by omega)
      refine e_call (k := 15) (v := some (.inl (M 163 (1120 + 8 * a)))) (h1 := (z, P, M)) (c1 := 0) (c2 := 0) (rest := []) (as := [.inr 162, .inl (a), .inl 6]) (xi144 15) (by decide) xm129 rfl ⟨rfl, Nat.le_of_ble_eq_true rfl, by decide⟩ (Or.inr (x_okt (ok_mo hS))) (k_mof hS tl0.1 a 6 (1120 + 8 * a) (by omega) (by omega) (by omega)) ?_
      refine e_z_le (k := 16) (xi144 16) (fun c2 => ?_) (fun c2 => ?_)
      · skip
        refine e_aload (k := 24) (xi144 24) rfl (by decide) ?_
        refine e_iload (k := 25) (xi144 25) rfl ?_
        refine e_iconst (k := 26) (xi144 26) ?_
        refine e_iconst (k := 27) (xi144 27) ?_
        have tl4 : y_TL 1 M (x_up M 163 (1119 + 8 * a) 0) := tl_up tl0 (sl_aW5 (i := 1119 + 8 * a) (w := a) (by omega) (by omega)) (nf_aW5 (i := 1119 + 8 * a) (w := a) (by omega) (by omega))
        refine e_call (k := 28) (v := none) (h1 := (z, P, (x_up M 163 (1119 + 8 * a) 0))) (c1 := 0) (c2 := 0) (rest := []) (as := [.inr 162, .inl (a), .inl 5, .inl 0]) (xi144 28) (by decide) xm130 rfl ⟨rfl, Nat.le_of_ble_eq_true rfl, by decide⟩ (Or.inr (x_okt (ok_mo hS))) (k_msets hS a 5 0 (1119 + 8 * a) (by omega) (by omega) (by omega)) ?_
        refine e_iconst (k := 29) (xi144 29) ?_
        refine e_iret (k := 30) (xi144 30) ?_
        exact y_fW (Q := fun _ => True) (show v_n_test a M = 0 from by rw [v_n_test, if_pos c0, if_pos c1, if_pos c2]) (show u_n_test a M = (x_up M 163 (1119 + 8 * a) 0) from by rw [u_n_test, if_pos c0, if_pos c1, if_pos c2]) tl4 trivial
      · skip
        refine e_aload (k := 17) (xi144 17) rfl (by decide) ?_
        refine e_iload (k := 18) (xi144 18) rfl ?_
        refine e_iconst (k := 19) (xi144 19) ?_
        refine e_iconst (k := 20) (xi144 20) ?_
        have tl5 : y_TL 1 M (x_up M 163 (1120 + 8 * a) 2) := tl_up tl0 (sl_aW6 (i := 1120 + 8 * a) (w := a) (by omega) (by omega) (by omega)) (nf_aW6 (i := 1120 + 8 * a) (w := a) (by omega) (by omega))
        refine e_call (k := 21) (v := none) (h1 := (z, P, (x_up M 163 (1120 + 8 * a) 2))) (c1 := 0) (c2 := 0) (rest := []) (as := [.inr 162, .inl (a), .inl 6, .inl 2]) (xi144 21) (by decide) xm130 rfl ⟨rfl, Nat.le_of_ble_eq_true rfl, by decide⟩ (Or.inr (x_okt (ok_mo hS))) (k_msets hS a 6 2 (1120 + 8 * a) (by omega) (by omega) (by omega)) ?_
        refine e_iconst (k := 22) (xi144 22) ?_
        refine e_iret (k := 23) (xi144 23) ?_
        exact y_fW (Q := fun _ => True) (show v_n_test a M = 1 from by rw [v_n_test, if_pos c0, if_pos c1, if_neg c2]) (show u_n_test a M = (x_up M 163 (1120 + 8 * a) 2) from by rw [u_n_test, if_pos c0, if_pos c1, if_neg c2]) tl5 trivial
    · skip
      refine e_iconst (k := 10) (xi144 10) ?_
      refine e_iret (k := 11) (xi144 11) ?_
      exact y_fW (Q := fun _ => True) (show v_n_test a M = (-1) from by rw [v_n_test, if_pos c0, if_neg c1]) (show u_n_test a M = M from by rw [u_n_test, if_pos c0, if_neg c1]) tl0 trivial
  · skip
    refine e_iconst (k := 10) (xi144 10) ?_
    refine e_iret (k := 11) (xi144 11) ?_
    exact y_fW (Q := fun _ => True) (show v_n_test a M = (-1) from by rw [v_n_test, if_neg c0]) (show u_n_test a M = M from by rw [u_n_test, if_neg c0]) tl0 trivial
def v_n_mend (a : Int) (M : Int → Int → Int) : Int := if 0 ≤ a ∧ a < M 163 1 then (if M 163 (1116 + 8 * a) = 2 then 0 else if ¬ M 163 (1120 + 8 * a) = 0 then 1 else 0) else 0
def u_n_mend (a : Int) (M : Int → Int → Int) : Int → Int → Int := if 0 ≤ a ∧ a < M 163 1 then (if M 163 (1116 + 8 * a) = 2 then M else if ¬ M 163 (1120 + 8 * a) = 0 then (x_up ((x_up M 163 (1120 + 8 * a) 0)) 163 (1119 + 8 * a) 0) else M) else M
theorem k_n_mend {z : Int} {P M : Int → Int → Int} (hS : x_Sh z P) (hT : y_TC M) (a : Int)   : x_CallR 145 [.inr 162, .inl (a)] (z, P, M) (fun q => q = (some (.inl (v_n_mend a M)), (z, P, u_n_mend a M)) ∧ y_TL 1 M (u_n_mend a M) ∧ True) := by
  have tl0 : y_TL 1 M M := tl_refl hT
  refine e_body (ls0 := [.inr 162, .inl (a)]) xm145 rfl ?_
  refine e_aload (k := 0) (xi145 0) rfl (by decide) ?_
  refine e_iload (k := 1) (xi145 1) rfl ?_
  have t1 := ty_a1 tl0.1
  refine e_call (k := 2) (v := some (.inl (x_b (0 ≤ a ∧ a < M 163 1)))) (h1 := (z, P, M)) (c1 := 0) (c2 := 0) (rest := []) (as := [.inr 162, .inl (a)]) (xi145 2) (by decide) xm115 rfl ⟨rfl, Nat.le_of_ble_eq_true rfl, by decide⟩ (Or.inr (x_okt (ok_mo hS))) (k_isWheel hS tl0.1 a  ) ?_
  refine e_b_eq (k := 3) (xi145 3) (fun c0 => ?_) (fun c0 => ?_)
  · skip
    refine e_aload (k := 4) (xi145 4) rfl (by decide) ?_
    refine e_iload (k := 5) (xi145 5) rfl ?_
    refine e_iconst (k := 6) (xi145 6) ?_
    have t2 := ty_aW2 tl0.1 (i := 1116 + 8 * a) (w := a) (by omega) (by omega)
    refine e_call (k := 7) (v := some (.inl (M 163 (1116 + 8 * a)))) (h1 := (z, P, M)) (c1 := 0) (c2 := 0) (rest := []) (as := [.inr 162, .inl (a), .inl 2]) (xi145 7) (by decide) xm129 rfl ⟨rfl, Nat.le_of_ble_eq_true rfl, by decide⟩ (Or.inr (x_okt (ok_mo hS))) (k_mof hS tl0.1 a 2 (1116 + 8 * a) (by omega) (by omega) (by omega)) ?_
    refine e_iconst (k := 8) (xi145 8) ?_
    refine e_c_eq (k := 9) (xi145 9) (fun c1 => ?_) (fun c1 => ?_)
    · skip
      refine e_iconst (k := 15) (xi145 15) ?_
      refine e_zret (k := 16) (xi145 16) (by first | decide | omega) ?_
      exact y_fW (Q := fun _ => True) (show v_n_mend a M = 0 from by rw [v_n_mend, if_pos c0, if_pos c1]) (show u_n_mend a M = M from by rw [u_n_mend, if_pos c0, if_pos c1]) tl0 trivial
    · skip
      refine e_aload (k := 10) (xi145 10) rfl (by decide) ?_
      refine e_iload (k := 11) (xi145 11) rfl ?_
      refine e_iconst (k := 12) (xi145 12) ?_
      have t3 := ty_aW6 tl0.1 (i := 1120 + 8 * a) (w := a) (by omega) (by omega)
      refine e_call (k := 13) (v := some (.inl (M 163 (1120 + 8 * a)))) (h1 := (z, P, M)) (c1 := 0) (c2 := 0) (rest := []) (as := [.inr 162, .inl (a), .inl 6]) (xi145 13) (by decide) xm129 rfl ⟨rfl, Nat.le_of_ble_eq_true rfl, by decide⟩ (Or.inr (x_okt (ok_mo hS))) (k_mof hS tl0.1 a 6 (1120 + 8 * a) (by omega) (by omega) (by omega)) ?_
      refine e_z_ne (k := 14) (xi145 14) (fun c2 => ?_) (fun c2 => ?_)
      · skip
        refine e_aload (k := 17) (xi145 17) rfl (by decide) ?_
        refine e_iload (k := 18) (xi145 18) rfl ?_
        refine e_iconst (k := 19) (xi145 19) ?_
        refine e_iconst (k := 20) (xi145 20) ?_
        have tl4 : y_TL 1 M (x_up M 163 (1120 + 8 * a) 0) := tl_up tl0 (sl_aW6 (i := 1120 + 8 * a) (w := a) (by omega) (by omega) (by omega)) (nf_aW6 (i := 1120 + 8 * a) (w := a) (by omega) (by omega))
        refine e_call (k := 21) (v := none) (h1 := (z, P, (x_up M 163 (1120 + 8 * a) 0))) (c1 := 0) (c2 := 0) (rest := []) (as := [.inr 162, .inl (a), .inl 6, .inl 0]) (xi145 21) (by decide) xm130 rfl ⟨rfl, Nat.le_of_ble_eq_true rfl, by decide⟩ (Or.inr (x_okt (ok_mo hS))) (k_msets hS a 6 0 (1120 + 8 * a) (by omega) (by omega) (by omega)) ?_
        refine e_aload (k := 22) (xi145 22) rfl (by decide) ?_
        refine e_iload (k := 23) (xi145 23) rfl ?_
        refine e_iconst (k := 24) (xi145 24) ?_
        refine e_iconst (k := 25) (xi145 25) ?_
        have tl5 : y_TL 1 M (x_up ((x_up M 163 (1120 + 8 * a) 0)) 163 (1119 + 8 * a) 0) := tl_up tl4 (sl_aW5 (i := 1119 + 8 * a) (w := a) (by omega) (by omega)) (nf_aW5 (i := 1119 + 8 * a) (w := a) (by omega) (by omega))
        refine e_call (k := 26) (v := none) (h1 := (z, P, (x_up ((x_up M 163 (1120 + 8 * a) 0)) 163 (1119 + 8 * a) 0))) (c1 := 0) (c2 := 0) (rest := []) (as := [.inr 162, .inl (a), .inl 5, .inl 0]) (xi145 26) (by decide) xm130 rfl ⟨rfl, Nat.le_of_ble_eq_true rfl, by decide⟩ (Or.inr (x_okt (ok_mo hS))) (k_msets hS a 5 0 (1119 + 8 * a) (by omega) (by omega) (by omega)) ?_
        refine e_iconst (k := 27) (xi145 27) ?_
        refine e_zret (k := 28) (xi145 28) (by first | decide | omega) ?_
        exact y_fW (Q := fun _ => True) (show v_n_mend a M = 1 from by rw [v_n_mend, if_pos c0, if_neg c1, if_pos c2]) (show u_n_mend a M = (x_up ((x_up M 163 (1120 + 8 * a) 0)) 163 (1119 + 8 * a) 0) from by rw [u_n_mend, if_pos c0, if_neg c1, if_pos c2]) tl5 trivial
      · skip
        refine e_iconst (k := 15) (xi145 15) ?_
        refine e_zret (k := 16) (xi145 16) (by first | decide | omega) ?_
        exact y_fW (Q := fun _ => True) (show v_n_mend a M = 0 from by rw [v_n_mend, if_pos c0, if_neg c1, if_neg c2]) (show u_n_mend a M = M from by rw [u_n_mend, if_pos c0, if_neg c1, if_neg c2]) tl0 trivial
  · skip
    refine e_iconst (k := 15) (xi145 15) ?_
    refine e_zret (k := 16) (xi145 16) (by first | decide | omega) ?_
    exact y_fW (Q := fun _ => True) (show v_n_mend a M = 0 from by rw [v_n_mend, if_neg c0]) (show u_n_mend a M = M from by rw [u_n_mend, if_neg c0]) tl0 trivial
def w_n_doubt_a (a b : Int) (M : Int → Int → Int) : Nat → Int → Int → Int
  | 0, lf, w => 0
  | k + 1, lf, w => if M 163 1 ≤ w then (-1) else if b < 0 then (-1) else if ¬ M 163 (1116 + 8 * w) = 0 then w_n_doubt_a a b M k (x_w (lf)) (1 + w) else if M 163 (1119 + 8 * w) ≤ a then w_n_doubt_a a b M k (x_w (lf)) (1 + w) else if ¬ lf = 0 then w_n_doubt_a a b M k (x_w ((-1) + lf)) (1 + w) else w
theorem kw_n_doubt_a {z : Int} {P M : Int → Int → Int} (hS : x_Sh z P) (hT : y_TC M) (a : Int) (b : Int)    : ∀ k : Nat, ∀ x5 : xV, ∀ lf : Int, ∀ w : Int, (0 ≤ w ∧ w ≤ 60) → 60 - w < (k : Int) → x_Ev 146 4 [.inr 162, .inl (a), .inl (b), .inl (lf), .inl (w), x5] [] (0, 0) (z, P, M) (fun q => q = (some (.inl (w_n_doubt_a a b M k lf w)), (z, P, M)) ∧ True) := by
  have ka1 := ty_a1 hT
  intro k
  induction k with
  | zero => intro x5 lf w hi hm; omega
  | succ k ih =>
    intro x5 lf w hi hm
    refine e_iload (k := 4) (xi146 4) rfl ?_
    refine e_aload (k := 5) (xi146 5) rfl (by decide) ?_
    refine e_getR (j := 0) (w := 163) (k := 6) (xi146 6) (ok_mo hS) rfl (sh_all hS) ?_
    refine e_iconst (k := 7) (xi146 7) ?_
    have t1 := ty_a1 hT
    refine e_iald (w := M 163 1) (k := 8) (xi146 8) (ok_all hS) (by rw [ln_all]; omega) rfl ?_
    refine e_c_ge (k := 9) (xi146 9) (fun c0 => ?_) (fun c0 => ?_)
    · skip
      refine e_iconst (k := 43) (xi146 43) ?_
      refine e_iret (k := 44) (xi146 44) ?_
      exact y_fV (Q := fun _ => True) (show w_n_doubt_a a b M (k + 1) lf w = (-1) from by rw [w_n_doubt_a, if_pos c0]) trivial
    · skip
      refine e_iload (k := 10) (xi146 10) rfl ?_
      refine e_z_lt (k := 11) (xi146 11) (fun c1 => ?_) (fun c1 => ?_)
      · skip
        refine e_iconst (k := 43) (xi146 43) ?_
        refine e_iret (k := 44) (xi146 44) ?_
        exact y_fV (Q := fun _ => True) (show w_n_doubt_a a b M (k + 1) lf w = (-1) from by rw [w_n_doubt_a, if_neg c0, if_pos c1]) trivial
      · skip
        refine e_aload (k := 12) (xi146 12) rfl (by decide) ?_
        refine e_iload (k := 13) (xi146 13) rfl ?_
        refine e_iconst (k := 14) (xi146 14) ?_
        have t2 := ty_aW2 hT (i := 1116 + 8 * w) (w := w) (by omega) (by omega)
        refine e_call (k := 15) (v := some (.inl (M 163 (1116 + 8 * w)))) (h1 := (z, P, M)) (c1 := 0) (c2 := 0) (rest := []) (as := [.inr 162, .inl (w), .inl 2]) (xi146 15) (by decide) xm129 rfl ⟨rfl, Nat.le_of_ble_eq_true rfl, by decide⟩ (Or.inr (x_okt (ok_mo hS))) (k_mof hS hT w 2 (1116 + 8 * w) (by omega) (by omega) (by omega)) ?_
        refine e_z_ne (k := 16) (xi146 16) (fun c2 => ?_) (fun c2 => ?_)
        · skip
          refine e_iconst (k := 25) (xi146 25) ?_
          refine e_istore (k := 26) (xi146 26) (Nat.le_of_ble_eq_true rfl) ?_
          show x_Ev 146 27 [.inr 162, .inl (a), .inl (b), .inl (lf), .inl (w), .inl 0] [] (0, 0) (z, P, M) _
          refine e_iload (k := 27) (xi146 27) rfl ?_
          refine e_z_eq (k := 28) (xi146 28) (fun c3 => ?_) (fun q => absurd (by decide) q)
          refine e_iload (k := 33) (xi146 33) rfl ?_
          refine e_iload (k := 34) (xi146 34) rfl ?_
          refine e_z_eq (k := 35) (xi146 35) (fun c4 => ?_) (fun q => absurd (by decide) q)
          refine e_iconst (k := 38) (xi146 38) ?_
          refine e_isub (w := x_w (lf)) (k := 39) (xi146 39) (x_wr (by omega)) ?_
          refine e_istore (k := 40) (xi146 40) (Nat.le_of_ble_eq_true rfl) ?_
          show x_Ev 146 41 [.inr 162, .inl (a), .inl (b), .inl (x_w (lf)), .inl (w), .inl 0] [] (0, 0) (z, P, M) _
          refine e_iinc (w := 1 + w) (k := 41) (xi146 41) rfl (x_wn (by omega)) ?_
          show x_Ev 146 42 [.inr 162, .inl (a), .inl (b), .inl (x_w (lf)), .inl (1 + w), .inl 0] [] (0, 0) (z, P, M) _
          refine e_goto (k := 42) (xi146 42) ?_
          rw [(show w_n_doubt_a a b M (k + 1) lf w = w_n_doubt_a a b M k (x_w (lf)) (1 + w) from by rw [w_n_doubt_a, if_neg c0, if_neg c1, if_pos c2])]
          exact ih _ (x_w (lf)) (1 + w) (by omega) (by omega)
        · skip
          refine e_aload (k := 17) (xi146 17) rfl (by decide) ?_
          refine e_iload (k := 18) (xi146 18) rfl ?_
          refine e_iconst (k := 19) (xi146 19) ?_
          refine e_call (k := 20) (v := some (.inl (M 163 (1119 + 8 * w)))) (h1 := (z, P, M)) (c1 := 0) (c2 := 0) (rest := []) (as := [.inr 162, .inl (w), .inl 5]) (xi146 20) (by decide) xm129 rfl ⟨rfl, Nat.le_of_ble_eq_true rfl, by decide⟩ (Or.inr (x_okt (ok_mo hS))) (k_mof hS hT w 5 (1119 + 8 * w) (by omega) (by omega) (by omega)) ?_
          refine e_iload (k := 21) (xi146 21) rfl ?_
          refine e_c_le (k := 22) (xi146 22) (fun c5 => ?_) (fun c5 => ?_)
          · skip
            refine e_iconst (k := 25) (xi146 25) ?_
            refine e_istore (k := 26) (xi146 26) (Nat.le_of_ble_eq_true rfl) ?_
            show x_Ev 146 27 [.inr 162, .inl (a), .inl (b), .inl (lf), .inl (w), .inl 0] [] (0, 0) (z, P, M) _
            refine e_iload (k := 27) (xi146 27) rfl ?_
            refine e_z_eq (k := 28) (xi146 28) (fun c6 => ?_) (fun q => absurd (by decide) q)
            refine e_iload (k := 33) (xi146 33) rfl ?_
            refine e_iload (k := 34) (xi146 34) rfl ?_
            refine e_z_eq (k := 35) (xi146 35) (fun c7 => ?_) (fun q => absurd (by decide) q)
            refine e_iconst (k := 38) (xi146 38) ?_
            refine e_isub (w := x_w (lf)) (k := 39) (xi146 39) (x_wr (by omega)) ?_
            refine e_istore (k := 40) (xi146 40) (Nat.le_of_ble_eq_true rfl) ?_
            show x_Ev 146 41 [.inr 162, .inl (a), .inl (b), .inl (x_w (lf)), .inl (w), .inl 0] [] (0, 0) (z, P, M) _
            refine e_iinc (w := 1 + w) (k := 41) (xi146 41) rfl (x_wn (by omega)) ?_
            show x_Ev 146 42 [.inr 162, .inl (a), .inl (b), .inl (x_w (lf)), .inl (1 + w), .inl 0] [] (0, 0) (z, P, M) _
            refine e_goto (k := 42) (xi146 42) ?_
            rw [(show w_n_doubt_a a b M (k + 1) lf w = w_n_doubt_a a b M k (x_w (lf)) (1 + w) from by rw [w_n_doubt_a, if_neg c0, if_neg c1, if_neg c2, if_pos c5])]
            exact ih _ (x_w (lf)) (1 + w) (by omega) (by omega)
          · skip
            refine e_iconst (k := 23) (xi146 23) ?_
            refine e_goto (k := 24) (xi146 24) ?_
            refine e_istore (k := 26) (xi146 26) (Nat.le_of_ble_eq_true rfl) ?_
            show x_Ev 146 27 [.inr 162, .inl (a), .inl (b), .inl (lf), .inl (w), .inl 1] [] (0, 0) (z, P, M) _
            refine e_iload (k := 27) (xi146 27) rfl ?_
            refine e_z_eq (k := 28) (xi146 28) (fun q => absurd q (by decide)) (fun c8 => ?_)
            refine e_iload (k := 29) (xi146 29) rfl ?_
            refine e_z_ne (k := 30) (xi146 30) (fun c9 => ?_) (fun c9 => ?_)
            · skip
              refine e_iload (k := 33) (xi146 33) rfl ?_
              refine e_iload (k := 34) (xi146 34) rfl ?_
              refine e_z_eq (k := 35) (xi146 35) (fun q => absurd q (by decide)) (fun c10 => ?_)
              refine e_iconst (k := 36) (xi146 36) ?_
              refine e_goto (k := 37) (xi146 37) ?_
              refine e_isub (w := x_w ((-1) + lf)) (k := 39) (xi146 39) (x_wr (by omega)) ?_
              refine e_istore (k := 40) (xi146 40) (Nat.le_of_ble_eq_true rfl) ?_
              show x_Ev 146 41 [.inr 162, .inl (a), .inl (b), .inl (x_w ((-1) + lf)), .inl (w), .inl 1] [] (0, 0) (z, P, M) _
              refine e_iinc (w := 1 + w) (k := 41) (xi146 41) rfl (x_wn (by omega)) ?_
              show x_Ev 146 42 [.inr 162, .inl (a), .inl (b), .inl (x_w ((-1) + lf)), .inl (1 + w), .inl 1] [] (0, 0) (z, P, M) _
              refine e_goto (k := 42) (xi146 42) ?_
              rw [(show w_n_doubt_a a b M (k + 1) lf w = w_n_doubt_a a b M k (x_w ((-1) + lf)) (1 + w) from by rw [w_n_doubt_a, if_neg c0, if_neg c1, if_neg c2, if_neg c5, if_pos c9])]
              exact ih _ (x_w ((-1) + lf)) (1 + w) (by omega) (by omega)
            · skip
              refine e_iload (k := 31) (xi146 31) rfl ?_
              refine e_iret (k := 32) (xi146 32) ?_
              exact y_fV (Q := fun _ => True) (show w_n_doubt_a a b M (k + 1) lf w = w from by rw [w_n_doubt_a, if_neg c0, if_neg c1, if_neg c2, if_neg c5, if_neg c9]) trivial
def v_n_doubt (a b : Int) (M : Int → Int → Int) : Int := w_n_doubt_a a b M 61 b 0
theorem k_n_doubt {z : Int} {P M : Int → Int → Int} (hS : x_Sh z P) (hT : y_TC M) (a : Int) (b : Int)   : x_CallR 146 [.inr 162, .inl (a), .inl (b)] (z, P, M) (fun q => q = (some (.inl (v_n_doubt a b M)), (z, P, M)) ∧ True) := by
  have ka1 := ty_a1 hT
  refine e_body (ls0 := [.inr 162, .inl (a), .inl (b), x_un, x_un, x_un]) xm146 rfl ?_
  refine e_iload (k := 0) (xi146 0) rfl ?_
  refine e_istore (k := 1) (xi146 1) (Nat.le_of_ble_eq_true rfl) ?_
  show x_Ev 146 2 [.inr 162, .inl (a), .inl (b), .inl (b), x_un, x_un] [] (0, 0) (z, P, M) _
  refine e_iconst (k := 2) (xi146 2) ?_
  refine e_istore (k := 3) (xi146 3) (Nat.le_of_ble_eq_true rfl) ?_
  show x_Ev 146 4 [.inr 162, .inl (a), .inl (b), .inl (b), .inl 0, x_un] [] (0, 0) (z, P, M) _
  refine x_ev_mono (kw_n_doubt_a hS hT a b     61 _ b 0 (by omega) (by omega)) ?_
  rintro _ ⟨e1, q3⟩
  cases e1
  exact y_fV (Q := fun _ => True) (show v_n_doubt a b M = w_n_doubt_a a b M 61 b 0 from rfl) trivial
def l_n_hire_a (a b d w c : Int) : Nat → (Int → Int → Int) → Int → (Int → Int → Int) × Int
  | 0, M, e => (M, e)
  | k + 1, M, e => if M 163 1 ≤ e then (M, e) else if ¬ M 163 (1116 + 8 * e) = 0 then l_n_hire_a a b d w c k M (1 + e) else if ¬ M 163 (1117 + 8 * e) = a then l_n_hire_a a b d w c k M (1 + e) else l_n_hire_a a b d w c k ((x_up M 163 (1119 + 8 * e) (x_w (1 + M 163 (1119 + 8 * e))))) (1 + e)
theorem kl_n_hire_a {z : Int} {P M0 : Int → Int → Int} {r : Option xV × xH → Prop} (hS : x_Sh z P) (a : Int) (b : Int) (d : Int) (w : Int) (c : Int)    : ∀ k : Nat, ∀ M : (Int → Int → Int), ∀ e : Int, y_TL 1 M0 M → (0 ≤ e ∧ e ≤ 60) → 60 - e < (k : Int) → (y_TL 1 M0 ((l_n_hire_a a b d w c k M e).1) → True → x_Ev 150 121 [.inr 162, .inl (a), .inl (b), .inl (d), .inl (w), .inl (c), .inl ((l_n_hire_a a b d w c k M e).2)] [] (0, 0) (z, P, (l_n_hire_a a b d w c k M e).1) r) → x_Ev 150 92 [.inr 162, .inl (a), .inl (b), .inl (d), .inl (w), .inl (c), .inl (e)] [] (0, 0) (z, P, M) r := by
  intro k
  induction k with
  | zero => intro M e tl0 hi hm; omega
  | succ k ih =>
    intro M e tl0 hi hm kk
    refine e_iload (k := 92) (xi150 92) rfl ?_
    refine e_aload (k := 93) (xi150 93) rfl (by decide) ?_
    refine e_getR (j := 0) (w := 163) (k := 94) (xi150 94) (ok_mo hS) rfl (sh_all hS) ?_
    refine e_iconst (k := 95) (xi150 95) ?_
    have t1 := ty_a1 tl0.1
    refine e_iald (w := M 163 1) (k := 96) (xi150 96) (ok_all hS) (by rw [ln_all]; omega) rfl ?_
    refine e_c_ge (k := 97) (xi150 97) (fun c0 => ?_) (fun c0 => ?_)
    · skip
      rw [(show l_n_hire_a a b d w c (k + 1) M e = (M, e) from by rw [l_n_hire_a, if_pos c0])] at kk
      try dsimp only at kk
      exact kk tl0 (by first | exact trivial | omega)
    · skip
      refine e_aload (k := 98) (xi150 98) rfl (by decide) ?_
      refine e_iload (k := 99) (xi150 99) rfl ?_
      refine e_iconst (k := 100) (xi150 100) ?_
      have t2 := ty_aW2 tl0.1 (i := 1116 + 8 * e) (w := e) (by omega) (by omega)
      refine e_call (k := 101) (v := some (.inl (M 163 (1116 + 8 * e)))) (h1 := (z, P, M)) (c1 := 0) (c2 := 0) (rest := []) (as := [.inr 162, .inl (e), .inl 2]) (xi150 101) (by decide) xm129 rfl ⟨rfl, Nat.le_of_ble_eq_true rfl, by decide⟩ (Or.inr (x_okt (ok_mo hS))) (k_mof hS tl0.1 e 2 (1116 + 8 * e) (by omega) (by omega) (by omega)) ?_
      refine e_z_ne (k := 102) (xi150 102) (fun c1 => ?_) (fun c1 => ?_)
      · skip
        refine e_iinc (w := 1 + e) (k := 119) (xi150 119) rfl (x_wn (by omega)) ?_
        show x_Ev 150 120 [.inr 162, .inl (a), .inl (b), .inl (d), .inl (w), .inl (c), .inl (1 + e)] [] (0, 0) (z, P, M) _
        refine e_goto (k := 120) (xi150 120) ?_
        rw [(show l_n_hire_a a b d w c (k + 1) M e = l_n_hire_a a b d w c k M (1 + e) from by rw [l_n_hire_a, if_neg c0, if_pos c1])] at kk
        exact ih M (1 + e) tl0 (by omega) (by omega) kk
      · skip
        refine e_aload (k := 103) (xi150 103) rfl (by decide) ?_
        refine e_iload (k := 104) (xi150 104) rfl ?_
        refine e_iconst (k := 105) (xi150 105) ?_
        have t3 := ty_aW3 tl0.1 (i := 1117 + 8 * e) (w := e) (by omega) (by omega)
        refine e_call (k := 106) (v := some (.inl (M 163 (1117 + 8 * e)))) (h1 := (z, P, M)) (c1 := 0) (c2 := 0) (rest := []) (as := [.inr 162, .inl (e), .inl 3]) (xi150 106) (by decide) xm129 rfl ⟨rfl, Nat.le_of_ble_eq_true rfl, by decide⟩ (Or.inr (x_okt (ok_mo hS))) (k_mof hS tl0.1 e 3 (1117 + 8 * e) (by omega) (by omega) (by omega)) ?_
        refine e_iload (k := 107) (xi150 107) rfl ?_
        refine e_c_ne (k := 108) (xi150 108) (fun c2 => ?_) (fun c2 => ?_)
        · skip
          refine e_iinc (w := 1 + e) (k := 119) (xi150 119) rfl (x_wn (by omega)) ?_
          show x_Ev 150 120 [.inr 162, .inl (a), .inl (b), .inl (d), .inl (w), .inl (c), .inl (1 + e)] [] (0, 0) (z, P, M) _
          refine e_goto (k := 120) (xi150 120) ?_
          rw [(show l_n_hire_a a b d w c (k + 1) M e = l_n_hire_a a b d w c k M (1 + e) from by rw [l_n_hire_a, if_neg c0, if_neg c1, if_pos c2])] at kk
          exact ih M (1 + e) tl0 (by omega) (by omega) kk
        · skip
          refine e_aload (k := 109) (xi150 109) rfl (by decide) ?_
          refine e_iload (k := 110) (xi150 110) rfl ?_
          refine e_iconst (k := 111) (xi150 111) ?_
          refine e_aload (k := 112) (xi150 112) rfl (by decide) ?_
          refine e_iload (k := 113) (xi150 113) rfl ?_
          refine e_iconst (k := 114) (xi150 114) ?_
          refine e_call (k := 115) (v := some (.inl (M 163 (1119 + 8 * e)))) (h1 := (z, P, M)) (c1 := 0) (c2 := 0) (rest := [.inl 5, .inl (e), .inr 162]) (as := [.inr 162, .inl (e), .inl 5]) (xi150 115) (by decide) xm129 rfl ⟨rfl, Nat.le_of_ble_eq_true rfl, by decide⟩ (Or.inr (x_okt (ok_mo hS))) (k_mof hS tl0.1 e 5 (1119 + 8 * e) (by omega) (by omega) (by omega)) ?_
          refine e_iconst (k := 116) (xi150 116) ?_
          refine e_iadd (w := x_w (1 + M 163 (1119 + 8 * e))) (k := 117) (xi150 117) (x_wr (by omega)) ?_
          have tl4 : y_TL 1 M0 (x_up M 163 (1119 + 8 * e) (x_w (1 + M 163 (1119 + 8 * e)))) := tl_up tl0 (sl_aW5 (i := 1119 + 8 * e) (w := e) (by omega) (by omega)) (nf_aW5 (i := 1119 + 8 * e) (w := e) (by omega) (by omega))
          refine e_call (k := 118) (v := none) (h1 := (z, P, (x_up M 163 (1119 + 8 * e) (x_w (1 + M 163 (1119 + 8 * e)))))) (c1 := 0) (c2 := 0) (rest := []) (as := [.inr 162, .inl (e), .inl 5, .inl (x_w (1 + M 163 (1119 + 8 * e)))]) (xi150 118) (by decide) xm130 rfl ⟨rfl, Nat.le_of_ble_eq_true rfl, by decide⟩ (Or.inr (x_okt (ok_mo hS))) (k_msets hS e 5 (x_w (1 + M 163 (1119 + 8 * e))) (1119 + 8 * e) (by omega) (by omega) (by omega)) ?_
          refine e_iinc (w := 1 + e) (k := 119) (xi150 119) rfl (x_wn (by omega)) ?_
          show x_Ev 150 120 [.inr 162, .inl (a), .inl (b), .inl (d), .inl (w), .inl (c), .inl (1 + e)] [] (0, 0) (z, P, (x_up M 163 (1119 + 8 * e) (x_w (1 + M 163 (1119 + 8 * e))))) _
          refine e_goto (k := 120) (xi150 120) ?_
          rw [(show l_n_hire_a a b d w c (k + 1) M e = l_n_hire_a a b d w c k ((x_up M 163 (1119 + 8 * e) (x_w (1 + M 163 (1119 + 8 * e))))) (1 + e) from by rw [l_n_hire_a, if_neg c0, if_neg c1, if_neg c2])] at kk
          exact ih ((x_up M 163 (1119 + 8 * e) (x_w (1 + M 163 (1119 + 8 * e))))) (1 + e) tl4 (by omega) (by omega) kk
def v_n_hire (a b d : Int) (M : Int → Int → Int) : Int := if (0 ≤ a ∧ a < M 163 0) ∧ 0 ≤ b ∧ b < M 163 (10 + 80 * a) then (if 0 ≤ M 163 (11 + 80 * a + b) then (if ¬ M 163 (1114 + 8 * M 163 (11 + 80 * a + b)) = 3 then (if M 163 (1120 + 8 * M 163 (11 + 80 * a + b)) ≤ 0 then (if ¬ v_m_enough (M 163 (11 + 80 * a + b)) a M = 0 then (if d = (-1) then M 163 (11 + 80 * a + b) else if (0 ≤ a ∧ a < M 163 0) ∧ 0 ≤ d ∧ d < M 163 (10 + 80 * a) then (if M 163 (11 + 80 * a + d) < 0 then (-5) else if ¬ M 163 (1114 + 8 * M 163 (11 + 80 * a + d)) = 3 then (-5) else if M 163 (1120 + 8 * M 163 (11 + 80 * a + d)) ≤ 0 then (if M 163 (11 + 80 * a + d) < 0 then M 163 (11 + 80 * a + b) else M 163 (11 + 80 * a + b)) else (-5)) else (-5)) else (-4)) else (-3)) else (-2)) else (-1)) else (-1)
def u_n_hire (a b d : Int) (M : Int → Int → Int) : Int → Int → Int := if (0 ≤ a ∧ a < M 163 0) ∧ 0 ≤ b ∧ b < M 163 (10 + 80 * a) then (if 0 ≤ M 163 (11 + 80 * a + b) then (if ¬ M 163 (1114 + 8 * M 163 (11 + 80 * a + b)) = 3 then (if M 163 (1120 + 8 * M 163 (11 + 80 * a + b)) ≤ 0 then (if ¬ v_m_enough (M 163 (11 + 80 * a + b)) a M = 0 then (if d = (-1) then (l_n_hire_a a b d (M 163 (11 + 80 * a + b)) ((-1)) 61 ((u_m_hired (M 163 (11 + 80 * a + b)) ((-1)) M)) 0).1 else if (0 ≤ a ∧ a < M 163 0) ∧ 0 ≤ d ∧ d < M 163 (10 + 80 * a) then (if M 163 (11 + 80 * a + d) < 0 then M else if ¬ M 163 (1114 + 8 * M 163 (11 + 80 * a + d)) = 3 then M else if M 163 (1120 + 8 * M 163 (11 + 80 * a + d)) ≤ 0 then (if M 163 (11 + 80 * a + d) < 0 then (l_n_hire_a a b d (M 163 (11 + 80 * a + b)) (M 163 (11 + 80 * a + d)) 61 ((u_m_hired (M 163 (11 + 80 * a + b)) (M 163 (11 + 80 * a + d)) M)) 0).1 else (l_n_hire_a a b d (M 163 (11 + 80 * a + b)) (M 163 (11 + 80 * a + d)) 61 ((u_m_hired (M 163 (11 + 80 * a + d)) (M 163 (11 + 80 * a + b)) ((u_m_hired (M 163 (11 + 80 * a + b)) (M 163 (11 + 80 * a + d)) M)))) 0).1) else M) else M) else M) else M) else M) else M) else M
theorem k_n_hire {z : Int} {P M : Int → Int → Int} (hS : x_Sh z P) (hT : y_TC M) (a : Int) (b : Int) (d : Int)   : x_CallR 150 [.inr 162, .inl (a), .inl (b), .inl (d)] (z, P, M) (fun q => q = (some (.inl (v_n_hire a b d M)), (z, P, u_n_hire a b d M)) ∧ y_TL 1 M (u_n_hire a b d M) ∧ True) := by
  have tl0 : y_TL 1 M M := tl_refl hT
  refine e_body (ls0 := [.inr 162, .inl (a), .inl (b), .inl (d), x_un, x_un, x_un]) xm150 rfl ?_
  refine e_aload (k := 0) (xi150 0) rfl (by decide) ?_
  refine e_iload (k := 1) (xi150 1) rfl ?_
  refine e_iload (k := 2) (xi150 2) rfl ?_
  have t1 := ty_a0 tl0.1
  refine e_call (k := 3) (v := some (.inl (x_b ((0 ≤ a ∧ a < M 163 0) ∧ 0 ≤ b ∧ b < M 163 (10 + 80 * a))))) (h1 := (z, P, M)) (c1 := 0) (c2 := 0) (rest := []) (as := [.inr 162, .inl (a), .inl (b)]) (xi150 3) (by decide) xm125 rfl ⟨rfl, Nat.le_of_ble_eq_true rfl, by decide⟩ (Or.inr (x_okt (ok_mo hS))) (k_misDock hS tl0.1 a b  ) ?_
  refine e_b_eq (k := 4) (xi150 4) (fun c0 => ?_) (fun c0 => ?_)
  · skip
    have t2 := ty_aD tl0.1 (i := 10 + 80 * a) (s := a) (by omega) (by omega)
    refine e_aload (k := 5) (xi150 5) rfl (by decide) ?_
    refine e_getR (j := 0) (w := 163) (k := 6) (xi150 6) (ok_mo hS) rfl (sh_all hS) ?_
    refine e_aload (k := 7) (xi150 7) rfl (by decide) ?_
    refine e_iload (k := 8) (xi150 8) rfl ?_
    refine e_iload (k := 9) (xi150 9) rfl ?_
    refine e_call (k := 10) (v := some (.inl (11 + 80 * a + b))) (h1 := (z, P, M)) (c1 := 0) (c2 := 0) (rest := [.inr 163]) (as := [.inr 162, .inl (a), .inl (b)]) (xi150 10) (by decide) xm119 rfl ⟨rfl, Nat.le_of_ble_eq_true rfl, by decide⟩ (Or.inr (x_okt (ok_mo hS))) (k_mdockAt hS tl0.1 a b (by omega) (by omega)) ?_
    have t3 := ty_aC tl0.1 (i := 11 + 80 * a + b) (s := a) (d := b) (by omega) (by omega) (by omega)
    refine e_iald (w := M 163 (11 + 80 * a + b)) (k := 11) (xi150 11) (ok_all hS) (by rw [ln_all]; omega) rfl ?_
    refine e_z_ge (k := 12) (xi150 12) (fun c1 => ?_) (fun c1 => ?_)
    · skip
      refine e_aload (k := 15) (xi150 15) rfl (by decide) ?_
      refine e_getR (j := 0) (w := 163) (k := 16) (xi150 16) (ok_mo hS) rfl (sh_all hS) ?_
      refine e_aload (k := 17) (xi150 17) rfl (by decide) ?_
      refine e_iload (k := 18) (xi150 18) rfl ?_
      refine e_iload (k := 19) (xi150 19) rfl ?_
      refine e_call (k := 20) (v := some (.inl (11 + 80 * a + b))) (h1 := (z, P, M)) (c1 := 0) (c2 := 0) (rest := [.inr 163]) (as := [.inr 162, .inl (a), .inl (b)]) (xi150 20) (by decide) xm119 rfl ⟨rfl, Nat.le_of_ble_eq_true rfl, by decide⟩ (Or.inr (x_okt (ok_mo hS))) (k_mdockAt hS tl0.1 a b (by omega) (by omega)) ?_
      refine e_iald (w := M 163 (11 + 80 * a + b)) (k := 21) (xi150 21) (ok_all hS) (by rw [ln_all]; omega) rfl ?_
      refine e_istore (k := 22) (xi150 22) (Nat.le_of_ble_eq_true rfl) ?_
      show x_Ev 150 23 [.inr 162, .inl (a), .inl (b), .inl (d), .inl (M 163 (11 + 80 * a + b)), x_un, x_un] [] (0, 0) (z, P, M) _
      refine e_aload (k := 23) (xi150 23) rfl (by decide) ?_
      refine e_iload (k := 24) (xi150 24) rfl ?_
      refine e_iconst (k := 25) (xi150 25) ?_
      have t4 := ty_aW0 tl0.1 (i := 1114 + 8 * M 163 (11 + 80 * a + b)) (w := M 163 (11 + 80 * a + b)) (by omega) (by omega)
      refine e_call (k := 26) (v := some (.inl (M 163 (1114 + 8 * M 163 (11 + 80 * a + b))))) (h1 := (z, P, M)) (c1 := 0) (c2 := 0) (rest := []) (as := [.inr 162, .inl (M 163 (11 + 80 * a + b)), .inl 0]) (xi150 26) (by decide) xm129 rfl ⟨rfl, Nat.le_of_ble_eq_true rfl, by decide⟩ (Or.inr (x_okt (ok_mo hS))) (k_mof hS tl0.1 (M 163 (11 + 80 * a + b)) 0 (1114 + 8 * M 163 (11 + 80 * a + b)) (by omega) (by omega) (by omega)) ?_
      refine e_iconst (k := 27) (xi150 27) ?_
      refine e_c_ne (k := 28) (xi150 28) (fun c2 => ?_) (fun c2 => ?_)
      · skip
        refine e_aload (k := 31) (xi150 31) rfl (by decide) ?_
        refine e_iload (k := 32) (xi150 32) rfl ?_
        refine e_iconst (k := 33) (xi150 33) ?_
        have t5 := ty_aW6 tl0.1 (i := 1120 + 8 * M 163 (11 + 80 * a + b)) (w := M 163 (11 + 80 * a + b)) (by omega) (by omega)
        refine e_call (k := 34) (v := some (.inl (M 163 (1120 + 8 * M 163 (11 + 80 * a + b))))) (h1 := (z, P, M)) (c1 := 0) (c2 := 0) (rest := []) (as := [.inr 162, .inl (M 163 (11 + 80 * a + b)), .inl 6]) (xi150 34) (by decide) xm129 rfl ⟨rfl, Nat.le_of_ble_eq_true rfl, by decide⟩ (Or.inr (x_okt (ok_mo hS))) (k_mof hS tl0.1 (M 163 (11 + 80 * a + b)) 6 (1120 + 8 * M 163 (11 + 80 * a + b)) (by omega) (by omega) (by omega)) ?_
        refine e_z_le (k := 35) (xi150 35) (fun c3 => ?_) (fun c3 => ?_)
        · skip
          refine e_aload (k := 38) (xi150 38) rfl (by decide) ?_
          refine e_iload (k := 39) (xi150 39) rfl ?_
          refine e_iload (k := 40) (xi150 40) rfl ?_
          refine e_callR (k := 41) (c1 := 0) (c2 := 0) (rest := []) (as := [.inr 162, .inl (M 163 (11 + 80 * a + b)), .inl (a)]) (xi150 41) (by decide) xm148 rfl ⟨rfl, Nat.le_of_ble_eq_true rfl, by decide⟩ (Or.inr (x_okt (ok_mo hS))) (k_m_enough hS tl0.1 (M 163 (11 + 80 * a + b)) a  (by omega) (by omega)) ?_
          rintro v_ h_ ⟨e6, q8⟩
          cases e6
          show x_Ev 150 42 [.inr 162, .inl (a), .inl (b), .inl (d), .inl (M 163 (11 + 80 * a + b)), x_un, x_un] [.inl (v_m_enough (M 163 (11 + 80 * a + b)) a M)] (0, 0) (z, P, M) _
          refine e_z_ne (k := 42) (xi150 42) (fun c4 => ?_) (fun c4 => ?_)
          · skip
            refine e_iconst (k := 45) (xi150 45) ?_
            refine e_istore (k := 46) (xi150 46) (Nat.le_of_ble_eq_true rfl) ?_
            show x_Ev 150 47 [.inr 162, .inl (a), .inl (b), .inl (d), .inl (M 163 (11 + 80 * a + b)), .inl ((-1)), x_un] [] (0, 0) (z, P, M) _
            refine e_iload (k := 47) (xi150 47) rfl ?_
            refine e_iconst (k := 48) (xi150 48) ?_
            refine e_c_eq (k := 49) (xi150 49) (fun c5 => ?_) (fun c5 => ?_)
            · skip
              refine e_aload (k := 80) (xi150 80) rfl (by decide) ?_
              refine e_iload (k := 81) (xi150 81) rfl ?_
              refine e_iload (k := 82) (xi150 82) rfl ?_
              refine e_callR (k := 83) (c1 := 0) (c2 := 0) (rest := []) (as := [.inr 162, .inl (M 163 (11 + 80 * a + b)), .inl ((-1))]) (xi150 83) (by decide) xm149 rfl ⟨rfl, Nat.le_of_ble_eq_true rfl, by decide⟩ (Or.inr (x_okt (ok_mo hS))) (k_m_hired hS tl0.1 (M 163 (11 + 80 * a + b)) ((-1))  (by omega) (by omega)) ?_
              rintro v_ h_ ⟨e9, tl10⟩
              cases e9
              have tl12 := tl_trans tl0 (tl_15 tl10)
              have n13 := tl_n5 tl10
              show x_Ev 150 84 [.inr 162, .inl (a), .inl (b), .inl (d), .inl (M 163 (11 + 80 * a + b)), .inl ((-1)), x_un] [] (0, 0) (z, P, (u_m_hired (M 163 (11 + 80 * a + b)) ((-1)) M)) _
              refine e_iload (k := 84) (xi150 84) rfl ?_
              refine e_z_lt (k := 85) (xi150 85) (fun c6 => ?_) (fun q => absurd (by decide) q)
              refine e_iconst (k := 90) (xi150 90) ?_
              refine e_istore (k := 91) (xi150 91) (Nat.le_of_ble_eq_true rfl) ?_
              show x_Ev 150 92 [.inr 162, .inl (a), .inl (b), .inl (d), .inl (M 163 (11 + 80 * a + b)), .inl ((-1)), .inl 0] [] (0, 0) (z, P, (u_m_hired (M 163 (11 + 80 * a + b)) ((-1)) M)) _
              refine kl_n_hire_a hS a b d (M 163 (11 + 80 * a + b)) ((-1))    61 ((u_m_hired (M 163 (11 + 80 * a + b)) ((-1)) M)) 0 tl12 (by omega) (by omega) ?_
              intro tl14 q15
              show x_Ev 150 121 [.inr 162, .inl (a), .inl (b), .inl (d), .inl (M 163 (11 + 80 * a + b)), .inl ((-1)), .inl ((l_n_hire_a a b d (M 163 (11 + 80 * a + b)) ((-1)) 61 ((u_m_hired (M 163 (11 + 80 * a + b)) ((-1)) M)) 0).2)] [] (0, 0) (z, P, (l_n_hire_a a b d (M 163 (11 + 80 * a + b)) ((-1)) 61 ((u_m_hired (M 163 (11 + 80 * a + b)) ((-1)) M)) 0).1) _
              refine e_iload (k := 121) (xi150 121) rfl ?_
              refine e_iret (k := 122) (xi150 122) ?_
              exact y_fW (Q := fun _ => True) (show v_n_hire a b d M = M 163 (11 + 80 * a + b) from by rw [v_n_hire, if_pos c0, if_pos c1, if_pos c2, if_pos c3, if_pos c4, if_pos c5]) (show u_n_hire a b d M = (l_n_hire_a a b d (M 163 (11 + 80 * a + b)) ((-1)) 61 ((u_m_hired (M 163 (11 + 80 * a + b)) ((-1)) M)) 0).1 from by rw [u_n_hire, if_pos c0, if_pos c1, if_pos c2, if_pos c3, if_pos c4, if_pos c5]) tl14 trivial
            · skip
              refine e_aload (k := 50) (xi150 50) rfl (by decide) ?_
              refine e_iload (k := 51) (xi150 51) rfl ?_
              refine e_iload (k := 52) (xi150 52) rfl ?_
              refine e_call (k := 53) (v := some (.inl (x_b ((0 ≤ a ∧ a < M 163 0) ∧ 0 ≤ d ∧ d < M 163 (10 + 80 * a))))) (h1 := (z, P, M)) (c1 := 0) (c2 := 0) (rest := []) (as := [.inr 162, .inl (a), .inl (d)]) (xi150 53) (by decide) xm125 rfl ⟨rfl, Nat.le_of_ble_eq_true rfl, by decide⟩ (Or.inr (x_okt (ok_mo hS))) (k_misDock hS tl0.1 a d  ) ?_
              refine e_b_eq (k := 54) (xi150 54) (fun c7 => ?_) (fun c7 => ?_)
              · skip
                refine e_aload (k := 55) (xi150 55) rfl (by decide) ?_
                refine e_getR (j := 0) (w := 163) (k := 56) (xi150 56) (ok_mo hS) rfl (sh_all hS) ?_
                refine e_aload (k := 57) (xi150 57) rfl (by decide) ?_
                refine e_iload (k := 58) (xi150 58) rfl ?_
                refine e_iload (k := 59) (xi150 59) rfl ?_
                refine e_call (k := 60) (v := some (.inl (11 + 80 * a + d))) (h1 := (z, P, M)) (c1 := 0) (c2 := 0) (rest := [.inr 163]) (as := [.inr 162, .inl (a), .inl (d)]) (xi150 60) (by decide) xm119 rfl ⟨rfl, Nat.le_of_ble_eq_true rfl, by decide⟩ (Or.inr (x_okt (ok_mo hS))) (k_mdockAt hS tl0.1 a d (by omega) (by omega)) ?_
                have t16 := ty_aC tl0.1 (i := 11 + 80 * a + d) (s := a) (d := d) (by omega) (by omega) (by omega)
                refine e_iald (w := M 163 (11 + 80 * a + d)) (k := 61) (xi150 61) (ok_all hS) (by rw [ln_all]; omega) rfl ?_
                refine e_goto (k := 62) (xi150 62) ?_
                refine e_istore (k := 64) (xi150 64) (Nat.le_of_ble_eq_true rfl) ?_
                show x_Ev 150 65 [.inr 162, .inl (a), .inl (b), .inl (d), .inl (M 163 (11 + 80 * a + b)), .inl (M 163 (11 + 80 * a + d)), x_un] [] (0, 0) (z, P, M) _
                refine e_iload (k := 65) (xi150 65) rfl ?_
                refine e_z_lt (k := 66) (xi150 66) (fun c8 => ?_) (fun c8 => ?_)
                · skip
                  refine e_iconst (k := 78) (xi150 78) ?_
                  refine e_iret (k := 79) (xi150 79) ?_
                  exact y_fW (Q := fun _ => True) (show v_n_hire a b d M = (-5) from by rw [v_n_hire, if_pos c0, if_pos c1, if_pos c2, if_pos c3, if_pos c4, if_neg c5, if_pos c7, if_pos c8]) (show u_n_hire a b d M = M from by rw [u_n_hire, if_pos c0, if_pos c1, if_pos c2, if_pos c3, if_pos c4, if_neg c5, if_pos c7, if_pos c8]) tl0 trivial
                · skip
                  refine e_aload (k := 67) (xi150 67) rfl (by decide) ?_
                  refine e_iload (k := 68) (xi150 68) rfl ?_
                  refine e_iconst (k := 69) (xi150 69) ?_
                  have t17 := ty_aW0 tl0.1 (i := 1114 + 8 * M 163 (11 + 80 * a + d)) (w := M 163 (11 + 80 * a + d)) (by omega) (by omega)
                  refine e_call (k := 70) (v := some (.inl (M 163 (1114 + 8 * M 163 (11 + 80 * a + d))))) (h1 := (z, P, M)) (c1 := 0) (c2 := 0) (rest := []) (as := [.inr 162, .inl (M 163 (11 + 80 * a + d)), .inl 0]) (xi150 70) (by decide) xm129 rfl ⟨rfl, Nat.le_of_ble_eq_true rfl, by decide⟩ (Or.inr (x_okt (ok_mo hS))) (k_mof hS tl0.1 (M 163 (11 + 80 * a + d)) 0 (1114 + 8 * M 163 (11 + 80 * a + d)) (by omega) (by omega) (by omega)) ?_
                  refine e_iconst (k := 71) (xi150 71) ?_
                  refine e_c_ne (k := 72) (xi150 72) (fun c9 => ?_) (fun c9 => ?_)
                  · skip
                    refine e_iconst (k := 78) (xi150 78) ?_
                    refine e_iret (k := 79) (xi150 79) ?_
                    exact y_fW (Q := fun _ => True) (show v_n_hire a b d M = (-5) from by rw [v_n_hire, if_pos c0, if_pos c1, if_pos c2, if_pos c3, if_pos c4, if_neg c5, if_pos c7, if_neg c8, if_pos c9]) (show u_n_hire a b d M = M from by rw [u_n_hire, if_pos c0, if_pos c1, if_pos c2, if_pos c3, if_pos c4, if_neg c5, if_pos c7, if_neg c8, if_pos c9]) tl0 trivial
                  · skip
                    refine e_aload (k := 73) (xi150 73) rfl (by decide) ?_
                    refine e_iload (k := 74) (xi150 74) rfl ?_
                    refine e_iconst (k := 75) (xi150 75) ?_
                    have t18 := ty_aW6 tl0.1 (i := 1120 + 8 * M 163 (11 + 80 * a + d)) (w := M 163 (11 + 80 * a + d)) (by omega) (by omega)
                    refine e_call (k := 76) (v := some (.inl (M 163 (1120 + 8 * M 163 (11 + 80 * a + d))))) (h1 := (z, P, M)) (c1 := 0) (c2 := 0) (rest := []) (as := [.inr 162, .inl (M 163 (11 + 80 * a + d)), .inl 6]) (xi150 76) (by decide) xm129 rfl ⟨rfl, Nat.le_of_ble_eq_true rfl, by decide⟩ (Or.inr (x_okt (ok_mo hS))) (k_mof hS tl0.1 (M 163 (11 + 80 * a + d)) 6 (1120 + 8 * M 163 (11 + 80 * a + d)) (by omega) (by omega) (by omega)) ?_
                    refine e_z_le (k := 77) (xi150 77) (fun c10 => ?_) (fun c10 => ?_)
                    · skip
                      refine e_aload (k := 80) (xi150 80) rfl (by decide) ?_
                      refine e_iload (k := 81) (xi150 81) rfl ?_
                      refine e_iload (k := 82) (xi150 82) rfl ?_
                      refine e_callR (k := 83) (c1 := 0) (c2 := 0) (rest := []) (as := [.inr 162, .inl (M 163 (11 + 80 * a + b)), .inl (M 163 (11 + 80 * a + d))]) (xi150 83) (by decide) xm149 rfl ⟨rfl, Nat.le_of_ble_eq_true rfl, by decide⟩ (Or.inr (x_okt (ok_mo hS))) (k_m_hired hS tl0.1 (M 163 (11 + 80 * a + b)) (M 163 (11 + 80 * a + d))  (by omega) (by omega)) ?_
                      rintro v_ h_ ⟨e19, tl20⟩
                      cases e19
                      have tl22 := tl_trans tl0 (tl_15 tl20)
                      have n23 := tl_n5 tl20
                      show x_Ev 150 84 [.inr 162, .inl (a), .inl (b), .inl (d), .inl (M 163 (11 + 80 * a + b)), .inl (M 163 (11 + 80 * a + d)), x_un] [] (0, 0) (z, P, (u_m_hired (M 163 (11 + 80 * a + b)) (M 163 (11 + 80 * a + d)) M)) _
                      refine e_iload (k := 84) (xi150 84) rfl ?_
                      refine e_z_lt (k := 85) (xi150 85) (fun c11 => ?_) (fun c11 => ?_)
                      · skip
                        refine e_iconst (k := 90) (xi150 90) ?_
                        refine e_istore (k := 91) (xi150 91) (Nat.le_of_ble_eq_true rfl) ?_
                        show x_Ev 150 92 [.inr 162, .inl (a), .inl (b), .inl (d), .inl (M 163 (11 + 80 * a + b)), .inl (M 163 (11 + 80 * a + d)), .inl 0] [] (0, 0) (z, P, (u_m_hired (M 163 (11 + 80 * a + b)) (M 163 (11 + 80 * a + d)) M)) _
                        refine kl_n_hire_a hS a b d (M 163 (11 + 80 * a + b)) (M 163 (11 + 80 * a + d))    61 ((u_m_hired (M 163 (11 + 80 * a + b)) (M 163 (11 + 80 * a + d)) M)) 0 tl22 (by omega) (by omega) ?_
                        intro tl24 q25
                        show x_Ev 150 121 [.inr 162, .inl (a), .inl (b), .inl (d), .inl (M 163 (11 + 80 * a + b)), .inl (M 163 (11 + 80 * a + d)), .inl ((l_n_hire_a a b d (M 163 (11 + 80 * a + b)) (M 163 (11 + 80 * a + d)) 61 ((u_m_hired (M 163 (11 + 80 * a + b)) (M 163 (11 + 80 * a + d)) M)) 0).2)] [] (0, 0) (z, P, (l_n_hire_a a b d (M 163 (11 + 80 * a + b)) (M 163 (11 + 80 * a + d)) 61 ((u_m_hired (M 163 (11 + 80 * a + b)) (M 163 (11 + 80 * a + d)) M)) 0).1) _
                        refine e_iload (k := 121) (xi150 121) rfl ?_
                        refine e_iret (k := 122) (xi150 122) ?_
                        exact y_fW (Q := fun _ => True) (show v_n_hire a b d M = M 163 (11 + 80 * a + b) from by rw [v_n_hire, if_pos c0, if_pos c1, if_pos c2, if_pos c3, if_pos c4, if_neg c5, if_pos c7, if_neg c8, if_neg c9, if_pos c10, if_pos c11]) (show u_n_hire a b d M = (l_n_hire_a a b d (M 163 (11 + 80 * a + b)) (M 163 (11 + 80 * a + d)) 61 ((u_m_hired (M 163 (11 + 80 * a + b)) (M 163 (11 + 80 * a + d)) M)) 0).1 from by rw [u_n_hire, if_pos c0, if_pos c1, if_pos c2, if_pos c3, if_pos c4, if_neg c5, if_pos c7, if_neg c8, if_neg c9, if_pos c10, if_pos c11]) tl24 trivial
                      · skip
                        refine e_aload (k := 86) (xi150 86) rfl (by decide) ?_
                        refine e_iload (k := 87) (xi150 87) rfl ?_
                        refine e_iload (k := 88) (xi150 88) rfl ?_
                        refine e_callR (k := 89) (c1 := 0) (c2 := 0) (rest := []) (as := [.inr 162, .inl (M 163 (11 + 80 * a + d)), .inl (M 163 (11 + 80 * a + b))]) (xi150 89) (by decide) xm149 rfl ⟨rfl, Nat.le_of_ble_eq_true rfl, by decide⟩ (Or.inr (x_okt (ok_mo hS))) (k_m_hired hS tl22.1 (M 163 (11 + 80 * a + d)) (M 163 (11 + 80 * a + b))  (by omega) (by omega)) ?_
                        rintro v_ h_ ⟨e26, tl27⟩
                        cases e26
                        have tl29 := tl_trans tl22 (tl_15 tl27)
                        have n30 := tl_n5 tl27
                        show x_Ev 150 90 [.inr 162, .inl (a), .inl (b), .inl (d), .inl (M 163 (11 + 80 * a + b)), .inl (M 163 (11 + 80 * a + d)), x_un] [] (0, 0) (z, P, (u_m_hired (M 163 (11 + 80 * a + d)) (M 163 (11 + 80 * a + b)) ((u_m_hired (M 163 (11 + 80 * a + b)) (M 163 (11 + 80 * a + d)) M)))) _
                        refine e_iconst (k := 90) (xi150 90) ?_
                        refine e_istore (k := 91) (xi150 91) (Nat.le_of_ble_eq_true rfl) ?_
                        show x_Ev 150 92 [.inr 162, .inl (a), .inl (b), .inl (d), .inl (M 163 (11 + 80 * a + b)), .inl (M 163 (11 + 80 * a + d)), .inl 0] [] (0, 0) (z, P, (u_m_hired (M 163 (11 + 80 * a + d)) (M 163 (11 + 80 * a + b)) ((u_m_hired (M 163 (11 + 80 * a + b)) (M 163 (11 + 80 * a + d)) M)))) _
                        refine kl_n_hire_a hS a b d (M 163 (11 + 80 * a + b)) (M 163 (11 + 80 * a + d))    61 ((u_m_hired (M 163 (11 + 80 * a + d)) (M 163 (11 + 80 * a + b)) ((u_m_hired (M 163 (11 + 80 * a + b)) (M 163 (11 + 80 * a + d)) M)))) 0 tl29 (by omega) (by omega) ?_
                        intro tl31 q32
                        show x_Ev 150 121 [.inr 162, .inl (a), .inl (b), .inl (d), .inl (M 163 (11 + 80 * a + b)), .inl (M 163 (11 + 80 * a + d)), .inl ((l_n_hire_a a b d (M 163 (11 + 80 * a + b)) (M 163 (11 + 80 * a + d)) 61 ((u_m_hired (M 163 (11 + 80 * a + d)) (M 163 (11 + 80 * a + b)) ((u_m_hired (M 163 (11 + 80 * a + b)) (M 163 (11 + 80 * a + d)) M)))) 0).2)] [] (0, 0) (z, P, (l_n_hire_a a b d (M 163 (11 + 80 * a + b)) (M 163 (11 + 80 * a + d)) 61 ((u_m_hired (M 163 (11 + 80 * a + d)) (M 163 (11 + 80 * a + b)) ((u_m_hired (M 163 (11 + 80 * a + b)) (M 163 (11 + 80 * a + d)) M)))) 0).1) _
                        refine e_iload (k := 121) (xi150 121) rfl ?_
                        refine e_iret (k := 122) (xi150 122) ?_
                        exact y_fW (Q := fun _ => True) (show v_n_hire a b d M = M 163 (11 + 80 * a + b) from by rw [v_n_hire, if_pos c0, if_pos c1, if_pos c2, if_pos c3, if_pos c4, if_neg c5, if_pos c7, if_neg c8, if_neg c9, if_pos c10, if_neg c11]) (show u_n_hire a b d M = (l_n_hire_a a b d (M 163 (11 + 80 * a + b)) (M 163 (11 + 80 * a + d)) 61 ((u_m_hired (M 163 (11 + 80 * a + d)) (M 163 (11 + 80 * a + b)) ((u_m_hired (M 163 (11 + 80 * a + b)) (M 163 (11 + 80 * a + d)) M)))) 0).1 from by rw [u_n_hire, if_pos c0, if_pos c1, if_pos c2, if_pos c3, if_pos c4, if_neg c5, if_pos c7, if_neg c8, if_neg c9, if_pos c10, if_neg c11]) tl31 trivial
                    · skip
                      refine e_iconst (k := 78) (xi150 78) ?_
                      refine e_iret (k := 79) (xi150 79) ?_
                      exact y_fW (Q := fun _ => True) (show v_n_hire a b d M = (-5) from by rw [v_n_hire, if_pos c0, if_pos c1, if_pos c2, if_pos c3, if_pos c4, if_neg c5, if_pos c7, if_neg c8, if_neg c9, if_neg c10]) (show u_n_hire a b d M = M from by rw [u_n_hire, if_pos c0, if_pos c1, if_pos c2, if_pos c3, if_pos c4, if_neg c5, if_pos c7, if_neg c8, if_neg c9, if_neg c10]) tl0 trivial
              · skip
                refine e_iconst (k := 63) (xi150 63) ?_
                refine e_istore (k := 64) (xi150 64) (Nat.le_of_ble_eq_true rfl) ?_
                show x_Ev 150 65 [.inr 162, .inl (a), .inl (b), .inl (d), .inl (M 163 (11 + 80 * a + b)), .inl ((-1)), x_un] [] (0, 0) (z, P, M) _
                refine e_iload (k := 65) (xi150 65) rfl ?_
                refine e_z_lt (k := 66) (xi150 66) (fun c12 => ?_) (fun q => absurd (by decide) q)
                refine e_iconst (k := 78) (xi150 78) ?_
                refine e_iret (k := 79) (xi150 79) ?_
                exact y_fW (Q := fun _ => True) (show v_n_hire a b d M = (-5) from by rw [v_n_hire, if_pos c0, if_pos c1, if_pos c2, if_pos c3, if_pos c4, if_neg c5, if_neg c7]) (show u_n_hire a b d M = M from by rw [u_n_hire, if_pos c0, if_pos c1, if_pos c2, if_pos c3, if_pos c4, if_neg c5, if_neg c7]) tl0 trivial
          · skip
            refine e_iconst (k := 43) (xi150 43) ?_
            refine e_iret (k := 44) (xi150 44) ?_
            exact y_fW (Q := fun _ => True) (show v_n_hire a b d M = (-4) from by rw [v_n_hire, if_pos c0, if_pos c1, if_pos c2, if_pos c3, if_neg c4]) (show u_n_hire a b d M = M from by rw [u_n_hire, if_pos c0, if_pos c1, if_pos c2, if_pos c3, if_neg c4]) tl0 trivial
        · skip
          refine e_iconst (k := 36) (xi150 36) ?_
          refine e_iret (k := 37) (xi150 37) ?_
          exact y_fW (Q := fun _ => True) (show v_n_hire a b d M = (-3) from by rw [v_n_hire, if_pos c0, if_pos c1, if_pos c2, if_neg c3]) (show u_n_hire a b d M = M from by rw [u_n_hire, if_pos c0, if_pos c1, if_pos c2, if_neg c3]) tl0 trivial
      · skip
        refine e_iconst (k := 29) (xi150 29) ?_
        refine e_iret (k := 30) (xi150 30) ?_
        exact y_fW (Q := fun _ => True) (show v_n_hire a b d M = (-2) from by rw [v_n_hire, if_pos c0, if_pos c1, if_neg c2]) (show u_n_hire a b d M = M from by rw [u_n_hire, if_pos c0, if_pos c1, if_neg c2]) tl0 trivial
    · skip
      refine e_iconst (k := 13) (xi150 13) ?_
      refine e_iret (k := 14) (xi150 14) ?_
      exact y_fW (Q := fun _ => True) (show v_n_hire a b d M = (-1) from by rw [v_n_hire, if_pos c0, if_neg c1]) (show u_n_hire a b d M = M from by rw [u_n_hire, if_pos c0, if_neg c1]) tl0 trivial
  · skip
    refine e_iconst (k := 13) (xi150 13) ?_
    refine e_iret (k := 14) (xi150 14) ?_
    exact y_fW (Q := fun _ => True) (show v_n_hire a b d M = (-1) from by rw [v_n_hire, if_neg c0]) (show u_n_hire a b d M = M from by rw [u_n_hire, if_neg c0]) tl0 trivial
def l_n_end_a (a b c : Int) : Nat → (Int → Int → Int) → Int → Int → Int → Int → (Int → Int → Int) × Int × Int × Int × Int
  | 0, M, p, j, th, mo_ => (M, p, j, th, mo_)
  | k + 1, M, p, j, th, mo_ => if mo_ = 0 then (M, p, j, th, mo_) else if M 163 (25 + 80 * b) ≤ j then l_n_end_a a b c k ((x_up M 163 (23 + 80 * p) (x_w (1 + M 163 (23 + 80 * p))))) p j th 0 else if ¬ v_m_arrives a c (M 163 (26 + 80 * b + j)) ((u_m_goes a (M 163 (970 + 12 * p + M 163 (26 + 80 * b + j))) ((x_up M 163 (23 + 80 * p) (x_w (1 + M 163 (23 + 80 * p))))))) = 0 then l_n_end_a a b c k ((u_m_arrives a c (M 163 (26 + 80 * b + j)) ((u_m_goes a (M 163 (970 + 12 * p + M 163 (26 + 80 * b + j))) ((x_up M 163 (23 + 80 * p) (x_w (1 + M 163 (23 + 80 * p))))))))) (M 163 (26 + 80 * b + j)) (1 + j) (v_m_arrives a c (M 163 (26 + 80 * b + j)) ((u_m_goes a (M 163 (970 + 12 * p + M 163 (26 + 80 * b + j))) ((x_up M 163 (23 + 80 * p) (x_w (1 + M 163 (23 + 80 * p)))))))) 0 else l_n_end_a a b c k ((u_m_arrives a c (M 163 (26 + 80 * b + j)) ((u_m_goes a (M 163 (970 + 12 * p + M 163 (26 + 80 * b + j))) ((x_up M 163 (23 + 80 * p) (x_w (1 + M 163 (23 + 80 * p))))))))) (M 163 (26 + 80 * b + j)) (1 + j) (v_m_arrives a c (M 163 (26 + 80 * b + j)) ((u_m_goes a (M 163 (970 + 12 * p + M 163 (26 + 80 * b + j))) ((x_up M 163 (23 + 80 * p) (x_w (1 + M 163 (23 + 80 * p)))))))) 1
theorem kl_n_end_a {z : Int} {P M0 : Int → Int → Int} {r : Option xV × xH → Prop} (hS : x_Sh z P) (a : Int) (b : Int) (c : Int)  (ha : 0 ≤ a ∧ a < 60) (hb : 0 ≤ b ∧ b < 12) (hc : -1 ≤ c ∧ c ≤ 59)  : ∀ k : Nat, ∀ x9 : xV, ∀ M : (Int → Int → Int), ∀ p : Int, ∀ j : Int, ∀ th : Int, ∀ mo_ : Int, y_TL 1 M0 M → ((0 ≤ p ∧ p < 12) ∧ (0 ≤ j ∧ j ≤ 8) ∧ (0 ≤ th ∧ th ≤ 1) ∧ 0 ≤ mo_ ∧ mo_ ≤ 1) → 16 - 2 * j + mo_ < (k : Int) → (∀ x9 : xV, y_TL 1 M0 ((l_n_end_a a b c k M p j th mo_).1) → (0 ≤ ((l_n_end_a a b c k M p j th mo_).2.1) ∧ ((l_n_end_a a b c k M p j th mo_).2.1) < 12) → x_Ev 154 118 [.inr 162, .inl (a), .inl (b), .inl (c), .inl ((l_n_end_a a b c k M p j th mo_).2.1), .inl (25 + 80 * b), .inl ((l_n_end_a a b c k M p j th mo_).2.2.1), .inl ((l_n_end_a a b c k M p j th mo_).2.2.2.1), .inl ((l_n_end_a a b c k M p j th mo_).2.2.2.2), x9] [] (0, 0) (z, P, (l_n_end_a a b c k M p j th mo_).1) r) → x_Ev 154 59 [.inr 162, .inl (a), .inl (b), .inl (c), .inl (p), .inl (25 + 80 * b), .inl (j), .inl (th), .inl (mo_), x9] [] (0, 0) (z, P, M) r := by
  intro k
  induction k with
  | zero => intro x9 M p j th mo_ tl0 hi hm; omega
  | succ k ih =>
    intro x9 M p j th mo_ tl0 hi hm kk
    refine e_iload (k := 59) (xi154 59) rfl ?_
    refine e_z_eq (k := 60) (xi154 60) (fun c0 => ?_) (fun c0 => ?_)
    · skip
      rw [(show l_n_end_a a b c (k + 1) M p j th mo_ = (M, p, j, th, mo_) from by rw [l_n_end_a, if_pos c0])] at kk
      try dsimp only at kk
      exact kk _ tl0 (by first | exact trivial | omega)
    · skip
      refine e_aload (k := 61) (xi154 61) rfl (by decide) ?_
      refine e_getR (j := 0) (w := 163) (k := 62) (xi154 62) (ok_mo hS) rfl (sh_all hS) ?_
      refine e_aload (k := 63) (xi154 63) rfl (by decide) ?_
      refine e_iload (k := 64) (xi154 64) rfl ?_
      refine e_call (k := 65) (v := some (.inl (10 + 80 * p))) (h1 := (z, P, M)) (c1 := 0) (c2 := 0) (rest := [.inr 163]) (as := [.inr 162, .inl (p)]) (xi154 65) (by decide) xm117 rfl ⟨rfl, Nat.le_of_ble_eq_true rfl, by decide⟩ (Or.inr (x_okt (ok_mo hS))) (k_mstandAt hS tl0.1 p (by omega)) ?_
      refine e_iconst (k := 66) (xi154 66) ?_
      refine e_iadd (w := 23 + 80 * p) (k := 67) (xi154 67) (x_wn (by omega)) ?_
      refine e_dup2 (k := 68) (xi154 68) ?_
      refine e_iald (w := M 163 (23 + 80 * p)) (k := 69) (xi154 69) (ok_all hS) (by rw [ln_all]; omega) rfl ?_
      refine e_iconst (k := 70) (xi154 70) ?_
      refine e_iadd (w := x_w (1 + M 163 (23 + 80 * p))) (k := 71) (xi154 71) (x_wr (by omega)) ?_
      refine e_iast (k := 72) (xi154 72) (ok_all hS) (by rw [ln_all]; omega) ?_
      have tl1 : y_TL 1 M0 (x_up M 163 (23 + 80 * p) (x_w (1 + M 163 (23 + 80 * p)))) := tl_up tl0 (sl_aF (i := 23 + 80 * p) (s := p) (by omega) (by omega)) (nf_aF (i := 23 + 80 * p) (s := p) (by omega) (by omega))
      refine e_iload (k := 73) (xi154 73) rfl ?_
      refine e_aload (k := 74) (xi154 74) rfl (by decide) ?_
      refine e_getR (j := 0) (w := 163) (k := 75) (xi154 75) (ok_mo hS) rfl (sh_all hS) ?_
      refine e_iload (k := 76) (xi154 76) rfl ?_
      have t2 := ty_aOc tl0.1 (i := 25 + 80 * b) (s := b) (by omega) (by omega)
      refine e_iald (w := M 163 (25 + 80 * b)) (k := 77) (xi154 77) (ok_all hS) (by rw [ln_all]; omega) (((x_up_nk (by omega)).trans rfl)) ?_
      refine e_c_ge (k := 78) (xi154 78) (fun c1 => ?_) (fun c1 => ?_)
      · skip
        refine e_iconst (k := 81) (xi154 81) ?_
        refine e_istore (k := 82) (xi154 82) (Nat.le_of_ble_eq_true rfl) ?_
        show x_Ev 154 83 [.inr 162, .inl (a), .inl (b), .inl (c), .inl (p), .inl (25 + 80 * b), .inl (j), .inl (th), .inl 0, x9] [] (0, 0) (z, P, (x_up M 163 (23 + 80 * p) (x_w (1 + M 163 (23 + 80 * p))))) _
        refine e_iload (k := 83) (xi154 83) rfl ?_
        refine e_z_ne (k := 84) (xi154 84) (fun q => absurd q (by decide)) (fun c2 => ?_)
        refine e_goto (k := 85) (xi154 85) ?_
        rw [(show l_n_end_a a b c (k + 1) M p j th mo_ = l_n_end_a a b c k ((x_up M 163 (23 + 80 * p) (x_w (1 + M 163 (23 + 80 * p))))) p j th 0 from by rw [l_n_end_a, if_neg c0, if_pos c1])] at kk
        exact ih _ ((x_up M 163 (23 + 80 * p) (x_w (1 + M 163 (23 + 80 * p))))) p j th 0 tl1 (by omega) (by omega) kk
      · skip
        refine e_iconst (k := 79) (xi154 79) ?_
        refine e_goto (k := 80) (xi154 80) ?_
        refine e_istore (k := 82) (xi154 82) (Nat.le_of_ble_eq_true rfl) ?_
        show x_Ev 154 83 [.inr 162, .inl (a), .inl (b), .inl (c), .inl (p), .inl (25 + 80 * b), .inl (j), .inl (th), .inl 1, x9] [] (0, 0) (z, P, (x_up M 163 (23 + 80 * p) (x_w (1 + M 163 (23 + 80 * p))))) _
        refine e_iload (k := 83) (xi154 83) rfl ?_
        refine e_z_ne (k := 84) (xi154 84) (fun c3 => ?_) (fun q => absurd (by decide) q)
        refine e_aload (k := 86) (xi154 86) rfl (by decide) ?_
        refine e_getR (j := 0) (w := 163) (k := 87) (xi154 87) (ok_mo hS) rfl (sh_all hS) ?_
        refine e_iload (k := 88) (xi154 88) rfl ?_
        refine e_iconst (k := 89) (xi154 89) ?_
        refine e_iadd (w := 26 + 80 * b) (k := 90) (xi154 90) (x_wn (by omega)) ?_
        refine e_iload (k := 91) (xi154 91) rfl ?_
        refine e_iadd (w := 26 + 80 * b + j) (k := 92) (xi154 92) (x_wn (by omega)) ?_
        have t3 := ty_aO tl0.1 (i := 26 + 80 * b + j) (s := b) (d := j) (by omega) (by omega) (by omega)
        refine e_iald (w := M 163 (26 + 80 * b + j)) (k := 93) (xi154 93) (ok_all hS) (by rw [ln_all]; omega) (((x_up_nk (by omega)).trans rfl)) ?_
        refine e_istore (k := 94) (xi154 94) (Nat.le_of_ble_eq_true rfl) ?_
        show x_Ev 154 95 [.inr 162, .inl (a), .inl (b), .inl (c), .inl (p), .inl (25 + 80 * b), .inl (j), .inl (th), .inl 1, .inl (M 163 (26 + 80 * b + j))] [] (0, 0) (z, P, (x_up M 163 (23 + 80 * p) (x_w (1 + M 163 (23 + 80 * p))))) _
        refine e_iinc (w := 1 + j) (k := 95) (xi154 95) rfl (x_wn (by omega)) ?_
        show x_Ev 154 96 [.inr 162, .inl (a), .inl (b), .inl (c), .inl (p), .inl (25 + 80 * b), .inl (1 + j), .inl (th), .inl 1, .inl (M 163 (26 + 80 * b + j))] [] (0, 0) (z, P, (x_up M 163 (23 + 80 * p) (x_w (1 + M 163 (23 + 80 * p))))) _
        refine e_aload (k := 96) (xi154 96) rfl (by decide) ?_
        refine e_iload (k := 97) (xi154 97) rfl ?_
        refine e_aload (k := 98) (xi154 98) rfl (by decide) ?_
        refine e_iload (k := 99) (xi154 99) rfl ?_
        refine e_iload (k := 100) (xi154 100) rfl ?_
        have t4 := ty_aL tl0.1 (i := 970 + 12 * p + M 163 (26 + 80 * b + j)) (a := p) (b := M 163 (26 + 80 * b + j)) (by omega) (by omega) (by omega)
        refine e_call (k := 101) (v := some (.inl (M 163 (970 + 12 * p + M 163 (26 + 80 * b + j))))) (h1 := (z, P, (x_up M 163 (23 + 80 * p) (x_w (1 + M 163 (23 + 80 * p)))))) (c1 := 0) (c2 := 0) (rest := [.inl (a), .inr 162]) (as := [.inr 162, .inl (p), .inl (M 163 (26 + 80 * b + j))]) (xi154 101) (by decide) xm120 rfl ⟨rfl, Nat.le_of_ble_eq_true rfl, by decide⟩ (Or.inr (x_okt (ok_mo hS))) (x_cvT (k_mfar hS tl1.1 p (M 163 (26 + 80 * b + j)) (970 + 12 * p + M 163 (26 + 80 * b + j)) (by omega) (by omega) (by omega)) (((x_up_nk (by omega)).trans rfl))) ?_
        refine e_callR (k := 102) (c1 := 0) (c2 := 0) (rest := []) (as := [.inr 162, .inl (a), .inl (M 163 (970 + 12 * p + M 163 (26 + 80 * b + j)))]) (xi154 102) (by decide) xm151 rfl ⟨rfl, Nat.le_of_ble_eq_true rfl, by decide⟩ (Or.inr (x_okt (ok_mo hS))) (k_m_goes hS tl1.1 a (M 163 (970 + 12 * p + M 163 (26 + 80 * b + j)))  (by omega) (by omega)) ?_
        rintro v_ h_ ⟨e5, tl6⟩
        cases e5
        have tl8 := tl_trans tl1 (tl_15 tl6)
        have n9 := tl_n5 tl6
        show x_Ev 154 103 [.inr 162, .inl (a), .inl (b), .inl (c), .inl (p), .inl (25 + 80 * b), .inl (1 + j), .inl (th), .inl 1, .inl (M 163 (26 + 80 * b + j))] [] (0, 0) (z, P, (u_m_goes a (M 163 (970 + 12 * p + M 163 (26 + 80 * b + j))) ((x_up M 163 (23 + 80 * p) (x_w (1 + M 163 (23 + 80 * p))))))) _
        refine e_iload (k := 103) (xi154 103) rfl ?_
        refine e_istore (k := 104) (xi154 104) (Nat.le_of_ble_eq_true rfl) ?_
        show x_Ev 154 105 [.inr 162, .inl (a), .inl (b), .inl (c), .inl (M 163 (26 + 80 * b + j)), .inl (25 + 80 * b), .inl (1 + j), .inl (th), .inl 1, .inl (M 163 (26 + 80 * b + j))] [] (0, 0) (z, P, (u_m_goes a (M 163 (970 + 12 * p + M 163 (26 + 80 * b + j))) ((x_up M 163 (23 + 80 * p) (x_w (1 + M 163 (23 + 80 * p))))))) _
        refine e_aload (k := 105) (xi154 105) rfl (by decide) ?_
        refine e_iload (k := 106) (xi154 106) rfl ?_
        refine e_iload (k := 107) (xi154 107) rfl ?_
        refine e_iload (k := 108) (xi154 108) rfl ?_
        refine e_callR (k := 109) (c1 := 0) (c2 := 0) (rest := []) (as := [.inr 162, .inl (a), .inl (c), .inl (M 163 (26 + 80 * b + j))]) (xi154 109) (by decide) xm152 rfl ⟨rfl, Nat.le_of_ble_eq_true rfl, by decide⟩ (Or.inr (x_okt (ok_mo hS))) (k_m_arrives hS tl8.1 a c (M 163 (26 + 80 * b + j))  (by omega) (by omega) (by omega)) ?_
        rintro v_ h_ ⟨e10, tl11, q12⟩
        cases e10
        have tl13 := tl_trans tl8 (tl_15 tl11)
        have n14 := tl_n5 tl11
        show x_Ev 154 110 [.inr 162, .inl (a), .inl (b), .inl (c), .inl (M 163 (26 + 80 * b + j)), .inl (25 + 80 * b), .inl (1 + j), .inl (th), .inl 1, .inl (M 163 (26 + 80 * b + j))] [.inl (v_m_arrives a c (M 163 (26 + 80 * b + j)) ((u_m_goes a (M 163 (970 + 12 * p + M 163 (26 + 80 * b + j))) ((x_up M 163 (23 + 80 * p) (x_w (1 + M 163 (23 + 80 * p))))))))] (0, 0) (z, P, (u_m_arrives a c (M 163 (26 + 80 * b + j)) ((u_m_goes a (M 163 (970 + 12 * p + M 163 (26 + 80 * b + j))) ((x_up M 163 (23 + 80 * p) (x_w (1 + M 163 (23 + 80 * p))))))))) _
        refine e_istore (k := 110) (xi154 110) (Nat.le_of_ble_eq_true rfl) ?_
        show x_Ev 154 111 [.inr 162, .inl (a), .inl (b), .inl (c), .inl (M 163 (26 + 80 * b + j)), .inl (25 + 80 * b), .inl (1 + j), .inl (v_m_arrives a c (M 163 (26 + 80 * b + j)) ((u_m_goes a (M 163 (970 + 12 * p + M 163 (26 + 80 * b + j))) ((x_up M 163 (23 + 80 * p) (x_w (1 + M 163 (23 + 80 * p)))))))), .inl 1, .inl (M 163 (26 + 80 * b + j))] [] (0, 0) (z, P, (u_m_arrives a c (M 163 (26 + 80 * b + j)) ((u_m_goes a (M 163 (970 + 12 * p + M 163 (26 + 80 * b + j))) ((x_up M 163 (23 + 80 * p) (x_w (1 + M 163 (23 + 80 * p))))))))) _
        refine e_iload (k := 111) (xi154 111) rfl ?_
        refine e_z_ne (k := 112) (xi154 112) (fun c4 => ?_) (fun c4 => ?_)
        · skip
          refine e_iconst (k := 115) (xi154 115) ?_
          refine e_istore (k := 116) (xi154 116) (Nat.le_of_ble_eq_true rfl) ?_
          show x_Ev 154 117 [.inr 162, .inl (a), .inl (b), .inl (c), .inl (M 163 (26 + 80 * b + j)), .inl (25 + 80 * b), .inl (1 + j), .inl (v_m_arrives a c (M 163 (26 + 80 * b + j)) ((u_m_goes a (M 163 (970 + 12 * p + M 163 (26 + 80 * b + j))) ((x_up M 163 (23 + 80 * p) (x_w (1 + M 163 (23 + 80 * p)))))))), .inl 0, .inl (M 163 (26 + 80 * b + j))] [] (0, 0) (z, P, (u_m_arrives a c (M 163 (26 + 80 * b + j)) ((u_m_goes a (M 163 (970 + 12 * p + M 163 (26 + 80 * b + j))) ((x_up M 163 (23 + 80 * p) (x_w (1 + M 163 (23 + 80 * p))))))))) _
          refine e_goto (k := 117) (xi154 117) ?_
          rw [(show l_n_end_a a b c (k + 1) M p j th mo_ = l_n_end_a a b c k ((u_m_arrives a c (M 163 (26 + 80 * b + j)) ((u_m_goes a (M 163 (970 + 12 * p + M 163 (26 + 80 * b + j))) ((x_up M 163 (23 + 80 * p) (x_w (1 + M 163 (23 + 80 * p))))))))) (M 163 (26 + 80 * b + j)) (1 + j) (v_m_arrives a c (M 163 (26 + 80 * b + j)) ((u_m_goes a (M 163 (970 + 12 * p + M 163 (26 + 80 * b + j))) ((x_up M 163 (23 + 80 * p) (x_w (1 + M 163 (23 + 80 * p)))))))) 0 from by rw [l_n_end_a, if_neg c0, if_neg c1, if_pos c4])] at kk
          exact ih _ ((u_m_arrives a c (M 163 (26 + 80 * b + j)) ((u_m_goes a (M 163 (970 + 12 * p + M 163 (26 + 80 * b + j))) ((x_up M 163 (23 + 80 * p) (x_w (1 + M 163 (23 + 80 * p))))))))) (M 163 (26 + 80 * b + j)) (1 + j) (v_m_arrives a c (M 163 (26 + 80 * b + j)) ((u_m_goes a (M 163 (970 + 12 * p + M 163 (26 + 80 * b + j))) ((x_up M 163 (23 + 80 * p) (x_w (1 + M 163 (23 + 80 * p)))))))) 0 tl13 (by omega) (by omega) kk
        · skip
          refine e_iconst (k := 113) (xi154 113) ?_
          refine e_goto (k := 114) (xi154 114) ?_
          refine e_istore (k := 116) (xi154 116) (Nat.le_of_ble_eq_true rfl) ?_
          show x_Ev 154 117 [.inr 162, .inl (a), .inl (b), .inl (c), .inl (M 163 (26 + 80 * b + j)), .inl (25 + 80 * b), .inl (1 + j), .inl (v_m_arrives a c (M 163 (26 + 80 * b + j)) ((u_m_goes a (M 163 (970 + 12 * p + M 163 (26 + 80 * b + j))) ((x_up M 163 (23 + 80 * p) (x_w (1 + M 163 (23 + 80 * p)))))))), .inl 1, .inl (M 163 (26 + 80 * b + j))] [] (0, 0) (z, P, (u_m_arrives a c (M 163 (26 + 80 * b + j)) ((u_m_goes a (M 163 (970 + 12 * p + M 163 (26 + 80 * b + j))) ((x_up M 163 (23 + 80 * p) (x_w (1 + M 163 (23 + 80 * p))))))))) _
          refine e_goto (k := 117) (xi154 117) ?_
          rw [(show l_n_end_a a b c (k + 1) M p j th mo_ = l_n_end_a a b c k ((u_m_arrives a c (M 163 (26 + 80 * b + j)) ((u_m_goes a (M 163 (970 + 12 * p + M 163 (26 + 80 * b + j))) ((x_up M 163 (23 + 80 * p) (x_w (1 + M 163 (23 + 80 * p))))))))) (M 163 (26 + 80 * b + j)) (1 + j) (v_m_arrives a c (M 163 (26 + 80 * b + j)) ((u_m_goes a (M 163 (970 + 12 * p + M 163 (26 + 80 * b + j))) ((x_up M 163 (23 + 80 * p) (x_w (1 + M 163 (23 + 80 * p)))))))) 1 from by rw [l_n_end_a, if_neg c0, if_neg c1, if_neg c4])] at kk
          exact ih _ ((u_m_arrives a c (M 163 (26 + 80 * b + j)) ((u_m_goes a (M 163 (970 + 12 * p + M 163 (26 + 80 * b + j))) ((x_up M 163 (23 + 80 * p) (x_w (1 + M 163 (23 + 80 * p))))))))) (M 163 (26 + 80 * b + j)) (1 + j) (v_m_arrives a c (M 163 (26 + 80 * b + j)) ((u_m_goes a (M 163 (970 + 12 * p + M 163 (26 + 80 * b + j))) ((x_up M 163 (23 + 80 * p) (x_w (1 + M 163 (23 + 80 * p)))))))) 1 tl13 (by omega) (by omega) kk
def v_n_end (a b : Int) (M : Int → Int → Int) : Int := if 0 ≤ a ∧ a < M 163 1 then (if ¬ M 163 (1116 + 8 * a) = 2 then (-1) else if M 163 (1114 + 8 * a) = 3 then (-1) else if 0 ≤ b ∧ b < M 163 0 then (if ¬ v_m_arrives a (M 163 (1121 + 8 * a)) b ((u_m_goes a (M 163 (970 + 12 * M 163 (1117 + 8 * a) + b)) M)) = 0 then (if ¬ (l_n_end_a a b (M 163 (1121 + 8 * a)) 20 ((u_m_arrives a (M 163 (1121 + 8 * a)) b ((u_m_goes a (M 163 (970 + 12 * M 163 (1117 + 8 * a) + b)) M)))) b 0 (v_m_arrives a (M 163 (1121 + 8 * a)) b ((u_m_goes a (M 163 (970 + 12 * M 163 (1117 + 8 * a) + b)) M))) 0).2.2.2.1 = 0 then (if M 163 (1121 + 8 * a) < 0 then (if (l_n_end_a a b (M 163 (1121 + 8 * a)) 20 ((u_m_arrives a (M 163 (1121 + 8 * a)) b ((u_m_goes a (M 163 (970 + 12 * M 163 (1117 + 8 * a) + b)) M)))) b 0 (v_m_arrives a (M 163 (1121 + 8 * a)) b ((u_m_goes a (M 163 (970 + 12 * M 163 (1117 + 8 * a) + b)) M))) 0).2.2.2.1 = 0 then 100 + (l_n_end_a a b (M 163 (1121 + 8 * a)) 20 ((u_m_arrives a (M 163 (1121 + 8 * a)) b ((u_m_goes a (M 163 (970 + 12 * M 163 (1117 + 8 * a) + b)) M)))) b 0 (v_m_arrives a (M 163 (1121 + 8 * a)) b ((u_m_goes a (M 163 (970 + 12 * M 163 (1117 + 8 * a) + b)) M))) 0).2.1 else (l_n_end_a a b (M 163 (1121 + 8 * a)) 20 ((u_m_arrives a (M 163 (1121 + 8 * a)) b ((u_m_goes a (M 163 (970 + 12 * M 163 (1117 + 8 * a) + b)) M)))) b 0 (v_m_arrives a (M 163 (1121 + 8 * a)) b ((u_m_goes a (M 163 (970 + 12 * M 163 (1117 + 8 * a) + b)) M))) 0).2.1) else if (l_n_end_a a b (M 163 (1121 + 8 * a)) 20 ((u_m_arrives a (M 163 (1121 + 8 * a)) b ((u_m_goes a (M 163 (970 + 12 * M 163 (1117 + 8 * a) + b)) M)))) b 0 (v_m_arrives a (M 163 (1121 + 8 * a)) b ((u_m_goes a (M 163 (970 + 12 * M 163 (1117 + 8 * a) + b)) M))) 0).2.2.2.1 = 0 then 100 + (l_n_end_a a b (M 163 (1121 + 8 * a)) 20 ((u_m_arrives a (M 163 (1121 + 8 * a)) b ((u_m_goes a (M 163 (970 + 12 * M 163 (1117 + 8 * a) + b)) M)))) b 0 (v_m_arrives a (M 163 (1121 + 8 * a)) b ((u_m_goes a (M 163 (970 + 12 * M 163 (1117 + 8 * a) + b)) M))) 0).2.1 else (l_n_end_a a b (M 163 (1121 + 8 * a)) 20 ((u_m_arrives a (M 163 (1121 + 8 * a)) b ((u_m_goes a (M 163 (970 + 12 * M 163 (1117 + 8 * a) + b)) M)))) b 0 (v_m_arrives a (M 163 (1121 + 8 * a)) b ((u_m_goes a (M 163 (970 + 12 * M 163 (1117 + 8 * a) + b)) M))) 0).2.1) else if M 163 (1121 + 8 * a) < 0 then (if M 163 (1121 + 8 * a) < 0 then (if (l_n_end_a a b (M 163 (1121 + 8 * a)) 20 ((u_m_arrives a (M 163 (1121 + 8 * a)) b ((u_m_goes a (M 163 (970 + 12 * M 163 (1117 + 8 * a) + b)) M)))) b 0 (v_m_arrives a (M 163 (1121 + 8 * a)) b ((u_m_goes a (M 163 (970 + 12 * M 163 (1117 + 8 * a) + b)) M))) 0).2.2.2.1 = 0 then 100 + (l_n_end_a a b (M 163 (1121 + 8 * a)) 20 ((u_m_arrives a (M 163 (1121 + 8 * a)) b ((u_m_goes a (M 163 (970 + 12 * M 163 (1117 + 8 * a) + b)) M)))) b 0 (v_m_arrives a (M 163 (1121 + 8 * a)) b ((u_m_goes a (M 163 (970 + 12 * M 163 (1117 + 8 * a) + b)) M))) 0).2.1 else (l_n_end_a a b (M 163 (1121 + 8 * a)) 20 ((u_m_arrives a (M 163 (1121 + 8 * a)) b ((u_m_goes a (M 163 (970 + 12 * M 163 (1117 + 8 * a) + b)) M)))) b 0 (v_m_arrives a (M 163 (1121 + 8 * a)) b ((u_m_goes a (M 163 (970 + 12 * M 163 (1117 + 8 * a) + b)) M))) 0).2.1) else if (l_n_end_a a b (M 163 (1121 + 8 * a)) 20 ((u_m_arrives a (M 163 (1121 + 8 * a)) b ((u_m_goes a (M 163 (970 + 12 * M 163 (1117 + 8 * a) + b)) M)))) b 0 (v_m_arrives a (M 163 (1121 + 8 * a)) b ((u_m_goes a (M 163 (970 + 12 * M 163 (1117 + 8 * a) + b)) M))) 0).2.2.2.1 = 0 then 100 + (l_n_end_a a b (M 163 (1121 + 8 * a)) 20 ((u_m_arrives a (M 163 (1121 + 8 * a)) b ((u_m_goes a (M 163 (970 + 12 * M 163 (1117 + 8 * a) + b)) M)))) b 0 (v_m_arrives a (M 163 (1121 + 8 * a)) b ((u_m_goes a (M 163 (970 + 12 * M 163 (1117 + 8 * a) + b)) M))) 0).2.1 else (l_n_end_a a b (M 163 (1121 + 8 * a)) 20 ((u_m_arrives a (M 163 (1121 + 8 * a)) b ((u_m_goes a (M 163 (970 + 12 * M 163 (1117 + 8 * a) + b)) M)))) b 0 (v_m_arrives a (M 163 (1121 + 8 * a)) b ((u_m_goes a (M 163 (970 + 12 * M 163 (1117 + 8 * a) + b)) M))) 0).2.1) else if M 163 (1121 + 8 * a) < 0 then (if (l_n_end_a a b (M 163 (1121 + 8 * a)) 20 ((u_m_arrives a (M 163 (1121 + 8 * a)) b ((u_m_goes a (M 163 (970 + 12 * M 163 (1117 + 8 * a) + b)) M)))) b 0 (v_m_arrives a (M 163 (1121 + 8 * a)) b ((u_m_goes a (M 163 (970 + 12 * M 163 (1117 + 8 * a) + b)) M))) 0).2.2.2.1 = 0 then 100 + (l_n_end_a a b (M 163 (1121 + 8 * a)) 20 ((u_m_arrives a (M 163 (1121 + 8 * a)) b ((u_m_goes a (M 163 (970 + 12 * M 163 (1117 + 8 * a) + b)) M)))) b 0 (v_m_arrives a (M 163 (1121 + 8 * a)) b ((u_m_goes a (M 163 (970 + 12 * M 163 (1117 + 8 * a) + b)) M))) 0).2.1 else (l_n_end_a a b (M 163 (1121 + 8 * a)) 20 ((u_m_arrives a (M 163 (1121 + 8 * a)) b ((u_m_goes a (M 163 (970 + 12 * M 163 (1117 + 8 * a) + b)) M)))) b 0 (v_m_arrives a (M 163 (1121 + 8 * a)) b ((u_m_goes a (M 163 (970 + 12 * M 163 (1117 + 8 * a) + b)) M))) 0).2.1) else if (l_n_end_a a b (M 163 (1121 + 8 * a)) 20 ((u_m_arrives a (M 163 (1121 + 8 * a)) b ((u_m_goes a (M 163 (970 + 12 * M 163 (1117 + 8 * a) + b)) M)))) b 0 (v_m_arrives a (M 163 (1121 + 8 * a)) b ((u_m_goes a (M 163 (970 + 12 * M 163 (1117 + 8 * a) + b)) M))) 0).2.2.2.1 = 0 then 100 + (l_n_end_a a b (M 163 (1121 + 8 * a)) 20 ((u_m_arrives a (M 163 (1121 + 8 * a)) b ((u_m_goes a (M 163 (970 + 12 * M 163 (1117 + 8 * a) + b)) M)))) b 0 (v_m_arrives a (M 163 (1121 + 8 * a)) b ((u_m_goes a (M 163 (970 + 12 * M 163 (1117 + 8 * a) + b)) M))) 0).2.1 else (l_n_end_a a b (M 163 (1121 + 8 * a)) 20 ((u_m_arrives a (M 163 (1121 + 8 * a)) b ((u_m_goes a (M 163 (970 + 12 * M 163 (1117 + 8 * a) + b)) M)))) b 0 (v_m_arrives a (M 163 (1121 + 8 * a)) b ((u_m_goes a (M 163 (970 + 12 * M 163 (1117 + 8 * a) + b)) M))) 0).2.1) else if ¬ (l_n_end_a a b (M 163 (1121 + 8 * a)) 20 ((u_m_arrives a (M 163 (1121 + 8 * a)) b ((u_m_goes a (M 163 (970 + 12 * M 163 (1117 + 8 * a) + b)) M)))) b 0 (v_m_arrives a (M 163 (1121 + 8 * a)) b ((u_m_goes a (M 163 (970 + 12 * M 163 (1117 + 8 * a) + b)) M))) 1).2.2.2.1 = 0 then (if M 163 (1121 + 8 * a) < 0 then (if (l_n_end_a a b (M 163 (1121 + 8 * a)) 20 ((u_m_arrives a (M 163 (1121 + 8 * a)) b ((u_m_goes a (M 163 (970 + 12 * M 163 (1117 + 8 * a) + b)) M)))) b 0 (v_m_arrives a (M 163 (1121 + 8 * a)) b ((u_m_goes a (M 163 (970 + 12 * M 163 (1117 + 8 * a) + b)) M))) 1).2.2.2.1 = 0 then 100 + (l_n_end_a a b (M 163 (1121 + 8 * a)) 20 ((u_m_arrives a (M 163 (1121 + 8 * a)) b ((u_m_goes a (M 163 (970 + 12 * M 163 (1117 + 8 * a) + b)) M)))) b 0 (v_m_arrives a (M 163 (1121 + 8 * a)) b ((u_m_goes a (M 163 (970 + 12 * M 163 (1117 + 8 * a) + b)) M))) 1).2.1 else (l_n_end_a a b (M 163 (1121 + 8 * a)) 20 ((u_m_arrives a (M 163 (1121 + 8 * a)) b ((u_m_goes a (M 163 (970 + 12 * M 163 (1117 + 8 * a) + b)) M)))) b 0 (v_m_arrives a (M 163 (1121 + 8 * a)) b ((u_m_goes a (M 163 (970 + 12 * M 163 (1117 + 8 * a) + b)) M))) 1).2.1) else if (l_n_end_a a b (M 163 (1121 + 8 * a)) 20 ((u_m_arrives a (M 163 (1121 + 8 * a)) b ((u_m_goes a (M 163 (970 + 12 * M 163 (1117 + 8 * a) + b)) M)))) b 0 (v_m_arrives a (M 163 (1121 + 8 * a)) b ((u_m_goes a (M 163 (970 + 12 * M 163 (1117 + 8 * a) + b)) M))) 1).2.2.2.1 = 0 then 100 + (l_n_end_a a b (M 163 (1121 + 8 * a)) 20 ((u_m_arrives a (M 163 (1121 + 8 * a)) b ((u_m_goes a (M 163 (970 + 12 * M 163 (1117 + 8 * a) + b)) M)))) b 0 (v_m_arrives a (M 163 (1121 + 8 * a)) b ((u_m_goes a (M 163 (970 + 12 * M 163 (1117 + 8 * a) + b)) M))) 1).2.1 else (l_n_end_a a b (M 163 (1121 + 8 * a)) 20 ((u_m_arrives a (M 163 (1121 + 8 * a)) b ((u_m_goes a (M 163 (970 + 12 * M 163 (1117 + 8 * a) + b)) M)))) b 0 (v_m_arrives a (M 163 (1121 + 8 * a)) b ((u_m_goes a (M 163 (970 + 12 * M 163 (1117 + 8 * a) + b)) M))) 1).2.1) else if M 163 (1121 + 8 * a) < 0 then (if M 163 (1121 + 8 * a) < 0 then (if (l_n_end_a a b (M 163 (1121 + 8 * a)) 20 ((u_m_arrives a (M 163 (1121 + 8 * a)) b ((u_m_goes a (M 163 (970 + 12 * M 163 (1117 + 8 * a) + b)) M)))) b 0 (v_m_arrives a (M 163 (1121 + 8 * a)) b ((u_m_goes a (M 163 (970 + 12 * M 163 (1117 + 8 * a) + b)) M))) 1).2.2.2.1 = 0 then 100 + (l_n_end_a a b (M 163 (1121 + 8 * a)) 20 ((u_m_arrives a (M 163 (1121 + 8 * a)) b ((u_m_goes a (M 163 (970 + 12 * M 163 (1117 + 8 * a) + b)) M)))) b 0 (v_m_arrives a (M 163 (1121 + 8 * a)) b ((u_m_goes a (M 163 (970 + 12 * M 163 (1117 + 8 * a) + b)) M))) 1).2.1 else (l_n_end_a a b (M 163 (1121 + 8 * a)) 20 ((u_m_arrives a (M 163 (1121 + 8 * a)) b ((u_m_goes a (M 163 (970 + 12 * M 163 (1117 + 8 * a) + b)) M)))) b 0 (v_m_arrives a (M 163 (1121 + 8 * a)) b ((u_m_goes a (M 163 (970 + 12 * M 163 (1117 + 8 * a) + b)) M))) 1).2.1) else if (l_n_end_a a b (M 163 (1121 + 8 * a)) 20 ((u_m_arrives a (M 163 (1121 + 8 * a)) b ((u_m_goes a (M 163 (970 + 12 * M 163 (1117 + 8 * a) + b)) M)))) b 0 (v_m_arrives a (M 163 (1121 + 8 * a)) b ((u_m_goes a (M 163 (970 + 12 * M 163 (1117 + 8 * a) + b)) M))) 1).2.2.2.1 = 0 then 100 + (l_n_end_a a b (M 163 (1121 + 8 * a)) 20 ((u_m_arrives a (M 163 (1121 + 8 * a)) b ((u_m_goes a (M 163 (970 + 12 * M 163 (1117 + 8 * a) + b)) M)))) b 0 (v_m_arrives a (M 163 (1121 + 8 * a)) b ((u_m_goes a (M 163 (970 + 12 * M 163 (1117 + 8 * a) + b)) M))) 1).2.1 else (l_n_end_a a b (M 163 (1121 + 8 * a)) 20 ((u_m_arrives a (M 163 (1121 + 8 * a)) b ((u_m_goes a (M 163 (970 + 12 * M 163 (1117 + 8 * a) + b)) M)))) b 0 (v_m_arrives a (M 163 (1121 + 8 * a)) b ((u_m_goes a (M 163 (970 + 12 * M 163 (1117 + 8 * a) + b)) M))) 1).2.1) else if M 163 (1121 + 8 * a) < 0 then (if (l_n_end_a a b (M 163 (1121 + 8 * a)) 20 ((u_m_arrives a (M 163 (1121 + 8 * a)) b ((u_m_goes a (M 163 (970 + 12 * M 163 (1117 + 8 * a) + b)) M)))) b 0 (v_m_arrives a (M 163 (1121 + 8 * a)) b ((u_m_goes a (M 163 (970 + 12 * M 163 (1117 + 8 * a) + b)) M))) 1).2.2.2.1 = 0 then 100 + (l_n_end_a a b (M 163 (1121 + 8 * a)) 20 ((u_m_arrives a (M 163 (1121 + 8 * a)) b ((u_m_goes a (M 163 (970 + 12 * M 163 (1117 + 8 * a) + b)) M)))) b 0 (v_m_arrives a (M 163 (1121 + 8 * a)) b ((u_m_goes a (M 163 (970 + 12 * M 163 (1117 + 8 * a) + b)) M))) 1).2.1 else (l_n_end_a a b (M 163 (1121 + 8 * a)) 20 ((u_m_arrives a (M 163 (1121 + 8 * a)) b ((u_m_goes a (M 163 (970 + 12 * M 163 (1117 + 8 * a) + b)) M)))) b 0 (v_m_arrives a (M 163 (1121 + 8 * a)) b ((u_m_goes a (M 163 (970 + 12 * M 163 (1117 + 8 * a) + b)) M))) 1).2.1) else if (l_n_end_a a b (M 163 (1121 + 8 * a)) 20 ((u_m_arrives a (M 163 (1121 + 8 * a)) b ((u_m_goes a (M 163 (970 + 12 * M 163 (1117 + 8 * a) + b)) M)))) b 0 (v_m_arrives a (M 163 (1121 + 8 * a)) b ((u_m_goes a (M 163 (970 + 12 * M 163 (1117 + 8 * a) + b)) M))) 1).2.2.2.1 = 0 then 100 + (l_n_end_a a b (M 163 (1121 + 8 * a)) 20 ((u_m_arrives a (M 163 (1121 + 8 * a)) b ((u_m_goes a (M 163 (970 + 12 * M 163 (1117 + 8 * a) + b)) M)))) b 0 (v_m_arrives a (M 163 (1121 + 8 * a)) b ((u_m_goes a (M 163 (970 + 12 * M 163 (1117 + 8 * a) + b)) M))) 1).2.1 else (l_n_end_a a b (M 163 (1121 + 8 * a)) 20 ((u_m_arrives a (M 163 (1121 + 8 * a)) b ((u_m_goes a (M 163 (970 + 12 * M 163 (1117 + 8 * a) + b)) M)))) b 0 (v_m_arrives a (M 163 (1121 + 8 * a)) b ((u_m_goes a (M 163 (970 + 12 * M 163 (1117 + 8 * a) + b)) M))) 1).2.1) else (-1)) else (-1)
def u_n_end (a b : Int) (M : Int → Int → Int) : Int → Int → Int := if 0 ≤ a ∧ a < M 163 1 then (if ¬ M 163 (1116 + 8 * a) = 2 then M else if M 163 (1114 + 8 * a) = 3 then M else if 0 ≤ b ∧ b < M 163 0 then (if ¬ v_m_arrives a (M 163 (1121 + 8 * a)) b ((u_m_goes a (M 163 (970 + 12 * M 163 (1117 + 8 * a) + b)) M)) = 0 then (if ¬ (l_n_end_a a b (M 163 (1121 + 8 * a)) 20 ((u_m_arrives a (M 163 (1121 + 8 * a)) b ((u_m_goes a (M 163 (970 + 12 * M 163 (1117 + 8 * a) + b)) M)))) b 0 (v_m_arrives a (M 163 (1121 + 8 * a)) b ((u_m_goes a (M 163 (970 + 12 * M 163 (1117 + 8 * a) + b)) M))) 0).2.2.2.1 = 0 then (if M 163 (1121 + 8 * a) < 0 then (if (l_n_end_a a b (M 163 (1121 + 8 * a)) 20 ((u_m_arrives a (M 163 (1121 + 8 * a)) b ((u_m_goes a (M 163 (970 + 12 * M 163 (1117 + 8 * a) + b)) M)))) b 0 (v_m_arrives a (M 163 (1121 + 8 * a)) b ((u_m_goes a (M 163 (970 + 12 * M 163 (1117 + 8 * a) + b)) M))) 0).2.2.2.1 = 0 then (x_up ((l_n_end_a a b (M 163 (1121 + 8 * a)) 20 ((u_m_arrives a (M 163 (1121 + 8 * a)) b ((u_m_goes a (M 163 (970 + 12 * M 163 (1117 + 8 * a) + b)) M)))) b 0 (v_m_arrives a (M 163 (1121 + 8 * a)) b ((u_m_goes a (M 163 (970 + 12 * M 163 (1117 + 8 * a) + b)) M))) 0).1) 163 (1121 + 8 * a) ((-1))) else (x_up ((l_n_end_a a b (M 163 (1121 + 8 * a)) 20 ((u_m_arrives a (M 163 (1121 + 8 * a)) b ((u_m_goes a (M 163 (970 + 12 * M 163 (1117 + 8 * a) + b)) M)))) b 0 (v_m_arrives a (M 163 (1121 + 8 * a)) b ((u_m_goes a (M 163 (970 + 12 * M 163 (1117 + 8 * a) + b)) M))) 0).1) 163 (1121 + 8 * a) ((-1)))) else if (l_n_end_a a b (M 163 (1121 + 8 * a)) 20 ((u_m_arrives a (M 163 (1121 + 8 * a)) b ((u_m_goes a (M 163 (970 + 12 * M 163 (1117 + 8 * a) + b)) M)))) b 0 (v_m_arrives a (M 163 (1121 + 8 * a)) b ((u_m_goes a (M 163 (970 + 12 * M 163 (1117 + 8 * a) + b)) M))) 0).2.2.2.1 = 0 then (x_up ((x_up ((l_n_end_a a b (M 163 (1121 + 8 * a)) 20 ((u_m_arrives a (M 163 (1121 + 8 * a)) b ((u_m_goes a (M 163 (970 + 12 * M 163 (1117 + 8 * a) + b)) M)))) b 0 (v_m_arrives a (M 163 (1121 + 8 * a)) b ((u_m_goes a (M 163 (970 + 12 * M 163 (1117 + 8 * a) + b)) M))) 0).1) 163 (1121 + 8 * a) ((-1)))) 163 (1121 + 8 * M 163 (1121 + 8 * a)) ((-1))) else (x_up ((x_up ((l_n_end_a a b (M 163 (1121 + 8 * a)) 20 ((u_m_arrives a (M 163 (1121 + 8 * a)) b ((u_m_goes a (M 163 (970 + 12 * M 163 (1117 + 8 * a) + b)) M)))) b 0 (v_m_arrives a (M 163 (1121 + 8 * a)) b ((u_m_goes a (M 163 (970 + 12 * M 163 (1117 + 8 * a) + b)) M))) 0).1) 163 (1121 + 8 * a) ((-1)))) 163 (1121 + 8 * M 163 (1121 + 8 * a)) ((-1)))) else if M 163 (1121 + 8 * a) < 0 then (if M 163 (1121 + 8 * a) < 0 then (if (l_n_end_a a b (M 163 (1121 + 8 * a)) 20 ((u_m_arrives a (M 163 (1121 + 8 * a)) b ((u_m_goes a (M 163 (970 + 12 * M 163 (1117 + 8 * a) + b)) M)))) b 0 (v_m_arrives a (M 163 (1121 + 8 * a)) b ((u_m_goes a (M 163 (970 + 12 * M 163 (1117 + 8 * a) + b)) M))) 0).2.2.2.1 = 0 then (x_up ((u_m_streets a ((l_n_end_a a b (M 163 (1121 + 8 * a)) 20 ((u_m_arrives a (M 163 (1121 + 8 * a)) b ((u_m_goes a (M 163 (970 + 12 * M 163 (1117 + 8 * a) + b)) M)))) b 0 (v_m_arrives a (M 163 (1121 + 8 * a)) b ((u_m_goes a (M 163 (970 + 12 * M 163 (1117 + 8 * a) + b)) M))) 0).2.1) ((l_n_end_a a b (M 163 (1121 + 8 * a)) 20 ((u_m_arrives a (M 163 (1121 + 8 * a)) b ((u_m_goes a (M 163 (970 + 12 * M 163 (1117 + 8 * a) + b)) M)))) b 0 (v_m_arrives a (M 163 (1121 + 8 * a)) b ((u_m_goes a (M 163 (970 + 12 * M 163 (1117 + 8 * a) + b)) M))) 0).1))) 163 (1121 + 8 * a) ((-1))) else (x_up ((u_m_streets a ((l_n_end_a a b (M 163 (1121 + 8 * a)) 20 ((u_m_arrives a (M 163 (1121 + 8 * a)) b ((u_m_goes a (M 163 (970 + 12 * M 163 (1117 + 8 * a) + b)) M)))) b 0 (v_m_arrives a (M 163 (1121 + 8 * a)) b ((u_m_goes a (M 163 (970 + 12 * M 163 (1117 + 8 * a) + b)) M))) 0).2.1) ((l_n_end_a a b (M 163 (1121 + 8 * a)) 20 ((u_m_arrives a (M 163 (1121 + 8 * a)) b ((u_m_goes a (M 163 (970 + 12 * M 163 (1117 + 8 * a) + b)) M)))) b 0 (v_m_arrives a (M 163 (1121 + 8 * a)) b ((u_m_goes a (M 163 (970 + 12 * M 163 (1117 + 8 * a) + b)) M))) 0).1))) 163 (1121 + 8 * a) ((-1)))) else if (l_n_end_a a b (M 163 (1121 + 8 * a)) 20 ((u_m_arrives a (M 163 (1121 + 8 * a)) b ((u_m_goes a (M 163 (970 + 12 * M 163 (1117 + 8 * a) + b)) M)))) b 0 (v_m_arrives a (M 163 (1121 + 8 * a)) b ((u_m_goes a (M 163 (970 + 12 * M 163 (1117 + 8 * a) + b)) M))) 0).2.2.2.1 = 0 then (x_up ((x_up ((u_m_streets a ((l_n_end_a a b (M 163 (1121 + 8 * a)) 20 ((u_m_arrives a (M 163 (1121 + 8 * a)) b ((u_m_goes a (M 163 (970 + 12 * M 163 (1117 + 8 * a) + b)) M)))) b 0 (v_m_arrives a (M 163 (1121 + 8 * a)) b ((u_m_goes a (M 163 (970 + 12 * M 163 (1117 + 8 * a) + b)) M))) 0).2.1) ((l_n_end_a a b (M 163 (1121 + 8 * a)) 20 ((u_m_arrives a (M 163 (1121 + 8 * a)) b ((u_m_goes a (M 163 (970 + 12 * M 163 (1117 + 8 * a) + b)) M)))) b 0 (v_m_arrives a (M 163 (1121 + 8 * a)) b ((u_m_goes a (M 163 (970 + 12 * M 163 (1117 + 8 * a) + b)) M))) 0).1))) 163 (1121 + 8 * a) ((-1)))) 163 (1121 + 8 * M 163 (1121 + 8 * a)) ((-1))) else (x_up ((x_up ((u_m_streets a ((l_n_end_a a b (M 163 (1121 + 8 * a)) 20 ((u_m_arrives a (M 163 (1121 + 8 * a)) b ((u_m_goes a (M 163 (970 + 12 * M 163 (1117 + 8 * a) + b)) M)))) b 0 (v_m_arrives a (M 163 (1121 + 8 * a)) b ((u_m_goes a (M 163 (970 + 12 * M 163 (1117 + 8 * a) + b)) M))) 0).2.1) ((l_n_end_a a b (M 163 (1121 + 8 * a)) 20 ((u_m_arrives a (M 163 (1121 + 8 * a)) b ((u_m_goes a (M 163 (970 + 12 * M 163 (1117 + 8 * a) + b)) M)))) b 0 (v_m_arrives a (M 163 (1121 + 8 * a)) b ((u_m_goes a (M 163 (970 + 12 * M 163 (1117 + 8 * a) + b)) M))) 0).1))) 163 (1121 + 8 * a) ((-1)))) 163 (1121 + 8 * M 163 (1121 + 8 * a)) ((-1)))) else if M 163 (1121 + 8 * a) < 0 then (if (l_n_end_a a b (M 163 (1121 + 8 * a)) 20 ((u_m_arrives a (M 163 (1121 + 8 * a)) b ((u_m_goes a (M 163 (970 + 12 * M 163 (1117 + 8 * a) + b)) M)))) b 0 (v_m_arrives a (M 163 (1121 + 8 * a)) b ((u_m_goes a (M 163 (970 + 12 * M 163 (1117 + 8 * a) + b)) M))) 0).2.2.2.1 = 0 then (x_up ((u_m_streets (M 163 (1121 + 8 * a)) ((l_n_end_a a b (M 163 (1121 + 8 * a)) 20 ((u_m_arrives a (M 163 (1121 + 8 * a)) b ((u_m_goes a (M 163 (970 + 12 * M 163 (1117 + 8 * a) + b)) M)))) b 0 (v_m_arrives a (M 163 (1121 + 8 * a)) b ((u_m_goes a (M 163 (970 + 12 * M 163 (1117 + 8 * a) + b)) M))) 0).2.1) ((u_m_streets a ((l_n_end_a a b (M 163 (1121 + 8 * a)) 20 ((u_m_arrives a (M 163 (1121 + 8 * a)) b ((u_m_goes a (M 163 (970 + 12 * M 163 (1117 + 8 * a) + b)) M)))) b 0 (v_m_arrives a (M 163 (1121 + 8 * a)) b ((u_m_goes a (M 163 (970 + 12 * M 163 (1117 + 8 * a) + b)) M))) 0).2.1) ((l_n_end_a a b (M 163 (1121 + 8 * a)) 20 ((u_m_arrives a (M 163 (1121 + 8 * a)) b ((u_m_goes a (M 163 (970 + 12 * M 163 (1117 + 8 * a) + b)) M)))) b 0 (v_m_arrives a (M 163 (1121 + 8 * a)) b ((u_m_goes a (M 163 (970 + 12 * M 163 (1117 + 8 * a) + b)) M))) 0).1))))) 163 (1121 + 8 * a) ((-1))) else (x_up ((u_m_streets (M 163 (1121 + 8 * a)) ((l_n_end_a a b (M 163 (1121 + 8 * a)) 20 ((u_m_arrives a (M 163 (1121 + 8 * a)) b ((u_m_goes a (M 163 (970 + 12 * M 163 (1117 + 8 * a) + b)) M)))) b 0 (v_m_arrives a (M 163 (1121 + 8 * a)) b ((u_m_goes a (M 163 (970 + 12 * M 163 (1117 + 8 * a) + b)) M))) 0).2.1) ((u_m_streets a ((l_n_end_a a b (M 163 (1121 + 8 * a)) 20 ((u_m_arrives a (M 163 (1121 + 8 * a)) b ((u_m_goes a (M 163 (970 + 12 * M 163 (1117 + 8 * a) + b)) M)))) b 0 (v_m_arrives a (M 163 (1121 + 8 * a)) b ((u_m_goes a (M 163 (970 + 12 * M 163 (1117 + 8 * a) + b)) M))) 0).2.1) ((l_n_end_a a b (M 163 (1121 + 8 * a)) 20 ((u_m_arrives a (M 163 (1121 + 8 * a)) b ((u_m_goes a (M 163 (970 + 12 * M 163 (1117 + 8 * a) + b)) M)))) b 0 (v_m_arrives a (M 163 (1121 + 8 * a)) b ((u_m_goes a (M 163 (970 + 12 * M 163 (1117 + 8 * a) + b)) M))) 0).1))))) 163 (1121 + 8 * a) ((-1)))) else if (l_n_end_a a b (M 163 (1121 + 8 * a)) 20 ((u_m_arrives a (M 163 (1121 + 8 * a)) b ((u_m_goes a (M 163 (970 + 12 * M 163 (1117 + 8 * a) + b)) M)))) b 0 (v_m_arrives a (M 163 (1121 + 8 * a)) b ((u_m_goes a (M 163 (970 + 12 * M 163 (1117 + 8 * a) + b)) M))) 0).2.2.2.1 = 0 then (x_up ((x_up ((u_m_streets (M 163 (1121 + 8 * a)) ((l_n_end_a a b (M 163 (1121 + 8 * a)) 20 ((u_m_arrives a (M 163 (1121 + 8 * a)) b ((u_m_goes a (M 163 (970 + 12 * M 163 (1117 + 8 * a) + b)) M)))) b 0 (v_m_arrives a (M 163 (1121 + 8 * a)) b ((u_m_goes a (M 163 (970 + 12 * M 163 (1117 + 8 * a) + b)) M))) 0).2.1) ((u_m_streets a ((l_n_end_a a b (M 163 (1121 + 8 * a)) 20 ((u_m_arrives a (M 163 (1121 + 8 * a)) b ((u_m_goes a (M 163 (970 + 12 * M 163 (1117 + 8 * a) + b)) M)))) b 0 (v_m_arrives a (M 163 (1121 + 8 * a)) b ((u_m_goes a (M 163 (970 + 12 * M 163 (1117 + 8 * a) + b)) M))) 0).2.1) ((l_n_end_a a b (M 163 (1121 + 8 * a)) 20 ((u_m_arrives a (M 163 (1121 + 8 * a)) b ((u_m_goes a (M 163 (970 + 12 * M 163 (1117 + 8 * a) + b)) M)))) b 0 (v_m_arrives a (M 163 (1121 + 8 * a)) b ((u_m_goes a (M 163 (970 + 12 * M 163 (1117 + 8 * a) + b)) M))) 0).1))))) 163 (1121 + 8 * a) ((-1)))) 163 (1121 + 8 * M 163 (1121 + 8 * a)) ((-1))) else (x_up ((x_up ((u_m_streets (M 163 (1121 + 8 * a)) ((l_n_end_a a b (M 163 (1121 + 8 * a)) 20 ((u_m_arrives a (M 163 (1121 + 8 * a)) b ((u_m_goes a (M 163 (970 + 12 * M 163 (1117 + 8 * a) + b)) M)))) b 0 (v_m_arrives a (M 163 (1121 + 8 * a)) b ((u_m_goes a (M 163 (970 + 12 * M 163 (1117 + 8 * a) + b)) M))) 0).2.1) ((u_m_streets a ((l_n_end_a a b (M 163 (1121 + 8 * a)) 20 ((u_m_arrives a (M 163 (1121 + 8 * a)) b ((u_m_goes a (M 163 (970 + 12 * M 163 (1117 + 8 * a) + b)) M)))) b 0 (v_m_arrives a (M 163 (1121 + 8 * a)) b ((u_m_goes a (M 163 (970 + 12 * M 163 (1117 + 8 * a) + b)) M))) 0).2.1) ((l_n_end_a a b (M 163 (1121 + 8 * a)) 20 ((u_m_arrives a (M 163 (1121 + 8 * a)) b ((u_m_goes a (M 163 (970 + 12 * M 163 (1117 + 8 * a) + b)) M)))) b 0 (v_m_arrives a (M 163 (1121 + 8 * a)) b ((u_m_goes a (M 163 (970 + 12 * M 163 (1117 + 8 * a) + b)) M))) 0).1))))) 163 (1121 + 8 * a) ((-1)))) 163 (1121 + 8 * M 163 (1121 + 8 * a)) ((-1)))) else if ¬ (l_n_end_a a b (M 163 (1121 + 8 * a)) 20 ((u_m_arrives a (M 163 (1121 + 8 * a)) b ((u_m_goes a (M 163 (970 + 12 * M 163 (1117 + 8 * a) + b)) M)))) b 0 (v_m_arrives a (M 163 (1121 + 8 * a)) b ((u_m_goes a (M 163 (970 + 12 * M 163 (1117 + 8 * a) + b)) M))) 1).2.2.2.1 = 0 then (if M 163 (1121 + 8 * a) < 0 then (if (l_n_end_a a b (M 163 (1121 + 8 * a)) 20 ((u_m_arrives a (M 163 (1121 + 8 * a)) b ((u_m_goes a (M 163 (970 + 12 * M 163 (1117 + 8 * a) + b)) M)))) b 0 (v_m_arrives a (M 163 (1121 + 8 * a)) b ((u_m_goes a (M 163 (970 + 12 * M 163 (1117 + 8 * a) + b)) M))) 1).2.2.2.1 = 0 then (x_up ((l_n_end_a a b (M 163 (1121 + 8 * a)) 20 ((u_m_arrives a (M 163 (1121 + 8 * a)) b ((u_m_goes a (M 163 (970 + 12 * M 163 (1117 + 8 * a) + b)) M)))) b 0 (v_m_arrives a (M 163 (1121 + 8 * a)) b ((u_m_goes a (M 163 (970 + 12 * M 163 (1117 + 8 * a) + b)) M))) 1).1) 163 (1121 + 8 * a) ((-1))) else (x_up ((l_n_end_a a b (M 163 (1121 + 8 * a)) 20 ((u_m_arrives a (M 163 (1121 + 8 * a)) b ((u_m_goes a (M 163 (970 + 12 * M 163 (1117 + 8 * a) + b)) M)))) b 0 (v_m_arrives a (M 163 (1121 + 8 * a)) b ((u_m_goes a (M 163 (970 + 12 * M 163 (1117 + 8 * a) + b)) M))) 1).1) 163 (1121 + 8 * a) ((-1)))) else if (l_n_end_a a b (M 163 (1121 + 8 * a)) 20 ((u_m_arrives a (M 163 (1121 + 8 * a)) b ((u_m_goes a (M 163 (970 + 12 * M 163 (1117 + 8 * a) + b)) M)))) b 0 (v_m_arrives a (M 163 (1121 + 8 * a)) b ((u_m_goes a (M 163 (970 + 12 * M 163 (1117 + 8 * a) + b)) M))) 1).2.2.2.1 = 0 then (x_up ((x_up ((l_n_end_a a b (M 163 (1121 + 8 * a)) 20 ((u_m_arrives a (M 163 (1121 + 8 * a)) b ((u_m_goes a (M 163 (970 + 12 * M 163 (1117 + 8 * a) + b)) M)))) b 0 (v_m_arrives a (M 163 (1121 + 8 * a)) b ((u_m_goes a (M 163 (970 + 12 * M 163 (1117 + 8 * a) + b)) M))) 1).1) 163 (1121 + 8 * a) ((-1)))) 163 (1121 + 8 * M 163 (1121 + 8 * a)) ((-1))) else (x_up ((x_up ((l_n_end_a a b (M 163 (1121 + 8 * a)) 20 ((u_m_arrives a (M 163 (1121 + 8 * a)) b ((u_m_goes a (M 163 (970 + 12 * M 163 (1117 + 8 * a) + b)) M)))) b 0 (v_m_arrives a (M 163 (1121 + 8 * a)) b ((u_m_goes a (M 163 (970 + 12 * M 163 (1117 + 8 * a) + b)) M))) 1).1) 163 (1121 + 8 * a) ((-1)))) 163 (1121 + 8 * M 163 (1121 + 8 * a)) ((-1)))) else if M 163 (1121 + 8 * a) < 0 then (if M 163 (1121 + 8 * a) < 0 then (if (l_n_end_a a b (M 163 (1121 + 8 * a)) 20 ((u_m_arrives a (M 163 (1121 + 8 * a)) b ((u_m_goes a (M 163 (970 + 12 * M 163 (1117 + 8 * a) + b)) M)))) b 0 (v_m_arrives a (M 163 (1121 + 8 * a)) b ((u_m_goes a (M 163 (970 + 12 * M 163 (1117 + 8 * a) + b)) M))) 1).2.2.2.1 = 0 then (x_up ((u_m_streets a ((l_n_end_a a b (M 163 (1121 + 8 * a)) 20 ((u_m_arrives a (M 163 (1121 + 8 * a)) b ((u_m_goes a (M 163 (970 + 12 * M 163 (1117 + 8 * a) + b)) M)))) b 0 (v_m_arrives a (M 163 (1121 + 8 * a)) b ((u_m_goes a (M 163 (970 + 12 * M 163 (1117 + 8 * a) + b)) M))) 1).2.1) ((l_n_end_a a b (M 163 (1121 + 8 * a)) 20 ((u_m_arrives a (M 163 (1121 + 8 * a)) b ((u_m_goes a (M 163 (970 + 12 * M 163 (1117 + 8 * a) + b)) M)))) b 0 (v_m_arrives a (M 163 (1121 + 8 * a)) b ((u_m_goes a (M 163 (970 + 12 * M 163 (1117 + 8 * a) + b)) M))) 1).1))) 163 (1121 + 8 * a) ((-1))) else (x_up ((u_m_streets a ((l_n_end_a a b (M 163 (1121 + 8 * a)) 20 ((u_m_arrives a (M 163 (1121 + 8 * a)) b ((u_m_goes a (M 163 (970 + 12 * M 163 (1117 + 8 * a) + b)) M)))) b 0 (v_m_arrives a (M 163 (1121 + 8 * a)) b ((u_m_goes a (M 163 (970 + 12 * M 163 (1117 + 8 * a) + b)) M))) 1).2.1) ((l_n_end_a a b (M 163 (1121 + 8 * a)) 20 ((u_m_arrives a (M 163 (1121 + 8 * a)) b ((u_m_goes a (M 163 (970 + 12 * M 163 (1117 + 8 * a) + b)) M)))) b 0 (v_m_arrives a (M 163 (1121 + 8 * a)) b ((u_m_goes a (M 163 (970 + 12 * M 163 (1117 + 8 * a) + b)) M))) 1).1))) 163 (1121 + 8 * a) ((-1)))) else if (l_n_end_a a b (M 163 (1121 + 8 * a)) 20 ((u_m_arrives a (M 163 (1121 + 8 * a)) b ((u_m_goes a (M 163 (970 + 12 * M 163 (1117 + 8 * a) + b)) M)))) b 0 (v_m_arrives a (M 163 (1121 + 8 * a)) b ((u_m_goes a (M 163 (970 + 12 * M 163 (1117 + 8 * a) + b)) M))) 1).2.2.2.1 = 0 then (x_up ((x_up ((u_m_streets a ((l_n_end_a a b (M 163 (1121 + 8 * a)) 20 ((u_m_arrives a (M 163 (1121 + 8 * a)) b ((u_m_goes a (M 163 (970 + 12 * M 163 (1117 + 8 * a) + b)) M)))) b 0 (v_m_arrives a (M 163 (1121 + 8 * a)) b ((u_m_goes a (M 163 (970 + 12 * M 163 (1117 + 8 * a) + b)) M))) 1).2.1) ((l_n_end_a a b (M 163 (1121 + 8 * a)) 20 ((u_m_arrives a (M 163 (1121 + 8 * a)) b ((u_m_goes a (M 163 (970 + 12 * M 163 (1117 + 8 * a) + b)) M)))) b 0 (v_m_arrives a (M 163 (1121 + 8 * a)) b ((u_m_goes a (M 163 (970 + 12 * M 163 (1117 + 8 * a) + b)) M))) 1).1))) 163 (1121 + 8 * a) ((-1)))) 163 (1121 + 8 * M 163 (1121 + 8 * a)) ((-1))) else (x_up ((x_up ((u_m_streets a ((l_n_end_a a b (M 163 (1121 + 8 * a)) 20 ((u_m_arrives a (M 163 (1121 + 8 * a)) b ((u_m_goes a (M 163 (970 + 12 * M 163 (1117 + 8 * a) + b)) M)))) b 0 (v_m_arrives a (M 163 (1121 + 8 * a)) b ((u_m_goes a (M 163 (970 + 12 * M 163 (1117 + 8 * a) + b)) M))) 1).2.1) ((l_n_end_a a b (M 163 (1121 + 8 * a)) 20 ((u_m_arrives a (M 163 (1121 + 8 * a)) b ((u_m_goes a (M 163 (970 + 12 * M 163 (1117 + 8 * a) + b)) M)))) b 0 (v_m_arrives a (M 163 (1121 + 8 * a)) b ((u_m_goes a (M 163 (970 + 12 * M 163 (1117 + 8 * a) + b)) M))) 1).1))) 163 (1121 + 8 * a) ((-1)))) 163 (1121 + 8 * M 163 (1121 + 8 * a)) ((-1)))) else if M 163 (1121 + 8 * a) < 0 then (if (l_n_end_a a b (M 163 (1121 + 8 * a)) 20 ((u_m_arrives a (M 163 (1121 + 8 * a)) b ((u_m_goes a (M 163 (970 + 12 * M 163 (1117 + 8 * a) + b)) M)))) b 0 (v_m_arrives a (M 163 (1121 + 8 * a)) b ((u_m_goes a (M 163 (970 + 12 * M 163 (1117 + 8 * a) + b)) M))) 1).2.2.2.1 = 0 then (x_up ((u_m_streets (M 163 (1121 + 8 * a)) ((l_n_end_a a b (M 163 (1121 + 8 * a)) 20 ((u_m_arrives a (M 163 (1121 + 8 * a)) b ((u_m_goes a (M 163 (970 + 12 * M 163 (1117 + 8 * a) + b)) M)))) b 0 (v_m_arrives a (M 163 (1121 + 8 * a)) b ((u_m_goes a (M 163 (970 + 12 * M 163 (1117 + 8 * a) + b)) M))) 1).2.1) ((u_m_streets a ((l_n_end_a a b (M 163 (1121 + 8 * a)) 20 ((u_m_arrives a (M 163 (1121 + 8 * a)) b ((u_m_goes a (M 163 (970 + 12 * M 163 (1117 + 8 * a) + b)) M)))) b 0 (v_m_arrives a (M 163 (1121 + 8 * a)) b ((u_m_goes a (M 163 (970 + 12 * M 163 (1117 + 8 * a) + b)) M))) 1).2.1) ((l_n_end_a a b (M 163 (1121 + 8 * a)) 20 ((u_m_arrives a (M 163 (1121 + 8 * a)) b ((u_m_goes a (M 163 (970 + 12 * M 163 (1117 + 8 * a) + b)) M)))) b 0 (v_m_arrives a (M 163 (1121 + 8 * a)) b ((u_m_goes a (M 163 (970 + 12 * M 163 (1117 + 8 * a) + b)) M))) 1).1))))) 163 (1121 + 8 * a) ((-1))) else (x_up ((u_m_streets (M 163 (1121 + 8 * a)) ((l_n_end_a a b (M 163 (1121 + 8 * a)) 20 ((u_m_arrives a (M 163 (1121 + 8 * a)) b ((u_m_goes a (M 163 (970 + 12 * M 163 (1117 + 8 * a) + b)) M)))) b 0 (v_m_arrives a (M 163 (1121 + 8 * a)) b ((u_m_goes a (M 163 (970 + 12 * M 163 (1117 + 8 * a) + b)) M))) 1).2.1) ((u_m_streets a ((l_n_end_a a b (M 163 (1121 + 8 * a)) 20 ((u_m_arrives a (M 163 (1121 + 8 * a)) b ((u_m_goes a (M 163 (970 + 12 * M 163 (1117 + 8 * a) + b)) M)))) b 0 (v_m_arrives a (M 163 (1121 + 8 * a)) b ((u_m_goes a (M 163 (970 + 12 * M 163 (1117 + 8 * a) + b)) M))) 1).2.1) ((l_n_end_a a b (M 163 (1121 + 8 * a)) 20 ((u_m_arrives a (M 163 (1121 + 8 * a)) b ((u_m_goes a (M 163 (970 + 12 * M 163 (1117 + 8 * a) + b)) M)))) b 0 (v_m_arrives a (M 163 (1121 + 8 * a)) b ((u_m_goes a (M 163 (970 + 12 * M 163 (1117 + 8 * a) + b)) M))) 1).1))))) 163 (1121 + 8 * a) ((-1)))) else if (l_n_end_a a b (M 163 (1121 + 8 * a)) 20 ((u_m_arrives a (M 163 (1121 + 8 * a)) b ((u_m_goes a (M 163 (970 + 12 * M 163 (1117 + 8 * a) + b)) M)))) b 0 (v_m_arrives a (M 163 (1121 + 8 * a)) b ((u_m_goes a (M 163 (970 + 12 * M 163 (1117 + 8 * a) + b)) M))) 1).2.2.2.1 = 0 then (x_up ((x_up ((u_m_streets (M 163 (1121 + 8 * a)) ((l_n_end_a a b (M 163 (1121 + 8 * a)) 20 ((u_m_arrives a (M 163 (1121 + 8 * a)) b ((u_m_goes a (M 163 (970 + 12 * M 163 (1117 + 8 * a) + b)) M)))) b 0 (v_m_arrives a (M 163 (1121 + 8 * a)) b ((u_m_goes a (M 163 (970 + 12 * M 163 (1117 + 8 * a) + b)) M))) 1).2.1) ((u_m_streets a ((l_n_end_a a b (M 163 (1121 + 8 * a)) 20 ((u_m_arrives a (M 163 (1121 + 8 * a)) b ((u_m_goes a (M 163 (970 + 12 * M 163 (1117 + 8 * a) + b)) M)))) b 0 (v_m_arrives a (M 163 (1121 + 8 * a)) b ((u_m_goes a (M 163 (970 + 12 * M 163 (1117 + 8 * a) + b)) M))) 1).2.1) ((l_n_end_a a b (M 163 (1121 + 8 * a)) 20 ((u_m_arrives a (M 163 (1121 + 8 * a)) b ((u_m_goes a (M 163 (970 + 12 * M 163 (1117 + 8 * a) + b)) M)))) b 0 (v_m_arrives a (M 163 (1121 + 8 * a)) b ((u_m_goes a (M 163 (970 + 12 * M 163 (1117 + 8 * a) + b)) M))) 1).1))))) 163 (1121 + 8 * a) ((-1)))) 163 (1121 + 8 * M 163 (1121 + 8 * a)) ((-1))) else (x_up ((x_up ((u_m_streets (M 163 (1121 + 8 * a)) ((l_n_end_a a b (M 163 (1121 + 8 * a)) 20 ((u_m_arrives a (M 163 (1121 + 8 * a)) b ((u_m_goes a (M 163 (970 + 12 * M 163 (1117 + 8 * a) + b)) M)))) b 0 (v_m_arrives a (M 163 (1121 + 8 * a)) b ((u_m_goes a (M 163 (970 + 12 * M 163 (1117 + 8 * a) + b)) M))) 1).2.1) ((u_m_streets a ((l_n_end_a a b (M 163 (1121 + 8 * a)) 20 ((u_m_arrives a (M 163 (1121 + 8 * a)) b ((u_m_goes a (M 163 (970 + 12 * M 163 (1117 + 8 * a) + b)) M)))) b 0 (v_m_arrives a (M 163 (1121 + 8 * a)) b ((u_m_goes a (M 163 (970 + 12 * M 163 (1117 + 8 * a) + b)) M))) 1).2.1) ((l_n_end_a a b (M 163 (1121 + 8 * a)) 20 ((u_m_arrives a (M 163 (1121 + 8 * a)) b ((u_m_goes a (M 163 (970 + 12 * M 163 (1117 + 8 * a) + b)) M)))) b 0 (v_m_arrives a (M 163 (1121 + 8 * a)) b ((u_m_goes a (M 163 (970 + 12 * M 163 (1117 + 8 * a) + b)) M))) 1).1))))) 163 (1121 + 8 * a) ((-1)))) 163 (1121 + 8 * M 163 (1121 + 8 * a)) ((-1)))) else M) else M
theorem k_n_end {z : Int} {P M : Int → Int → Int} (hS : x_Sh z P) (hT : y_TC M) (a : Int) (b : Int)   : x_CallR 154 [.inr 162, .inl (a), .inl (b)] (z, P, M) (fun q => q = (some (.inl (v_n_end a b M)), (z, P, u_n_end a b M)) ∧ y_TL 1 M (u_n_end a b M) ∧ True) := by
  have tl0 : y_TL 1 M M := tl_refl hT
  refine e_body (ls0 := [.inr 162, .inl (a), .inl (b), x_un, x_un, x_un, x_un, x_un, x_un, x_un]) xm154 rfl ?_
  refine e_aload (k := 0) (xi154 0) rfl (by decide) ?_
  refine e_iload (k := 1) (xi154 1) rfl ?_
  have t1 := ty_a1 tl0.1
  refine e_call (k := 2) (v := some (.inl (x_b (0 ≤ a ∧ a < M 163 1)))) (h1 := (z, P, M)) (c1 := 0) (c2 := 0) (rest := []) (as := [.inr 162, .inl (a)]) (xi154 2) (by decide) xm115 rfl ⟨rfl, Nat.le_of_ble_eq_true rfl, by decide⟩ (Or.inr (x_okt (ok_mo hS))) (k_isWheel hS tl0.1 a  ) ?_
  refine e_b_eq (k := 3) (xi154 3) (fun c0 => ?_) (fun c0 => ?_)
  · skip
    refine e_aload (k := 4) (xi154 4) rfl (by decide) ?_
    refine e_iload (k := 5) (xi154 5) rfl ?_
    refine e_iconst (k := 6) (xi154 6) ?_
    have t2 := ty_aW2 tl0.1 (i := 1116 + 8 * a) (w := a) (by omega) (by omega)
    refine e_call (k := 7) (v := some (.inl (M 163 (1116 + 8 * a)))) (h1 := (z, P, M)) (c1 := 0) (c2 := 0) (rest := []) (as := [.inr 162, .inl (a), .inl 2]) (xi154 7) (by decide) xm129 rfl ⟨rfl, Nat.le_of_ble_eq_true rfl, by decide⟩ (Or.inr (x_okt (ok_mo hS))) (k_mof hS tl0.1 a 2 (1116 + 8 * a) (by omega) (by omega) (by omega)) ?_
    refine e_iconst (k := 8) (xi154 8) ?_
    refine e_c_ne (k := 9) (xi154 9) (fun c1 => ?_) (fun c1 => ?_)
    · skip
      refine e_iconst (k := 20) (xi154 20) ?_
      refine e_iret (k := 21) (xi154 21) ?_
      exact y_fW (Q := fun _ => True) (show v_n_end a b M = (-1) from by rw [v_n_end, if_pos c0, if_pos c1]) (show u_n_end a b M = M from by rw [u_n_end, if_pos c0, if_pos c1]) tl0 trivial
    · skip
      refine e_aload (k := 10) (xi154 10) rfl (by decide) ?_
      refine e_iload (k := 11) (xi154 11) rfl ?_
      refine e_iconst (k := 12) (xi154 12) ?_
      have t3 := ty_aW0 tl0.1 (i := 1114 + 8 * a) (w := a) (by omega) (by omega)
      refine e_call (k := 13) (v := some (.inl (M 163 (1114 + 8 * a)))) (h1 := (z, P, M)) (c1 := 0) (c2 := 0) (rest := []) (as := [.inr 162, .inl (a), .inl 0]) (xi154 13) (by decide) xm129 rfl ⟨rfl, Nat.le_of_ble_eq_true rfl, by decide⟩ (Or.inr (x_okt (ok_mo hS))) (k_mof hS tl0.1 a 0 (1114 + 8 * a) (by omega) (by omega) (by omega)) ?_
      refine e_iconst (k := 14) (xi154 14) ?_
      refine e_c_eq (k := 15) (xi154 15) (fun c2 => ?_) (fun c2 => ?_)
      · skip
        refine e_iconst (k := 20) (xi154 20) ?_
        refine e_iret (k := 21) (xi154 21) ?_
        exact y_fW (Q := fun _ => True) (show v_n_end a b M = (-1) from by rw [v_n_end, if_pos c0, if_neg c1, if_pos c2]) (show u_n_end a b M = M from by rw [u_n_end, if_pos c0, if_neg c1, if_pos c2]) tl0 trivial
      · skip
        refine e_aload (k := 16) (xi154 16) rfl (by decide) ?_
        refine e_iload (k := 17) (xi154 17) rfl ?_
        have t4 := ty_a0 tl0.1
        refine e_call (k := 18) (v := some (.inl (x_b (0 ≤ b ∧ b < M 163 0)))) (h1 := (z, P, M)) (c1 := 0) (c2 := 0) (rest := []) (as := [.inr 162, .inl (b)]) (xi154 18) (by decide) xm114 rfl ⟨rfl, Nat.le_of_ble_eq_true rfl, by decide⟩ (Or.inr (x_okt (ok_mo hS))) (k_isStand hS tl0.1 b  ) ?_
        refine e_b_ne (k := 19) (xi154 19) (fun c3 => ?_) (fun c3 => ?_)
        · skip
          refine e_aload (k := 22) (xi154 22) rfl (by decide) ?_
          refine e_iload (k := 23) (xi154 23) rfl ?_
          refine e_iconst (k := 24) (xi154 24) ?_
          have t5 := ty_aW7 tl0.1 (i := 1121 + 8 * a) (w := a) (by omega) (by omega)
          refine e_call (k := 25) (v := some (.inl (M 163 (1121 + 8 * a)))) (h1 := (z, P, M)) (c1 := 0) (c2 := 0) (rest := []) (as := [.inr 162, .inl (a), .inl 7]) (xi154 25) (by decide) xm129 rfl ⟨rfl, Nat.le_of_ble_eq_true rfl, by decide⟩ (Or.inr (x_okt (ok_mo hS))) (k_mof hS tl0.1 a 7 (1121 + 8 * a) (by omega) (by omega) (by omega)) ?_
          refine e_istore (k := 26) (xi154 26) (Nat.le_of_ble_eq_true rfl) ?_
          show x_Ev 154 27 [.inr 162, .inl (a), .inl (b), .inl (M 163 (1121 + 8 * a)), x_un, x_un, x_un, x_un, x_un, x_un] [] (0, 0) (z, P, M) _
          refine e_aload (k := 27) (xi154 27) rfl (by decide) ?_
          refine e_iload (k := 28) (xi154 28) rfl ?_
          refine e_aload (k := 29) (xi154 29) rfl (by decide) ?_
          refine e_aload (k := 30) (xi154 30) rfl (by decide) ?_
          refine e_iload (k := 31) (xi154 31) rfl ?_
          refine e_iconst (k := 32) (xi154 32) ?_
          have t6 := ty_aW3 tl0.1 (i := 1117 + 8 * a) (w := a) (by omega) (by omega)
          refine e_call (k := 33) (v := some (.inl (M 163 (1117 + 8 * a)))) (h1 := (z, P, M)) (c1 := 0) (c2 := 0) (rest := [.inr 162, .inl (a), .inr 162]) (as := [.inr 162, .inl (a), .inl 3]) (xi154 33) (by decide) xm129 rfl ⟨rfl, Nat.le_of_ble_eq_true rfl, by decide⟩ (Or.inr (x_okt (ok_mo hS))) (k_mof hS tl0.1 a 3 (1117 + 8 * a) (by omega) (by omega) (by omega)) ?_
          refine e_iload (k := 34) (xi154 34) rfl ?_
          have t7 := ty_aL tl0.1 (i := 970 + 12 * M 163 (1117 + 8 * a) + b) (a := M 163 (1117 + 8 * a)) (b := b) (by omega) (by omega) (by omega)
          refine e_call (k := 35) (v := some (.inl (M 163 (970 + 12 * M 163 (1117 + 8 * a) + b)))) (h1 := (z, P, M)) (c1 := 0) (c2 := 0) (rest := [.inl (a), .inr 162]) (as := [.inr 162, .inl (M 163 (1117 + 8 * a)), .inl (b)]) (xi154 35) (by decide) xm120 rfl ⟨rfl, Nat.le_of_ble_eq_true rfl, by decide⟩ (Or.inr (x_okt (ok_mo hS))) (k_mfar hS tl0.1 (M 163 (1117 + 8 * a)) b (970 + 12 * M 163 (1117 + 8 * a) + b) (by omega) (by omega) (by omega)) ?_
          refine e_callR (k := 36) (c1 := 0) (c2 := 0) (rest := []) (as := [.inr 162, .inl (a), .inl (M 163 (970 + 12 * M 163 (1117 + 8 * a) + b))]) (xi154 36) (by decide) xm151 rfl ⟨rfl, Nat.le_of_ble_eq_true rfl, by decide⟩ (Or.inr (x_okt (ok_mo hS))) (k_m_goes hS tl0.1 a (M 163 (970 + 12 * M 163 (1117 + 8 * a) + b))  (by omega) (by omega)) ?_
          rintro v_ h_ ⟨e8, tl9⟩
          cases e8
          have tl11 := tl_trans tl0 (tl_15 tl9)
          have n12 := tl_n5 tl9
          show x_Ev 154 37 [.inr 162, .inl (a), .inl (b), .inl (M 163 (1121 + 8 * a)), x_un, x_un, x_un, x_un, x_un, x_un] [] (0, 0) (z, P, (u_m_goes a (M 163 (970 + 12 * M 163 (1117 + 8 * a) + b)) M)) _
          refine e_iload (k := 37) (xi154 37) rfl ?_
          refine e_istore (k := 38) (xi154 38) (Nat.le_of_ble_eq_true rfl) ?_
          show x_Ev 154 39 [.inr 162, .inl (a), .inl (b), .inl (M 163 (1121 + 8 * a)), .inl (b), x_un, x_un, x_un, x_un, x_un] [] (0, 0) (z, P, (u_m_goes a (M 163 (970 + 12 * M 163 (1117 + 8 * a) + b)) M)) _
          refine e_aload (k := 39) (xi154 39) rfl (by decide) ?_
          refine e_iload (k := 40) (xi154 40) rfl ?_
          refine e_call (k := 41) (v := some (.inl (10 + 80 * b))) (h1 := (z, P, (u_m_goes a (M 163 (970 + 12 * M 163 (1117 + 8 * a) + b)) M))) (c1 := 0) (c2 := 0) (rest := []) (as := [.inr 162, .inl (b)]) (xi154 41) (by decide) xm117 rfl ⟨rfl, Nat.le_of_ble_eq_true rfl, by decide⟩ (Or.inr (x_okt (ok_mo hS))) (k_mstandAt hS tl11.1 b (by omega)) ?_
          refine e_iconst (k := 42) (xi154 42) ?_
          refine e_iadd (w := 25 + 80 * b) (k := 43) (xi154 43) (x_wn (by omega)) ?_
          refine e_istore (k := 44) (xi154 44) (Nat.le_of_ble_eq_true rfl) ?_
          show x_Ev 154 45 [.inr 162, .inl (a), .inl (b), .inl (M 163 (1121 + 8 * a)), .inl (b), .inl (25 + 80 * b), x_un, x_un, x_un, x_un] [] (0, 0) (z, P, (u_m_goes a (M 163 (970 + 12 * M 163 (1117 + 8 * a) + b)) M)) _
          refine e_iconst (k := 45) (xi154 45) ?_
          refine e_istore (k := 46) (xi154 46) (Nat.le_of_ble_eq_true rfl) ?_
          show x_Ev 154 47 [.inr 162, .inl (a), .inl (b), .inl (M 163 (1121 + 8 * a)), .inl (b), .inl (25 + 80 * b), .inl 0, x_un, x_un, x_un] [] (0, 0) (z, P, (u_m_goes a (M 163 (970 + 12 * M 163 (1117 + 8 * a) + b)) M)) _
          refine e_aload (k := 47) (xi154 47) rfl (by decide) ?_
          refine e_iload (k := 48) (xi154 48) rfl ?_
          refine e_iload (k := 49) (xi154 49) rfl ?_
          refine e_iload (k := 50) (xi154 50) rfl ?_
          refine e_callR (k := 51) (c1 := 0) (c2 := 0) (rest := []) (as := [.inr 162, .inl (a), .inl (M 163 (1121 + 8 * a)), .inl (b)]) (xi154 51) (by decide) xm152 rfl ⟨rfl, Nat.le_of_ble_eq_true rfl, by decide⟩ (Or.inr (x_okt (ok_mo hS))) (k_m_arrives hS tl11.1 a (M 163 (1121 + 8 * a)) b  (by omega) (by omega) (by omega)) ?_
          rintro v_ h_ ⟨e13, tl14, q15⟩
          cases e13
          have tl16 := tl_trans tl11 (tl_15 tl14)
          have n17 := tl_n5 tl14
          show x_Ev 154 52 [.inr 162, .inl (a), .inl (b), .inl (M 163 (1121 + 8 * a)), .inl (b), .inl (25 + 80 * b), .inl 0, x_un, x_un, x_un] [.inl (v_m_arrives a (M 163 (1121 + 8 * a)) b ((u_m_goes a (M 163 (970 + 12 * M 163 (1117 + 8 * a) + b)) M)))] (0, 0) (z, P, (u_m_arrives a (M 163 (1121 + 8 * a)) b ((u_m_goes a (M 163 (970 + 12 * M 163 (1117 + 8 * a) + b)) M)))) _
          refine e_istore (k := 52) (xi154 52) (Nat.le_of_ble_eq_true rfl) ?_
          show x_Ev 154 53 [.inr 162, .inl (a), .inl (b), .inl (M 163 (1121 + 8 * a)), .inl (b), .inl (25 + 80 * b), .inl 0, .inl (v_m_arrives a (M 163 (1121 + 8 * a)) b ((u_m_goes a (M 163 (970 + 12 * M 163 (1117 + 8 * a) + b)) M))), x_un, x_un] [] (0, 0) (z, P, (u_m_arrives a (M 163 (1121 + 8 * a)) b ((u_m_goes a (M 163 (970 + 12 * M 163 (1117 + 8 * a) + b)) M)))) _
          refine e_iload (k := 53) (xi154 53) rfl ?_
          refine e_z_ne (k := 54) (xi154 54) (fun c4 => ?_) (fun c4 => ?_)
          · skip
            refine e_iconst (k := 57) (xi154 57) ?_
            refine e_istore (k := 58) (xi154 58) (Nat.le_of_ble_eq_true rfl) ?_
            show x_Ev 154 59 [.inr 162, .inl (a), .inl (b), .inl (M 163 (1121 + 8 * a)), .inl (b), .inl (25 + 80 * b), .inl 0, .inl (v_m_arrives a (M 163 (1121 + 8 * a)) b ((u_m_goes a (M 163 (970 + 12 * M 163 (1117 + 8 * a) + b)) M))), .inl 0, x_un] [] (0, 0) (z, P, (u_m_arrives a (M 163 (1121 + 8 * a)) b ((u_m_goes a (M 163 (970 + 12 * M 163 (1117 + 8 * a) + b)) M)))) _
            refine kl_n_end_a hS a b (M 163 (1121 + 8 * a))   (by omega) (by omega) (by omega) 20 _ ((u_m_arrives a (M 163 (1121 + 8 * a)) b ((u_m_goes a (M 163 (970 + 12 * M 163 (1117 + 8 * a) + b)) M)))) b 0 (v_m_arrives a (M 163 (1121 + 8 * a)) b ((u_m_goes a (M 163 (970 + 12 * M 163 (1117 + 8 * a) + b)) M))) 0 tl16 (by omega) (by omega) ?_
            intro x20 tl18 q19
            show x_Ev 154 118 [.inr 162, .inl (a), .inl (b), .inl (M 163 (1121 + 8 * a)), .inl ((l_n_end_a a b (M 163 (1121 + 8 * a)) 20 ((u_m_arrives a (M 163 (1121 + 8 * a)) b ((u_m_goes a (M 163 (970 + 12 * M 163 (1117 + 8 * a) + b)) M)))) b 0 (v_m_arrives a (M 163 (1121 + 8 * a)) b ((u_m_goes a (M 163 (970 + 12 * M 163 (1117 + 8 * a) + b)) M))) 0).2.1), .inl (25 + 80 * b), .inl ((l_n_end_a a b (M 163 (1121 + 8 * a)) 20 ((u_m_arrives a (M 163 (1121 + 8 * a)) b ((u_m_goes a (M 163 (970 + 12 * M 163 (1117 + 8 * a) + b)) M)))) b 0 (v_m_arrives a (M 163 (1121 + 8 * a)) b ((u_m_goes a (M 163 (970 + 12 * M 163 (1117 + 8 * a) + b)) M))) 0).2.2.1), .inl ((l_n_end_a a b (M 163 (1121 + 8 * a)) 20 ((u_m_arrives a (M 163 (1121 + 8 * a)) b ((u_m_goes a (M 163 (970 + 12 * M 163 (1117 + 8 * a) + b)) M)))) b 0 (v_m_arrives a (M 163 (1121 + 8 * a)) b ((u_m_goes a (M 163 (970 + 12 * M 163 (1117 + 8 * a) + b)) M))) 0).2.2.2.1), .inl ((l_n_end_a a b (M 163 (1121 + 8 * a)) 20 ((u_m_arrives a (M 163 (1121 + 8 * a)) b ((u_m_goes a (M 163 (970 + 12 * M 163 (1117 + 8 * a) + b)) M)))) b 0 (v_m_arrives a (M 163 (1121 + 8 * a)) b ((u_m_goes a (M 163 (970 + 12 * M 163 (1117 + 8 * a) + b)) M))) 0).2.2.2.2), x20] [] (0, 0) (z, P, (l_n_end_a a b (M 163 (1121 + 8 * a)) 20 ((u_m_arrives a (M 163 (1121 + 8 * a)) b ((u_m_goes a (M 163 (970 + 12 * M 163 (1117 + 8 * a) + b)) M)))) b 0 (v_m_arrives a (M 163 (1121 + 8 * a)) b ((u_m_goes a (M 163 (970 + 12 * M 163 (1117 + 8 * a) + b)) M))) 0).1) _
            refine e_iload (k := 118) (xi154 118) rfl ?_
            refine e_z_ne (k := 119) (xi154 119) (fun c5 => ?_) (fun c5 => ?_)
            · skip
              refine e_aload (k := 130) (xi154 130) rfl (by decide) ?_
              refine e_iload (k := 131) (xi154 131) rfl ?_
              refine e_iconst (k := 132) (xi154 132) ?_
              refine e_iconst (k := 133) (xi154 133) ?_
              have tl21 : y_TL 1 M (x_up ((l_n_end_a a b (M 163 (1121 + 8 * a)) 20 ((u_m_arrives a (M 163 (1121 + 8 * a)) b ((u_m_goes a (M 163 (970 + 12 * M 163 (1117 + 8 * a) + b)) M)))) b 0 (v_m_arrives a (M 163 (1121 + 8 * a)) b ((u_m_goes a (M 163 (970 + 12 * M 163 (1117 + 8 * a) + b)) M))) 0).1) 163 (1121 + 8 * a) ((-1))) := tl_up tl18 (sl_aW7 (i := 1121 + 8 * a) (w := a) (by omega) (by omega) (by omega)) (nf_aW7 (i := 1121 + 8 * a) (w := a) (by omega) (by omega))
              refine e_call (k := 134) (v := none) (h1 := (z, P, (x_up ((l_n_end_a a b (M 163 (1121 + 8 * a)) 20 ((u_m_arrives a (M 163 (1121 + 8 * a)) b ((u_m_goes a (M 163 (970 + 12 * M 163 (1117 + 8 * a) + b)) M)))) b 0 (v_m_arrives a (M 163 (1121 + 8 * a)) b ((u_m_goes a (M 163 (970 + 12 * M 163 (1117 + 8 * a) + b)) M))) 0).1) 163 (1121 + 8 * a) ((-1))))) (c1 := 0) (c2 := 0) (rest := []) (as := [.inr 162, .inl (a), .inl 7, .inl ((-1))]) (xi154 134) (by decide) xm130 rfl ⟨rfl, Nat.le_of_ble_eq_true rfl, by decide⟩ (Or.inr (x_okt (ok_mo hS))) (k_msets hS a 7 ((-1)) (1121 + 8 * a) (by omega) (by omega) (by omega)) ?_
              refine e_iload (k := 135) (xi154 135) rfl ?_
              refine e_z_lt (k := 136) (xi154 136) (fun c6 => ?_) (fun c6 => ?_)
              · skip
                refine e_iload (k := 142) (xi154 142) rfl ?_
                refine e_z_eq (k := 143) (xi154 143) (fun c7 => ?_) (fun c7 => ?_)
                · skip
                  refine e_iconst (k := 146) (xi154 146) ?_
                  refine e_iload (k := 147) (xi154 147) rfl ?_
                  refine e_iadd (w := 100 + (l_n_end_a a b (M 163 (1121 + 8 * a)) 20 ((u_m_arrives a (M 163 (1121 + 8 * a)) b ((u_m_goes a (M 163 (970 + 12 * M 163 (1117 + 8 * a) + b)) M)))) b 0 (v_m_arrives a (M 163 (1121 + 8 * a)) b ((u_m_goes a (M 163 (970 + 12 * M 163 (1117 + 8 * a) + b)) M))) 0).2.1) (k := 148) (xi154 148) (x_wn (by omega)) ?_
                  refine e_iret (k := 149) (xi154 149) ?_
                  exact y_fW (Q := fun _ => True) (show v_n_end a b M = 100 + (l_n_end_a a b (M 163 (1121 + 8 * a)) 20 ((u_m_arrives a (M 163 (1121 + 8 * a)) b ((u_m_goes a (M 163 (970 + 12 * M 163 (1117 + 8 * a) + b)) M)))) b 0 (v_m_arrives a (M 163 (1121 + 8 * a)) b ((u_m_goes a (M 163 (970 + 12 * M 163 (1117 + 8 * a) + b)) M))) 0).2.1 from by rw [v_n_end, if_pos c0, if_neg c1, if_neg c2, if_pos c3, if_pos c4, if_pos c5, if_pos c6, if_pos c7]) (show u_n_end a b M = (x_up ((l_n_end_a a b (M 163 (1121 + 8 * a)) 20 ((u_m_arrives a (M 163 (1121 + 8 * a)) b ((u_m_goes a (M 163 (970 + 12 * M 163 (1117 + 8 * a) + b)) M)))) b 0 (v_m_arrives a (M 163 (1121 + 8 * a)) b ((u_m_goes a (M 163 (970 + 12 * M 163 (1117 + 8 * a) + b)) M))) 0).1) 163 (1121 + 8 * a) ((-1))) from by rw [u_n_end, if_pos c0, if_neg c1, if_neg c2, if_pos c3, if_pos c4, if_pos c5, if_pos c6, if_pos c7]) tl21 trivial
                · skip
                  refine e_iload (k := 144) (xi154 144) rfl ?_
                  refine e_goto (k := 145) (xi154 145) ?_
                  refine e_iret (k := 149) (xi154 149) ?_
                  exact y_fW (Q := fun _ => True) (show v_n_end a b M = (l_n_end_a a b (M 163 (1121 + 8 * a)) 20 ((u_m_arrives a (M 163 (1121 + 8 * a)) b ((u_m_goes a (M 163 (970 + 12 * M 163 (1117 + 8 * a) + b)) M)))) b 0 (v_m_arrives a (M 163 (1121 + 8 * a)) b ((u_m_goes a (M 163 (970 + 12 * M 163 (1117 + 8 * a) + b)) M))) 0).2.1 from by rw [v_n_end, if_pos c0, if_neg c1, if_neg c2, if_pos c3, if_pos c4, if_pos c5, if_pos c6, if_neg c7]) (show u_n_end a b M = (x_up ((l_n_end_a a b (M 163 (1121 + 8 * a)) 20 ((u_m_arrives a (M 163 (1121 + 8 * a)) b ((u_m_goes a (M 163 (970 + 12 * M 163 (1117 + 8 * a) + b)) M)))) b 0 (v_m_arrives a (M 163 (1121 + 8 * a)) b ((u_m_goes a (M 163 (970 + 12 * M 163 (1117 + 8 * a) + b)) M))) 0).1) 163 (1121 + 8 * a) ((-1))) from by rw [u_n_end, if_pos c0, if_neg c1, if_neg c2, if_pos c3, if_pos c4, if_pos c5, if_pos c6, if_neg c7]) tl21 trivial
              · skip
                refine e_aload (k := 137) (xi154 137) rfl (by decide) ?_
                refine e_iload (k := 138) (xi154 138) rfl ?_
                refine e_iconst (k := 139) (xi154 139) ?_
                refine e_iconst (k := 140) (xi154 140) ?_
                have tl22 : y_TL 1 M (x_up ((x_up ((l_n_end_a a b (M 163 (1121 + 8 * a)) 20 ((u_m_arrives a (M 163 (1121 + 8 * a)) b ((u_m_goes a (M 163 (970 + 12 * M 163 (1117 + 8 * a) + b)) M)))) b 0 (v_m_arrives a (M 163 (1121 + 8 * a)) b ((u_m_goes a (M 163 (970 + 12 * M 163 (1117 + 8 * a) + b)) M))) 0).1) 163 (1121 + 8 * a) ((-1)))) 163 (1121 + 8 * M 163 (1121 + 8 * a)) ((-1))) := tl_up tl21 (sl_aW7 (i := 1121 + 8 * M 163 (1121 + 8 * a)) (w := M 163 (1121 + 8 * a)) (by omega) (by omega) (by omega)) (nf_aW7 (i := 1121 + 8 * M 163 (1121 + 8 * a)) (w := M 163 (1121 + 8 * a)) (by omega) (by omega))
                refine e_call (k := 141) (v := none) (h1 := (z, P, (x_up ((x_up ((l_n_end_a a b (M 163 (1121 + 8 * a)) 20 ((u_m_arrives a (M 163 (1121 + 8 * a)) b ((u_m_goes a (M 163 (970 + 12 * M 163 (1117 + 8 * a) + b)) M)))) b 0 (v_m_arrives a (M 163 (1121 + 8 * a)) b ((u_m_goes a (M 163 (970 + 12 * M 163 (1117 + 8 * a) + b)) M))) 0).1) 163 (1121 + 8 * a) ((-1)))) 163 (1121 + 8 * M 163 (1121 + 8 * a)) ((-1))))) (c1 := 0) (c2 := 0) (rest := []) (as := [.inr 162, .inl (M 163 (1121 + 8 * a)), .inl 7, .inl ((-1))]) (xi154 141) (by decide) xm130 rfl ⟨rfl, Nat.le_of_ble_eq_true rfl, by decide⟩ (Or.inr (x_okt (ok_mo hS))) (k_msets hS (M 163 (1121 + 8 * a)) 7 ((-1)) (1121 + 8 * M 163 (1121 + 8 * a)) (by omega) (by omega) (by omega)) ?_
                refine e_iload (k := 142) (xi154 142) rfl ?_
                refine e_z_eq (k := 143) (xi154 143) (fun c8 => ?_) (fun c8 => ?_)
                · skip
                  refine e_iconst (k := 146) (xi154 146) ?_
                  refine e_iload (k := 147) (xi154 147) rfl ?_
                  refine e_iadd (w := 100 + (l_n_end_a a b (M 163 (1121 + 8 * a)) 20 ((u_m_arrives a (M 163 (1121 + 8 * a)) b ((u_m_goes a (M 163 (970 + 12 * M 163 (1117 + 8 * a) + b)) M)))) b 0 (v_m_arrives a (M 163 (1121 + 8 * a)) b ((u_m_goes a (M 163 (970 + 12 * M 163 (1117 + 8 * a) + b)) M))) 0).2.1) (k := 148) (xi154 148) (x_wn (by omega)) ?_
                  refine e_iret (k := 149) (xi154 149) ?_
                  exact y_fW (Q := fun _ => True) (show v_n_end a b M = 100 + (l_n_end_a a b (M 163 (1121 + 8 * a)) 20 ((u_m_arrives a (M 163 (1121 + 8 * a)) b ((u_m_goes a (M 163 (970 + 12 * M 163 (1117 + 8 * a) + b)) M)))) b 0 (v_m_arrives a (M 163 (1121 + 8 * a)) b ((u_m_goes a (M 163 (970 + 12 * M 163 (1117 + 8 * a) + b)) M))) 0).2.1 from by rw [v_n_end, if_pos c0, if_neg c1, if_neg c2, if_pos c3, if_pos c4, if_pos c5, if_neg c6, if_pos c8]) (show u_n_end a b M = (x_up ((x_up ((l_n_end_a a b (M 163 (1121 + 8 * a)) 20 ((u_m_arrives a (M 163 (1121 + 8 * a)) b ((u_m_goes a (M 163 (970 + 12 * M 163 (1117 + 8 * a) + b)) M)))) b 0 (v_m_arrives a (M 163 (1121 + 8 * a)) b ((u_m_goes a (M 163 (970 + 12 * M 163 (1117 + 8 * a) + b)) M))) 0).1) 163 (1121 + 8 * a) ((-1)))) 163 (1121 + 8 * M 163 (1121 + 8 * a)) ((-1))) from by rw [u_n_end, if_pos c0, if_neg c1, if_neg c2, if_pos c3, if_pos c4, if_pos c5, if_neg c6, if_pos c8]) tl22 trivial
                · skip
                  refine e_iload (k := 144) (xi154 144) rfl ?_
                  refine e_goto (k := 145) (xi154 145) ?_
                  refine e_iret (k := 149) (xi154 149) ?_
                  exact y_fW (Q := fun _ => True) (show v_n_end a b M = (l_n_end_a a b (M 163 (1121 + 8 * a)) 20 ((u_m_arrives a (M 163 (1121 + 8 * a)) b ((u_m_goes a (M 163 (970 + 12 * M 163 (1117 + 8 * a) + b)) M)))) b 0 (v_m_arrives a (M 163 (1121 + 8 * a)) b ((u_m_goes a (M 163 (970 + 12 * M 163 (1117 + 8 * a) + b)) M))) 0).2.1 from by rw [v_n_end, if_pos c0, if_neg c1, if_neg c2, if_pos c3, if_pos c4, if_pos c5, if_neg c6, if_neg c8]) (show u_n_end a b M = (x_up ((x_up ((l_n_end_a a b (M 163 (1121 + 8 * a)) 20 ((u_m_arrives a (M 163 (1121 + 8 * a)) b ((u_m_goes a (M 163 (970 + 12 * M 163 (1117 + 8 * a) + b)) M)))) b 0 (v_m_arrives a (M 163 (1121 + 8 * a)) b ((u_m_goes a (M 163 (970 + 12 * M 163 (1117 + 8 * a) + b)) M))) 0).1) 163 (1121 + 8 * a) ((-1)))) 163 (1121 + 8 * M 163 (1121 + 8 * a)) ((-1))) from by rw [u_n_end, if_pos c0, if_neg c1, if_neg c2, if_pos c3, if_pos c4, if_pos c5, if_neg c6, if_neg c8]) tl22 trivial
            · skip
              refine e_aload (k := 120) (xi154 120) rfl (by decide) ?_
              refine e_iload (k := 121) (xi154 121) rfl ?_
              refine e_iload (k := 122) (xi154 122) rfl ?_
              refine e_callR (k := 123) (c1 := 0) (c2 := 0) (rest := []) (as := [.inr 162, .inl (a), .inl ((l_n_end_a a b (M 163 (1121 + 8 * a)) 20 ((u_m_arrives a (M 163 (1121 + 8 * a)) b ((u_m_goes a (M 163 (970 + 12 * M 163 (1117 + 8 * a) + b)) M)))) b 0 (v_m_arrives a (M 163 (1121 + 8 * a)) b ((u_m_goes a (M 163 (970 + 12 * M 163 (1117 + 8 * a) + b)) M))) 0).2.1)]) (xi154 123) (by decide) xm153 rfl ⟨rfl, Nat.le_of_ble_eq_true rfl, by decide⟩ (Or.inr (x_okt (ok_mo hS))) (k_m_streets hS tl18.1 a ((l_n_end_a a b (M 163 (1121 + 8 * a)) 20 ((u_m_arrives a (M 163 (1121 + 8 * a)) b ((u_m_goes a (M 163 (970 + 12 * M 163 (1117 + 8 * a) + b)) M)))) b 0 (v_m_arrives a (M 163 (1121 + 8 * a)) b ((u_m_goes a (M 163 (970 + 12 * M 163 (1117 + 8 * a) + b)) M))) 0).2.1)  (by omega) (by omega)) ?_
              rintro v_ h_ ⟨e23, tl24⟩
              cases e23
              have tl26 := tl_trans tl18 (tl_15 tl24)
              have n27 := tl_n5 tl24
              show x_Ev 154 124 [.inr 162, .inl (a), .inl (b), .inl (M 163 (1121 + 8 * a)), .inl ((l_n_end_a a b (M 163 (1121 + 8 * a)) 20 ((u_m_arrives a (M 163 (1121 + 8 * a)) b ((u_m_goes a (M 163 (970 + 12 * M 163 (1117 + 8 * a) + b)) M)))) b 0 (v_m_arrives a (M 163 (1121 + 8 * a)) b ((u_m_goes a (M 163 (970 + 12 * M 163 (1117 + 8 * a) + b)) M))) 0).2.1), .inl (25 + 80 * b), .inl ((l_n_end_a a b (M 163 (1121 + 8 * a)) 20 ((u_m_arrives a (M 163 (1121 + 8 * a)) b ((u_m_goes a (M 163 (970 + 12 * M 163 (1117 + 8 * a) + b)) M)))) b 0 (v_m_arrives a (M 163 (1121 + 8 * a)) b ((u_m_goes a (M 163 (970 + 12 * M 163 (1117 + 8 * a) + b)) M))) 0).2.2.1), .inl ((l_n_end_a a b (M 163 (1121 + 8 * a)) 20 ((u_m_arrives a (M 163 (1121 + 8 * a)) b ((u_m_goes a (M 163 (970 + 12 * M 163 (1117 + 8 * a) + b)) M)))) b 0 (v_m_arrives a (M 163 (1121 + 8 * a)) b ((u_m_goes a (M 163 (970 + 12 * M 163 (1117 + 8 * a) + b)) M))) 0).2.2.2.1), .inl ((l_n_end_a a b (M 163 (1121 + 8 * a)) 20 ((u_m_arrives a (M 163 (1121 + 8 * a)) b ((u_m_goes a (M 163 (970 + 12 * M 163 (1117 + 8 * a) + b)) M)))) b 0 (v_m_arrives a (M 163 (1121 + 8 * a)) b ((u_m_goes a (M 163 (970 + 12 * M 163 (1117 + 8 * a) + b)) M))) 0).2.2.2.2), x20] [] (0, 0) (z, P, (u_m_streets a ((l_n_end_a a b (M 163 (1121 + 8 * a)) 20 ((u_m_arrives a (M 163 (1121 + 8 * a)) b ((u_m_goes a (M 163 (970 + 12 * M 163 (1117 + 8 * a) + b)) M)))) b 0 (v_m_arrives a (M 163 (1121 + 8 * a)) b ((u_m_goes a (M 163 (970 + 12 * M 163 (1117 + 8 * a) + b)) M))) 0).2.1) ((l_n_end_a a b (M 163 (1121 + 8 * a)) 20 ((u_m_arrives a (M 163 (1121 + 8 * a)) b ((u_m_goes a (M 163 (970 + 12 * M 163 (1117 + 8 * a) + b)) M)))) b 0 (v_m_arrives a (M 163 (1121 + 8 * a)) b ((u_m_goes a (M 163 (970 + 12 * M 163 (1117 + 8 * a) + b)) M))) 0).1))) _
              refine e_iload (k := 124) (xi154 124) rfl ?_
              refine e_z_lt (k := 125) (xi154 125) (fun c9 => ?_) (fun c9 => ?_)
              · skip
                refine e_aload (k := 130) (xi154 130) rfl (by decide) ?_
                refine e_iload (k := 131) (xi154 131) rfl ?_
                refine e_iconst (k := 132) (xi154 132) ?_
                refine e_iconst (k := 133) (xi154 133) ?_
                have tl28 : y_TL 1 M (x_up ((u_m_streets a ((l_n_end_a a b (M 163 (1121 + 8 * a)) 20 ((u_m_arrives a (M 163 (1121 + 8 * a)) b ((u_m_goes a (M 163 (970 + 12 * M 163 (1117 + 8 * a) + b)) M)))) b 0 (v_m_arrives a (M 163 (1121 + 8 * a)) b ((u_m_goes a (M 163 (970 + 12 * M 163 (1117 + 8 * a) + b)) M))) 0).2.1) ((l_n_end_a a b (M 163 (1121 + 8 * a)) 20 ((u_m_arrives a (M 163 (1121 + 8 * a)) b ((u_m_goes a (M 163 (970 + 12 * M 163 (1117 + 8 * a) + b)) M)))) b 0 (v_m_arrives a (M 163 (1121 + 8 * a)) b ((u_m_goes a (M 163 (970 + 12 * M 163 (1117 + 8 * a) + b)) M))) 0).1))) 163 (1121 + 8 * a) ((-1))) := tl_up tl26 (sl_aW7 (i := 1121 + 8 * a) (w := a) (by omega) (by omega) (by omega)) (nf_aW7 (i := 1121 + 8 * a) (w := a) (by omega) (by omega))
                refine e_call (k := 134) (v := none) (h1 := (z, P, (x_up ((u_m_streets a ((l_n_end_a a b (M 163 (1121 + 8 * a)) 20 ((u_m_arrives a (M 163 (1121 + 8 * a)) b ((u_m_goes a (M 163 (970 + 12 * M 163 (1117 + 8 * a) + b)) M)))) b 0 (v_m_arrives a (M 163 (1121 + 8 * a)) b ((u_m_goes a (M 163 (970 + 12 * M 163 (1117 + 8 * a) + b)) M))) 0).2.1) ((l_n_end_a a b (M 163 (1121 + 8 * a)) 20 ((u_m_arrives a (M 163 (1121 + 8 * a)) b ((u_m_goes a (M 163 (970 + 12 * M 163 (1117 + 8 * a) + b)) M)))) b 0 (v_m_arrives a (M 163 (1121 + 8 * a)) b ((u_m_goes a (M 163 (970 + 12 * M 163 (1117 + 8 * a) + b)) M))) 0).1))) 163 (1121 + 8 * a) ((-1))))) (c1 := 0) (c2 := 0) (rest := []) (as := [.inr 162, .inl (a), .inl 7, .inl ((-1))]) (xi154 134) (by decide) xm130 rfl ⟨rfl, Nat.le_of_ble_eq_true rfl, by decide⟩ (Or.inr (x_okt (ok_mo hS))) (k_msets hS a 7 ((-1)) (1121 + 8 * a) (by omega) (by omega) (by omega)) ?_
                refine e_iload (k := 135) (xi154 135) rfl ?_
                refine e_z_lt (k := 136) (xi154 136) (fun c10 => ?_) (fun c10 => ?_)
                · skip
                  refine e_iload (k := 142) (xi154 142) rfl ?_
                  refine e_z_eq (k := 143) (xi154 143) (fun c11 => ?_) (fun c11 => ?_)
                  · skip
                    refine e_iconst (k := 146) (xi154 146) ?_
                    refine e_iload (k := 147) (xi154 147) rfl ?_
                    refine e_iadd (w := 100 + (l_n_end_a a b (M 163 (1121 + 8 * a)) 20 ((u_m_arrives a (M 163 (1121 + 8 * a)) b ((u_m_goes a (M 163 (970 + 12 * M 163 (1117 + 8 * a) + b)) M)))) b 0 (v_m_arrives a (M 163 (1121 + 8 * a)) b ((u_m_goes a (M 163 (970 + 12 * M 163 (1117 + 8 * a) + b)) M))) 0).2.1) (k := 148) (xi154 148) (x_wn (by omega)) ?_
                    refine e_iret (k := 149) (xi154 149) ?_
                    exact y_fW (Q := fun _ => True) (show v_n_end a b M = 100 + (l_n_end_a a b (M 163 (1121 + 8 * a)) 20 ((u_m_arrives a (M 163 (1121 + 8 * a)) b ((u_m_goes a (M 163 (970 + 12 * M 163 (1117 + 8 * a) + b)) M)))) b 0 (v_m_arrives a (M 163 (1121 + 8 * a)) b ((u_m_goes a (M 163 (970 + 12 * M 163 (1117 + 8 * a) + b)) M))) 0).2.1 from by rw [v_n_end, if_pos c0, if_neg c1, if_neg c2, if_pos c3, if_pos c4, if_neg c5, if_pos c9, if_pos c10, if_pos c11]) (show u_n_end a b M = (x_up ((u_m_streets a ((l_n_end_a a b (M 163 (1121 + 8 * a)) 20 ((u_m_arrives a (M 163 (1121 + 8 * a)) b ((u_m_goes a (M 163 (970 + 12 * M 163 (1117 + 8 * a) + b)) M)))) b 0 (v_m_arrives a (M 163 (1121 + 8 * a)) b ((u_m_goes a (M 163 (970 + 12 * M 163 (1117 + 8 * a) + b)) M))) 0).2.1) ((l_n_end_a a b (M 163 (1121 + 8 * a)) 20 ((u_m_arrives a (M 163 (1121 + 8 * a)) b ((u_m_goes a (M 163 (970 + 12 * M 163 (1117 + 8 * a) + b)) M)))) b 0 (v_m_arrives a (M 163 (1121 + 8 * a)) b ((u_m_goes a (M 163 (970 + 12 * M 163 (1117 + 8 * a) + b)) M))) 0).1))) 163 (1121 + 8 * a) ((-1))) from by rw [u_n_end, if_pos c0, if_neg c1, if_neg c2, if_pos c3, if_pos c4, if_neg c5, if_pos c9, if_pos c10, if_pos c11]) tl28 trivial
                  · skip
                    refine e_iload (k := 144) (xi154 144) rfl ?_
                    refine e_goto (k := 145) (xi154 145) ?_
                    refine e_iret (k := 149) (xi154 149) ?_
                    exact y_fW (Q := fun _ => True) (show v_n_end a b M = (l_n_end_a a b (M 163 (1121 + 8 * a)) 20 ((u_m_arrives a (M 163 (1121 + 8 * a)) b ((u_m_goes a (M 163 (970 + 12 * M 163 (1117 + 8 * a) + b)) M)))) b 0 (v_m_arrives a (M 163 (1121 + 8 * a)) b ((u_m_goes a (M 163 (970 + 12 * M 163 (1117 + 8 * a) + b)) M))) 0).2.1 from by rw [v_n_end, if_pos c0, if_neg c1, if_neg c2, if_pos c3, if_pos c4, if_neg c5, if_pos c9, if_pos c10, if_neg c11]) (show u_n_end a b M = (x_up ((u_m_streets a ((l_n_end_a a b (M 163 (1121 + 8 * a)) 20 ((u_m_arrives a (M 163 (1121 + 8 * a)) b ((u_m_goes a (M 163 (970 + 12 * M 163 (1117 + 8 * a) + b)) M)))) b 0 (v_m_arrives a (M 163 (1121 + 8 * a)) b ((u_m_goes a (M 163 (970 + 12 * M 163 (1117 + 8 * a) + b)) M))) 0).2.1) ((l_n_end_a a b (M 163 (1121 + 8 * a)) 20 ((u_m_arrives a (M 163 (1121 + 8 * a)) b ((u_m_goes a (M 163 (970 + 12 * M 163 (1117 + 8 * a) + b)) M)))) b 0 (v_m_arrives a (M 163 (1121 + 8 * a)) b ((u_m_goes a (M 163 (970 + 12 * M 163 (1117 + 8 * a) + b)) M))) 0).1))) 163 (1121 + 8 * a) ((-1))) from by rw [u_n_end, if_pos c0, if_neg c1, if_neg c2, if_pos c3, if_pos c4, if_neg c5, if_pos c9, if_pos c10, if_neg c11]) tl28 trivial
                · skip
                  refine e_aload (k := 137) (xi154 137) rfl (by decide) ?_
                  refine e_iload (k := 138) (xi154 138) rfl ?_
                  refine e_iconst (k := 139) (xi154 139) ?_
                  refine e_iconst (k := 140) (xi154 140) ?_
                  have tl29 : y_TL 1 M (x_up ((x_up ((u_m_streets a ((l_n_end_a a b (M 163 (1121 + 8 * a)) 20 ((u_m_arrives a (M 163 (1121 + 8 * a)) b ((u_m_goes a (M 163 (970 + 12 * M 163 (1117 + 8 * a) + b)) M)))) b 0 (v_m_arrives a (M 163 (1121 + 8 * a)) b ((u_m_goes a (M 163 (970 + 12 * M 163 (1117 + 8 * a) + b)) M))) 0).2.1) ((l_n_end_a a b (M 163 (1121 + 8 * a)) 20 ((u_m_arrives a (M 163 (1121 + 8 * a)) b ((u_m_goes a (M 163 (970 + 12 * M 163 (1117 + 8 * a) + b)) M)))) b 0 (v_m_arrives a (M 163 (1121 + 8 * a)) b ((u_m_goes a (M 163 (970 + 12 * M 163 (1117 + 8 * a) + b)) M))) 0).1))) 163 (1121 + 8 * a) ((-1)))) 163 (1121 + 8 * M 163 (1121 + 8 * a)) ((-1))) := tl_up tl28 (sl_aW7 (i := 1121 + 8 * M 163 (1121 + 8 * a)) (w := M 163 (1121 + 8 * a)) (by omega) (by omega) (by omega)) (nf_aW7 (i := 1121 + 8 * M 163 (1121 + 8 * a)) (w := M 163 (1121 + 8 * a)) (by omega) (by omega))
                  refine e_call (k := 141) (v := none) (h1 := (z, P, (x_up ((x_up ((u_m_streets a ((l_n_end_a a b (M 163 (1121 + 8 * a)) 20 ((u_m_arrives a (M 163 (1121 + 8 * a)) b ((u_m_goes a (M 163 (970 + 12 * M 163 (1117 + 8 * a) + b)) M)))) b 0 (v_m_arrives a (M 163 (1121 + 8 * a)) b ((u_m_goes a (M 163 (970 + 12 * M 163 (1117 + 8 * a) + b)) M))) 0).2.1) ((l_n_end_a a b (M 163 (1121 + 8 * a)) 20 ((u_m_arrives a (M 163 (1121 + 8 * a)) b ((u_m_goes a (M 163 (970 + 12 * M 163 (1117 + 8 * a) + b)) M)))) b 0 (v_m_arrives a (M 163 (1121 + 8 * a)) b ((u_m_goes a (M 163 (970 + 12 * M 163 (1117 + 8 * a) + b)) M))) 0).1))) 163 (1121 + 8 * a) ((-1)))) 163 (1121 + 8 * M 163 (1121 + 8 * a)) ((-1))))) (c1 := 0) (c2 := 0) (rest := []) (as := [.inr 162, .inl (M 163 (1121 + 8 * a)), .inl 7, .inl ((-1))]) (xi154 141) (by decide) xm130 rfl ⟨rfl, Nat.le_of_ble_eq_true rfl, by decide⟩ (Or.inr (x_okt (ok_mo hS))) (k_msets hS (M 163 (1121 + 8 * a)) 7 ((-1)) (1121 + 8 * M 163 (1121 + 8 * a)) (by omega) (by omega) (by omega)) ?_
                  refine e_iload (k := 142) (xi154 142) rfl ?_
                  refine e_z_eq (k := 143) (xi154 143) (fun c12 => ?_) (fun c12 => ?_)
                  · skip
                    refine e_iconst (k := 146) (xi154 146) ?_
                    refine e_iload (k := 147) (xi154 147) rfl ?_
                    refine e_iadd (w := 100 + (l_n_end_a a b (M 163 (1121 + 8 * a)) 20 ((u_m_arrives a (M 163 (1121 + 8 * a)) b ((u_m_goes a (M 163 (970 + 12 * M 163 (1117 + 8 * a) + b)) M)))) b 0 (v_m_arrives a (M 163 (1121 + 8 * a)) b ((u_m_goes a (M 163 (970 + 12 * M 163 (1117 + 8 * a) + b)) M))) 0).2.1) (k := 148) (xi154 148) (x_wn (by omega)) ?_
                    refine e_iret (k := 149) (xi154 149) ?_
                    exact y_fW (Q := fun _ => True) (show v_n_end a b M = 100 + (l_n_end_a a b (M 163 (1121 + 8 * a)) 20 ((u_m_arrives a (M 163 (1121 + 8 * a)) b ((u_m_goes a (M 163 (970 + 12 * M 163 (1117 + 8 * a) + b)) M)))) b 0 (v_m_arrives a (M 163 (1121 + 8 * a)) b ((u_m_goes a (M 163 (970 + 12 * M 163 (1117 + 8 * a) + b)) M))) 0).2.1 from by rw [v_n_end, if_pos c0, if_neg c1, if_neg c2, if_pos c3, if_pos c4, if_neg c5, if_pos c9, if_neg c10, if_pos c12]) (show u_n_end a b M = (x_up ((x_up ((u_m_streets a ((l_n_end_a a b (M 163 (1121 + 8 * a)) 20 ((u_m_arrives a (M 163 (1121 + 8 * a)) b ((u_m_goes a (M 163 (970 + 12 * M 163 (1117 + 8 * a) + b)) M)))) b 0 (v_m_arrives a (M 163 (1121 + 8 * a)) b ((u_m_goes a (M 163 (970 + 12 * M 163 (1117 + 8 * a) + b)) M))) 0).2.1) ((l_n_end_a a b (M 163 (1121 + 8 * a)) 20 ((u_m_arrives a (M 163 (1121 + 8 * a)) b ((u_m_goes a (M 163 (970 + 12 * M 163 (1117 + 8 * a) + b)) M)))) b 0 (v_m_arrives a (M 163 (1121 + 8 * a)) b ((u_m_goes a (M 163 (970 + 12 * M 163 (1117 + 8 * a) + b)) M))) 0).1))) 163 (1121 + 8 * a) ((-1)))) 163 (1121 + 8 * M 163 (1121 + 8 * a)) ((-1))) from by rw [u_n_end, if_pos c0, if_neg c1, if_neg c2, if_pos c3, if_pos c4, if_neg c5, if_pos c9, if_neg c10, if_pos c12]) tl29 trivial
                  · skip
                    refine e_iload (k := 144) (xi154 144) rfl ?_
                    refine e_goto (k := 145) (xi154 145) ?_
                    refine e_iret (k := 149) (xi154 149) ?_
                    exact y_fW (Q := fun _ => True) (show v_n_end a b M = (l_n_end_a a b (M 163 (1121 + 8 * a)) 20 ((u_m_arrives a (M 163 (1121 + 8 * a)) b ((u_m_goes a (M 163 (970 + 12 * M 163 (1117 + 8 * a) + b)) M)))) b 0 (v_m_arrives a (M 163 (1121 + 8 * a)) b ((u_m_goes a (M 163 (970 + 12 * M 163 (1117 + 8 * a) + b)) M))) 0).2.1 from by rw [v_n_end, if_pos c0, if_neg c1, if_neg c2, if_pos c3, if_pos c4, if_neg c5, if_pos c9, if_neg c10, if_neg c12]) (show u_n_end a b M = (x_up ((x_up ((u_m_streets a ((l_n_end_a a b (M 163 (1121 + 8 * a)) 20 ((u_m_arrives a (M 163 (1121 + 8 * a)) b ((u_m_goes a (M 163 (970 + 12 * M 163 (1117 + 8 * a) + b)) M)))) b 0 (v_m_arrives a (M 163 (1121 + 8 * a)) b ((u_m_goes a (M 163 (970 + 12 * M 163 (1117 + 8 * a) + b)) M))) 0).2.1) ((l_n_end_a a b (M 163 (1121 + 8 * a)) 20 ((u_m_arrives a (M 163 (1121 + 8 * a)) b ((u_m_goes a (M 163 (970 + 12 * M 163 (1117 + 8 * a) + b)) M)))) b 0 (v_m_arrives a (M 163 (1121 + 8 * a)) b ((u_m_goes a (M 163 (970 + 12 * M 163 (1117 + 8 * a) + b)) M))) 0).1))) 163 (1121 + 8 * a) ((-1)))) 163 (1121 + 8 * M 163 (1121 + 8 * a)) ((-1))) from by rw [u_n_end, if_pos c0, if_neg c1, if_neg c2, if_pos c3, if_pos c4, if_neg c5, if_pos c9, if_neg c10, if_neg c12]) tl29 trivial
              · skip
                refine e_aload (k := 126) (xi154 126) rfl (by decide) ?_
                refine e_iload (k := 127) (xi154 127) rfl ?_
                refine e_iload (k := 128) (xi154 128) rfl ?_
                refine e_callR (k := 129) (c1 := 0) (c2 := 0) (rest := []) (as := [.inr 162, .inl (M 163 (1121 + 8 * a)), .inl ((l_n_end_a a b (M 163 (1121 + 8 * a)) 20 ((u_m_arrives a (M 163 (1121 + 8 * a)) b ((u_m_goes a (M 163 (970 + 12 * M 163 (1117 + 8 * a) + b)) M)))) b 0 (v_m_arrives a (M 163 (1121 + 8 * a)) b ((u_m_goes a (M 163 (970 + 12 * M 163 (1117 + 8 * a) + b)) M))) 0).2.1)]) (xi154 129) (by decide) xm153 rfl ⟨rfl, Nat.le_of_ble_eq_true rfl, by decide⟩ (Or.inr (x_okt (ok_mo hS))) (k_m_streets hS tl26.1 (M 163 (1121 + 8 * a)) ((l_n_end_a a b (M 163 (1121 + 8 * a)) 20 ((u_m_arrives a (M 163 (1121 + 8 * a)) b ((u_m_goes a (M 163 (970 + 12 * M 163 (1117 + 8 * a) + b)) M)))) b 0 (v_m_arrives a (M 163 (1121 + 8 * a)) b ((u_m_goes a (M 163 (970 + 12 * M 163 (1117 + 8 * a) + b)) M))) 0).2.1)  (by omega) (by omega)) ?_
                rintro v_ h_ ⟨e30, tl31⟩
                cases e30
                have tl33 := tl_trans tl26 (tl_15 tl31)
                have n34 := tl_n5 tl31
                show x_Ev 154 130 [.inr 162, .inl (a), .inl (b), .inl (M 163 (1121 + 8 * a)), .inl ((l_n_end_a a b (M 163 (1121 + 8 * a)) 20 ((u_m_arrives a (M 163 (1121 + 8 * a)) b ((u_m_goes a (M 163 (970 + 12 * M 163 (1117 + 8 * a) + b)) M)))) b 0 (v_m_arrives a (M 163 (1121 + 8 * a)) b ((u_m_goes a (M 163 (970 + 12 * M 163 (1117 + 8 * a) + b)) M))) 0).2.1), .inl (25 + 80 * b), .inl ((l_n_end_a a b (M 163 (1121 + 8 * a)) 20 ((u_m_arrives a (M 163 (1121 + 8 * a)) b ((u_m_goes a (M 163 (970 + 12 * M 163 (1117 + 8 * a) + b)) M)))) b 0 (v_m_arrives a (M 163 (1121 + 8 * a)) b ((u_m_goes a (M 163 (970 + 12 * M 163 (1117 + 8 * a) + b)) M))) 0).2.2.1), .inl ((l_n_end_a a b (M 163 (1121 + 8 * a)) 20 ((u_m_arrives a (M 163 (1121 + 8 * a)) b ((u_m_goes a (M 163 (970 + 12 * M 163 (1117 + 8 * a) + b)) M)))) b 0 (v_m_arrives a (M 163 (1121 + 8 * a)) b ((u_m_goes a (M 163 (970 + 12 * M 163 (1117 + 8 * a) + b)) M))) 0).2.2.2.1), .inl ((l_n_end_a a b (M 163 (1121 + 8 * a)) 20 ((u_m_arrives a (M 163 (1121 + 8 * a)) b ((u_m_goes a (M 163 (970 + 12 * M 163 (1117 + 8 * a) + b)) M)))) b 0 (v_m_arrives a (M 163 (1121 + 8 * a)) b ((u_m_goes a (M 163 (970 + 12 * M 163 (1117 + 8 * a) + b)) M))) 0).2.2.2.2), x20] [] (0, 0) (z, P, (u_m_streets (M 163 (1121 + 8 * a)) ((l_n_end_a a b (M 163 (1121 + 8 * a)) 20 ((u_m_arrives a (M 163 (1121 + 8 * a)) b ((u_m_goes a (M 163 (970 + 12 * M 163 (1117 + 8 * a) + b)) M)))) b 0 (v_m_arrives a (M 163 (1121 + 8 * a)) b ((u_m_goes a (M 163 (970 + 12 * M 163 (1117 + 8 * a) + b)) M))) 0).2.1) ((u_m_streets a ((l_n_end_a a b (M 163 (1121 + 8 * a)) 20 ((u_m_arrives a (M 163 (1121 + 8 * a)) b ((u_m_goes a (M 163 (970 + 12 * M 163 (1117 + 8 * a) + b)) M)))) b 0 (v_m_arrives a (M 163 (1121 + 8 * a)) b ((u_m_goes a (M 163 (970 + 12 * M 163 (1117 + 8 * a) + b)) M))) 0).2.1) ((l_n_end_a a b (M 163 (1121 + 8 * a)) 20 ((u_m_arrives a (M 163 (1121 + 8 * a)) b ((u_m_goes a (M 163 (970 + 12 * M 163 (1117 + 8 * a) + b)) M)))) b 0 (v_m_arrives a (M 163 (1121 + 8 * a)) b ((u_m_goes a (M 163 (970 + 12 * M 163 (1117 + 8 * a) + b)) M))) 0).1))))) _
                refine e_aload (k := 130) (xi154 130) rfl (by decide) ?_
                refine e_iload (k := 131) (xi154 131) rfl ?_
                refine e_iconst (k := 132) (xi154 132) ?_
                refine e_iconst (k := 133) (xi154 133) ?_
                have tl35 : y_TL 1 M (x_up ((u_m_streets (M 163 (1121 + 8 * a)) ((l_n_end_a a b (M 163 (1121 + 8 * a)) 20 ((u_m_arrives a (M 163 (1121 + 8 * a)) b ((u_m_goes a (M 163 (970 + 12 * M 163 (1117 + 8 * a) + b)) M)))) b 0 (v_m_arrives a (M 163 (1121 + 8 * a)) b ((u_m_goes a (M 163 (970 + 12 * M 163 (1117 + 8 * a) + b)) M))) 0).2.1) ((u_m_streets a ((l_n_end_a a b (M 163 (1121 + 8 * a)) 20 ((u_m_arrives a (M 163 (1121 + 8 * a)) b ((u_m_goes a (M 163 (970 + 12 * M 163 (1117 + 8 * a) + b)) M)))) b 0 (v_m_arrives a (M 163 (1121 + 8 * a)) b ((u_m_goes a (M 163 (970 + 12 * M 163 (1117 + 8 * a) + b)) M))) 0).2.1) ((l_n_end_a a b (M 163 (1121 + 8 * a)) 20 ((u_m_arrives a (M 163 (1121 + 8 * a)) b ((u_m_goes a (M 163 (970 + 12 * M 163 (1117 + 8 * a) + b)) M)))) b 0 (v_m_arrives a (M 163 (1121 + 8 * a)) b ((u_m_goes a (M 163 (970 + 12 * M 163 (1117 + 8 * a) + b)) M))) 0).1))))) 163 (1121 + 8 * a) ((-1))) := tl_up tl33 (sl_aW7 (i := 1121 + 8 * a) (w := a) (by omega) (by omega) (by omega)) (nf_aW7 (i := 1121 + 8 * a) (w := a) (by omega) (by omega))
                refine e_call (k := 134) (v := none) (h1 := (z, P, (x_up ((u_m_streets (M 163 (1121 + 8 * a)) ((l_n_end_a a b (M 163 (1121 + 8 * a)) 20 ((u_m_arrives a (M 163 (1121 + 8 * a)) b ((u_m_goes a (M 163 (970 + 12 * M 163 (1117 + 8 * a) + b)) M)))) b 0 (v_m_arrives a (M 163 (1121 + 8 * a)) b ((u_m_goes a (M 163 (970 + 12 * M 163 (1117 + 8 * a) + b)) M))) 0).2.1) ((u_m_streets a ((l_n_end_a a b (M 163 (1121 + 8 * a)) 20 ((u_m_arrives a (M 163 (1121 + 8 * a)) b ((u_m_goes a (M 163 (970 + 12 * M 163 (1117 + 8 * a) + b)) M)))) b 0 (v_m_arrives a (M 163 (1121 + 8 * a)) b ((u_m_goes a (M 163 (970 + 12 * M 163 (1117 + 8 * a) + b)) M))) 0).2.1) ((l_n_end_a a b (M 163 (1121 + 8 * a)) 20 ((u_m_arrives a (M 163 (1121 + 8 * a)) b ((u_m_goes a (M 163 (970 + 12 * M 163 (1117 + 8 * a) + b)) M)))) b 0 (v_m_arrives a (M 163 (1121 + 8 * a)) b ((u_m_goes a (M 163 (970 + 12 * M 163 (1117 + 8 * a) + b)) M))) 0).1))))) 163 (1121 + 8 * a) ((-1))))) (c1 := 0) (c2 := 0) (rest := []) (as := [.inr 162, .inl (a), .inl 7, .inl ((-1))]) (xi154 134) (by decide) xm130 rfl ⟨rfl, Nat.le_of_ble_eq_true rfl, by decide⟩ (Or.inr (x_okt (ok_mo hS))) (k_msets hS a 7 ((-1)) (1121 + 8 * a) (by omega) (by omega) (by omega)) ?_
                refine e_iload (k := 135) (xi154 135) rfl ?_
                refine e_z_lt (k := 136) (xi154 136) (fun c13 => ?_) (fun c13 => ?_)
                · skip
                  refine e_iload (k := 142) (xi154 142) rfl ?_
                  refine e_z_eq (k := 143) (xi154 143) (fun c14 => ?_) (fun c14 => ?_)
                  · skip
                    refine e_iconst (k := 146) (xi154 146) ?_
                    refine e_iload (k := 147) (xi154 147) rfl ?_
                    refine e_iadd (w := 100 + (l_n_end_a a b (M 163 (1121 + 8 * a)) 20 ((u_m_arrives a (M 163 (1121 + 8 * a)) b ((u_m_goes a (M 163 (970 + 12 * M 163 (1117 + 8 * a) + b)) M)))) b 0 (v_m_arrives a (M 163 (1121 + 8 * a)) b ((u_m_goes a (M 163 (970 + 12 * M 163 (1117 + 8 * a) + b)) M))) 0).2.1) (k := 148) (xi154 148) (x_wn (by omega)) ?_
                    refine e_iret (k := 149) (xi154 149) ?_
                    exact y_fW (Q := fun _ => True) (show v_n_end a b M = 100 + (l_n_end_a a b (M 163 (1121 + 8 * a)) 20 ((u_m_arrives a (M 163 (1121 + 8 * a)) b ((u_m_goes a (M 163 (970 + 12 * M 163 (1117 + 8 * a) + b)) M)))) b 0 (v_m_arrives a (M 163 (1121 + 8 * a)) b ((u_m_goes a (M 163 (970 + 12 * M 163 (1117 + 8 * a) + b)) M))) 0).2.1 from by rw [v_n_end, if_pos c0, if_neg c1, if_neg c2, if_pos c3, if_pos c4, if_neg c5, if_neg c9, if_pos c13, if_pos c14]) (show u_n_end a b M = (x_up ((u_m_streets (M 163 (1121 + 8 * a)) ((l_n_end_a a b (M 163 (1121 + 8 * a)) 20 ((u_m_arrives a (M 163 (1121 + 8 * a)) b ((u_m_goes a (M 163 (970 + 12 * M 163 (1117 + 8 * a) + b)) M)))) b 0 (v_m_arrives a (M 163 (1121 + 8 * a)) b ((u_m_goes a (M 163 (970 + 12 * M 163 (1117 + 8 * a) + b)) M))) 0).2.1) ((u_m_streets a ((l_n_end_a a b (M 163 (1121 + 8 * a)) 20 ((u_m_arrives a (M 163 (1121 + 8 * a)) b ((u_m_goes a (M 163 (970 + 12 * M 163 (1117 + 8 * a) + b)) M)))) b 0 (v_m_arrives a (M 163 (1121 + 8 * a)) b ((u_m_goes a (M 163 (970 + 12 * M 163 (1117 + 8 * a) + b)) M))) 0).2.1) ((l_n_end_a a b (M 163 (1121 + 8 * a)) 20 ((u_m_arrives a (M 163 (1121 + 8 * a)) b ((u_m_goes a (M 163 (970 + 12 * M 163 (1117 + 8 * a) + b)) M)))) b 0 (v_m_arrives a (M 163 (1121 + 8 * a)) b ((u_m_goes a (M 163 (970 + 12 * M 163 (1117 + 8 * a) + b)) M))) 0).1))))) 163 (1121 + 8 * a) ((-1))) from by rw [u_n_end, if_pos c0, if_neg c1, if_neg c2, if_pos c3, if_pos c4, if_neg c5, if_neg c9, if_pos c13, if_pos c14]) tl35 trivial
                  · skip
                    refine e_iload (k := 144) (xi154 144) rfl ?_
                    refine e_goto (k := 145) (xi154 145) ?_
                    refine e_iret (k := 149) (xi154 149) ?_
                    exact y_fW (Q := fun _ => True) (show v_n_end a b M = (l_n_end_a a b (M 163 (1121 + 8 * a)) 20 ((u_m_arrives a (M 163 (1121 + 8 * a)) b ((u_m_goes a (M 163 (970 + 12 * M 163 (1117 + 8 * a) + b)) M)))) b 0 (v_m_arrives a (M 163 (1121 + 8 * a)) b ((u_m_goes a (M 163 (970 + 12 * M 163 (1117 + 8 * a) + b)) M))) 0).2.1 from by rw [v_n_end, if_pos c0, if_neg c1, if_neg c2, if_pos c3, if_pos c4, if_neg c5, if_neg c9, if_pos c13, if_neg c14]) (show u_n_end a b M = (x_up ((u_m_streets (M 163 (1121 + 8 * a)) ((l_n_end_a a b (M 163 (1121 + 8 * a)) 20 ((u_m_arrives a (M 163 (1121 + 8 * a)) b ((u_m_goes a (M 163 (970 + 12 * M 163 (1117 + 8 * a) + b)) M)))) b 0 (v_m_arrives a (M 163 (1121 + 8 * a)) b ((u_m_goes a (M 163 (970 + 12 * M 163 (1117 + 8 * a) + b)) M))) 0).2.1) ((u_m_streets a ((l_n_end_a a b (M 163 (1121 + 8 * a)) 20 ((u_m_arrives a (M 163 (1121 + 8 * a)) b ((u_m_goes a (M 163 (970 + 12 * M 163 (1117 + 8 * a) + b)) M)))) b 0 (v_m_arrives a (M 163 (1121 + 8 * a)) b ((u_m_goes a (M 163 (970 + 12 * M 163 (1117 + 8 * a) + b)) M))) 0).2.1) ((l_n_end_a a b (M 163 (1121 + 8 * a)) 20 ((u_m_arrives a (M 163 (1121 + 8 * a)) b ((u_m_goes a (M 163 (970 + 12 * M 163 (1117 + 8 * a) + b)) M)))) b 0 (v_m_arrives a (M 163 (1121 + 8 * a)) b ((u_m_goes a (M 163 (970 + 12 * M 163 (1117 + 8 * a) + b)) M))) 0).1))))) 163 (1121 + 8 * a) ((-1))) from by rw [u_n_end, if_pos c0, if_neg c1, if_neg c2, if_pos c3, if_pos c4, if_neg c5, if_neg c9, if_pos c13, if_neg c14]) tl35 trivial
                · skip
                  refine e_aload (k := 137) (xi154 137) rfl (by decide) ?_
                  refine e_iload (k := 138) (xi154 138) rfl ?_
                  refine e_iconst (k := 139) (xi154 139) ?_
                  refine e_iconst (k := 140) (xi154 140) ?_
                  have tl36 : y_TL 1 M (x_up ((x_up ((u_m_streets (M 163 (1121 + 8 * a)) ((l_n_end_a a b (M 163 (1121 + 8 * a)) 20 ((u_m_arrives a (M 163 (1121 + 8 * a)) b ((u_m_goes a (M 163 (970 + 12 * M 163 (1117 + 8 * a) + b)) M)))) b 0 (v_m_arrives a (M 163 (1121 + 8 * a)) b ((u_m_goes a (M 163 (970 + 12 * M 163 (1117 + 8 * a) + b)) M))) 0).2.1) ((u_m_streets a ((l_n_end_a a b (M 163 (1121 + 8 * a)) 20 ((u_m_arrives a (M 163 (1121 + 8 * a)) b ((u_m_goes a (M 163 (970 + 12 * M 163 (1117 + 8 * a) + b)) M)))) b 0 (v_m_arrives a (M 163 (1121 + 8 * a)) b ((u_m_goes a (M 163 (970 + 12 * M 163 (1117 + 8 * a) + b)) M))) 0).2.1) ((l_n_end_a a b (M 163 (1121 + 8 * a)) 20 ((u_m_arrives a (M 163 (1121 + 8 * a)) b ((u_m_goes a (M 163 (970 + 12 * M 163 (1117 + 8 * a) + b)) M)))) b 0 (v_m_arrives a (M 163 (1121 + 8 * a)) b ((u_m_goes a (M 163 (970 + 12 * M 163 (1117 + 8 * a) + b)) M))) 0).1))))) 163 (1121 + 8 * a) ((-1)))) 163 (1121 + 8 * M 163 (1121 + 8 * a)) ((-1))) := tl_up tl35 (sl_aW7 (i := 1121 + 8 * M 163 (1121 + 8 * a)) (w := M 163 (1121 + 8 * a)) (by omega) (by omega) (by omega)) (nf_aW7 (i := 1121 + 8 * M 163 (1121 + 8 * a)) (w := M 163 (1121 + 8 * a)) (by omega) (by omega))
                  refine e_call (k := 141) (v := none) (h1 := (z, P, (x_up ((x_up ((u_m_streets (M 163 (1121 + 8 * a)) ((l_n_end_a a b (M 163 (1121 + 8 * a)) 20 ((u_m_arrives a (M 163 (1121 + 8 * a)) b ((u_m_goes a (M 163 (970 + 12 * M 163 (1117 + 8 * a) + b)) M)))) b 0 (v_m_arrives a (M 163 (1121 + 8 * a)) b ((u_m_goes a (M 163 (970 + 12 * M 163 (1117 + 8 * a) + b)) M))) 0).2.1) ((u_m_streets a ((l_n_end_a a b (M 163 (1121 + 8 * a)) 20 ((u_m_arrives a (M 163 (1121 + 8 * a)) b ((u_m_goes a (M 163 (970 + 12 * M 163 (1117 + 8 * a) + b)) M)))) b 0 (v_m_arrives a (M 163 (1121 + 8 * a)) b ((u_m_goes a (M 163 (970 + 12 * M 163 (1117 + 8 * a) + b)) M))) 0).2.1) ((l_n_end_a a b (M 163 (1121 + 8 * a)) 20 ((u_m_arrives a (M 163 (1121 + 8 * a)) b ((u_m_goes a (M 163 (970 + 12 * M 163 (1117 + 8 * a) + b)) M)))) b 0 (v_m_arrives a (M 163 (1121 + 8 * a)) b ((u_m_goes a (M 163 (970 + 12 * M 163 (1117 + 8 * a) + b)) M))) 0).1))))) 163 (1121 + 8 * a) ((-1)))) 163 (1121 + 8 * M 163 (1121 + 8 * a)) ((-1))))) (c1 := 0) (c2 := 0) (rest := []) (as := [.inr 162, .inl (M 163 (1121 + 8 * a)), .inl 7, .inl ((-1))]) (xi154 141) (by decide) xm130 rfl ⟨rfl, Nat.le_of_ble_eq_true rfl, by decide⟩ (Or.inr (x_okt (ok_mo hS))) (k_msets hS (M 163 (1121 + 8 * a)) 7 ((-1)) (1121 + 8 * M 163 (1121 + 8 * a)) (by omega) (by omega) (by omega)) ?_
                  refine e_iload (k := 142) (xi154 142) rfl ?_
                  refine e_z_eq (k := 143) (xi154 143) (fun c15 => ?_) (fun c15 => ?_)
                  · skip
                    refine e_iconst (k := 146) (xi154 146) ?_
                    refine e_iload (k := 147) (xi154 147) rfl ?_
                    refine e_iadd (w := 100 + (l_n_end_a a b (M 163 (1121 + 8 * a)) 20 ((u_m_arrives a (M 163 (1121 + 8 * a)) b ((u_m_goes a (M 163 (970 + 12 * M 163 (1117 + 8 * a) + b)) M)))) b 0 (v_m_arrives a (M 163 (1121 + 8 * a)) b ((u_m_goes a (M 163 (970 + 12 * M 163 (1117 + 8 * a) + b)) M))) 0).2.1) (k := 148) (xi154 148) (x_wn (by omega)) ?_
                    refine e_iret (k := 149) (xi154 149) ?_
                    exact y_fW (Q := fun _ => True) (show v_n_end a b M = 100 + (l_n_end_a a b (M 163 (1121 + 8 * a)) 20 ((u_m_arrives a (M 163 (1121 + 8 * a)) b ((u_m_goes a (M 163 (970 + 12 * M 163 (1117 + 8 * a) + b)) M)))) b 0 (v_m_arrives a (M 163 (1121 + 8 * a)) b ((u_m_goes a (M 163 (970 + 12 * M 163 (1117 + 8 * a) + b)) M))) 0).2.1 from by rw [v_n_end, if_pos c0, if_neg c1, if_neg c2, if_pos c3, if_pos c4, if_neg c5, if_neg c9, if_neg c13, if_pos c15]) (show u_n_end a b M = (x_up ((x_up ((u_m_streets (M 163 (1121 + 8 * a)) ((l_n_end_a a b (M 163 (1121 + 8 * a)) 20 ((u_m_arrives a (M 163 (1121 + 8 * a)) b ((u_m_goes a (M 163 (970 + 12 * M 163 (1117 + 8 * a) + b)) M)))) b 0 (v_m_arrives a (M 163 (1121 + 8 * a)) b ((u_m_goes a (M 163 (970 + 12 * M 163 (1117 + 8 * a) + b)) M))) 0).2.1) ((u_m_streets a ((l_n_end_a a b (M 163 (1121 + 8 * a)) 20 ((u_m_arrives a (M 163 (1121 + 8 * a)) b ((u_m_goes a (M 163 (970 + 12 * M 163 (1117 + 8 * a) + b)) M)))) b 0 (v_m_arrives a (M 163 (1121 + 8 * a)) b ((u_m_goes a (M 163 (970 + 12 * M 163 (1117 + 8 * a) + b)) M))) 0).2.1) ((l_n_end_a a b (M 163 (1121 + 8 * a)) 20 ((u_m_arrives a (M 163 (1121 + 8 * a)) b ((u_m_goes a (M 163 (970 + 12 * M 163 (1117 + 8 * a) + b)) M)))) b 0 (v_m_arrives a (M 163 (1121 + 8 * a)) b ((u_m_goes a (M 163 (970 + 12 * M 163 (1117 + 8 * a) + b)) M))) 0).1))))) 163 (1121 + 8 * a) ((-1)))) 163 (1121 + 8 * M 163 (1121 + 8 * a)) ((-1))) from by rw [u_n_end, if_pos c0, if_neg c1, if_neg c2, if_pos c3, if_pos c4, if_neg c5, if_neg c9, if_neg c13, if_pos c15]) tl36 trivial
                  · skip
                    refine e_iload (k := 144) (xi154 144) rfl ?_
                    refine e_goto (k := 145) (xi154 145) ?_
                    refine e_iret (k := 149) (xi154 149) ?_
                    exact y_fW (Q := fun _ => True) (show v_n_end a b M = (l_n_end_a a b (M 163 (1121 + 8 * a)) 20 ((u_m_arrives a (M 163 (1121 + 8 * a)) b ((u_m_goes a (M 163 (970 + 12 * M 163 (1117 + 8 * a) + b)) M)))) b 0 (v_m_arrives a (M 163 (1121 + 8 * a)) b ((u_m_goes a (M 163 (970 + 12 * M 163 (1117 + 8 * a) + b)) M))) 0).2.1 from by rw [v_n_end, if_pos c0, if_neg c1, if_neg c2, if_pos c3, if_pos c4, if_neg c5, if_neg c9, if_neg c13, if_neg c15]) (show u_n_end a b M = (x_up ((x_up ((u_m_streets (M 163 (1121 + 8 * a)) ((l_n_end_a a b (M 163 (1121 + 8 * a)) 20 ((u_m_arrives a (M 163 (1121 + 8 * a)) b ((u_m_goes a (M 163 (970 + 12 * M 163 (1117 + 8 * a) + b)) M)))) b 0 (v_m_arrives a (M 163 (1121 + 8 * a)) b ((u_m_goes a (M 163 (970 + 12 * M 163 (1117 + 8 * a) + b)) M))) 0).2.1) ((u_m_streets a ((l_n_end_a a b (M 163 (1121 + 8 * a)) 20 ((u_m_arrives a (M 163 (1121 + 8 * a)) b ((u_m_goes a (M 163 (970 + 12 * M 163 (1117 + 8 * a) + b)) M)))) b 0 (v_m_arrives a (M 163 (1121 + 8 * a)) b ((u_m_goes a (M 163 (970 + 12 * M 163 (1117 + 8 * a) + b)) M))) 0).2.1) ((l_n_end_a a b (M 163 (1121 + 8 * a)) 20 ((u_m_arrives a (M 163 (1121 + 8 * a)) b ((u_m_goes a (M 163 (970 + 12 * M 163 (1117 + 8 * a) + b)) M)))) b 0 (v_m_arrives a (M 163 (1121 + 8 * a)) b ((u_m_goes a (M 163 (970 + 12 * M 163 (1117 + 8 * a) + b)) M))) 0).1))))) 163 (1121 + 8 * a) ((-1)))) 163 (1121 + 8 * M 163 (1121 + 8 * a)) ((-1))) from by rw [u_n_end, if_pos c0, if_neg c1, if_neg c2, if_pos c3, if_pos c4, if_neg c5, if_neg c9, if_neg c13, if_neg c15]) tl36 trivial
          · skip
            refine e_iconst (k := 55) (xi154 55) ?_
            refine e_goto (k := 56) (xi154 56) ?_
            refine e_istore (k := 58) (xi154 58) (Nat.le_of_ble_eq_true rfl) ?_
            show x_Ev 154 59 [.inr 162, .inl (a), .inl (b), .inl (M 163 (1121 + 8 * a)), .inl (b), .inl (25 + 80 * b), .inl 0, .inl (v_m_arrives a (M 163 (1121 + 8 * a)) b ((u_m_goes a (M 163 (970 + 12 * M 163 (1117 + 8 * a) + b)) M))), .inl 1, x_un] [] (0, 0) (z, P, (u_m_arrives a (M 163 (1121 + 8 * a)) b ((u_m_goes a (M 163 (970 + 12 * M 163 (1117 + 8 * a) + b)) M)))) _
            refine kl_n_end_a hS a b (M 163 (1121 + 8 * a))   (by omega) (by omega) (by omega) 20 _ ((u_m_arrives a (M 163 (1121 + 8 * a)) b ((u_m_goes a (M 163 (970 + 12 * M 163 (1117 + 8 * a) + b)) M)))) b 0 (v_m_arrives a (M 163 (1121 + 8 * a)) b ((u_m_goes a (M 163 (970 + 12 * M 163 (1117 + 8 * a) + b)) M))) 1 tl16 (by omega) (by omega) ?_
            intro x39 tl37 q38
            show x_Ev 154 118 [.inr 162, .inl (a), .inl (b), .inl (M 163 (1121 + 8 * a)), .inl ((l_n_end_a a b (M 163 (1121 + 8 * a)) 20 ((u_m_arrives a (M 163 (1121 + 8 * a)) b ((u_m_goes a (M 163 (970 + 12 * M 163 (1117 + 8 * a) + b)) M)))) b 0 (v_m_arrives a (M 163 (1121 + 8 * a)) b ((u_m_goes a (M 163 (970 + 12 * M 163 (1117 + 8 * a) + b)) M))) 1).2.1), .inl (25 + 80 * b), .inl ((l_n_end_a a b (M 163 (1121 + 8 * a)) 20 ((u_m_arrives a (M 163 (1121 + 8 * a)) b ((u_m_goes a (M 163 (970 + 12 * M 163 (1117 + 8 * a) + b)) M)))) b 0 (v_m_arrives a (M 163 (1121 + 8 * a)) b ((u_m_goes a (M 163 (970 + 12 * M 163 (1117 + 8 * a) + b)) M))) 1).2.2.1), .inl ((l_n_end_a a b (M 163 (1121 + 8 * a)) 20 ((u_m_arrives a (M 163 (1121 + 8 * a)) b ((u_m_goes a (M 163 (970 + 12 * M 163 (1117 + 8 * a) + b)) M)))) b 0 (v_m_arrives a (M 163 (1121 + 8 * a)) b ((u_m_goes a (M 163 (970 + 12 * M 163 (1117 + 8 * a) + b)) M))) 1).2.2.2.1), .inl ((l_n_end_a a b (M 163 (1121 + 8 * a)) 20 ((u_m_arrives a (M 163 (1121 + 8 * a)) b ((u_m_goes a (M 163 (970 + 12 * M 163 (1117 + 8 * a) + b)) M)))) b 0 (v_m_arrives a (M 163 (1121 + 8 * a)) b ((u_m_goes a (M 163 (970 + 12 * M 163 (1117 + 8 * a) + b)) M))) 1).2.2.2.2), x39] [] (0, 0) (z, P, (l_n_end_a a b (M 163 (1121 + 8 * a)) 20 ((u_m_arrives a (M 163 (1121 + 8 * a)) b ((u_m_goes a (M 163 (970 + 12 * M 163 (1117 + 8 * a) + b)) M)))) b 0 (v_m_arrives a (M 163 (1121 + 8 * a)) b ((u_m_goes a (M 163 (970 + 12 * M 163 (1117 + 8 * a) + b)) M))) 1).1) _
            refine e_iload (k := 118) (xi154 118) rfl ?_
            refine e_z_ne (k := 119) (xi154 119) (fun c16 => ?_) (fun c16 => ?_)
            · skip
              refine e_aload (k := 130) (xi154 130) rfl (by decide) ?_
              refine e_iload (k := 131) (xi154 131) rfl ?_
              refine e_iconst (k := 132) (xi154 132) ?_
              refine e_iconst (k := 133) (xi154 133) ?_
              have tl40 : y_TL 1 M (x_up ((l_n_end_a a b (M 163 (1121 + 8 * a)) 20 ((u_m_arrives a (M 163 (1121 + 8 * a)) b ((u_m_goes a (M 163 (970 + 12 * M 163 (1117 + 8 * a) + b)) M)))) b 0 (v_m_arrives a (M 163 (1121 + 8 * a)) b ((u_m_goes a (M 163 (970 + 12 * M 163 (1117 + 8 * a) + b)) M))) 1).1) 163 (1121 + 8 * a) ((-1))) := tl_up tl37 (sl_aW7 (i := 1121 + 8 * a) (w := a) (by omega) (by omega) (by omega)) (nf_aW7 (i := 1121 + 8 * a) (w := a) (by omega) (by omega))
              refine e_call (k := 134) (v := none) (h1 := (z, P, (x_up ((l_n_end_a a b (M 163 (1121 + 8 * a)) 20 ((u_m_arrives a (M 163 (1121 + 8 * a)) b ((u_m_goes a (M 163 (970 + 12 * M 163 (1117 + 8 * a) + b)) M)))) b 0 (v_m_arrives a (M 163 (1121 + 8 * a)) b ((u_m_goes a (M 163 (970 + 12 * M 163 (1117 + 8 * a) + b)) M))) 1).1) 163 (1121 + 8 * a) ((-1))))) (c1 := 0) (c2 := 0) (rest := []) (as := [.inr 162, .inl (a), .inl 7, .inl ((-1))]) (xi154 134) (by decide) xm130 rfl ⟨rfl, Nat.le_of_ble_eq_true rfl, by decide⟩ (Or.inr (x_okt (ok_mo hS))) (k_msets hS a 7 ((-1)) (1121 + 8 * a) (by omega) (by omega) (by omega)) ?_
              refine e_iload (k := 135) (xi154 135) rfl ?_
              refine e_z_lt (k := 136) (xi154 136) (fun c17 => ?_) (fun c17 => ?_)
              · skip
                refine e_iload (k := 142) (xi154 142) rfl ?_
                refine e_z_eq (k := 143) (xi154 143) (fun c18 => ?_) (fun c18 => ?_)
                · skip
                  refine e_iconst (k := 146) (xi154 146) ?_
                  refine e_iload (k := 147) (xi154 147) rfl ?_
                  refine e_iadd (w := 100 + (l_n_end_a a b (M 163 (1121 + 8 * a)) 20 ((u_m_arrives a (M 163 (1121 + 8 * a)) b ((u_m_goes a (M 163 (970 + 12 * M 163 (1117 + 8 * a) + b)) M)))) b 0 (v_m_arrives a (M 163 (1121 + 8 * a)) b ((u_m_goes a (M 163 (970 + 12 * M 163 (1117 + 8 * a) + b)) M))) 1).2.1) (k := 148) (xi154 148) (x_wn (by omega)) ?_
                  refine e_iret (k := 149) (xi154 149) ?_
                  exact y_fW (Q := fun _ => True) (show v_n_end a b M = 100 + (l_n_end_a a b (M 163 (1121 + 8 * a)) 20 ((u_m_arrives a (M 163 (1121 + 8 * a)) b ((u_m_goes a (M 163 (970 + 12 * M 163 (1117 + 8 * a) + b)) M)))) b 0 (v_m_arrives a (M 163 (1121 + 8 * a)) b ((u_m_goes a (M 163 (970 + 12 * M 163 (1117 + 8 * a) + b)) M))) 1).2.1 from by rw [v_n_end, if_pos c0, if_neg c1, if_neg c2, if_pos c3, if_neg c4, if_pos c16, if_pos c17, if_pos c18]) (show u_n_end a b M = (x_up ((l_n_end_a a b (M 163 (1121 + 8 * a)) 20 ((u_m_arrives a (M 163 (1121 + 8 * a)) b ((u_m_goes a (M 163 (970 + 12 * M 163 (1117 + 8 * a) + b)) M)))) b 0 (v_m_arrives a (M 163 (1121 + 8 * a)) b ((u_m_goes a (M 163 (970 + 12 * M 163 (1117 + 8 * a) + b)) M))) 1).1) 163 (1121 + 8 * a) ((-1))) from by rw [u_n_end, if_pos c0, if_neg c1, if_neg c2, if_pos c3, if_neg c4, if_pos c16, if_pos c17, if_pos c18]) tl40 trivial
                · skip
                  refine e_iload (k := 144) (xi154 144) rfl ?_
                  refine e_goto (k := 145) (xi154 145) ?_
                  refine e_iret (k := 149) (xi154 149) ?_
                  exact y_fW (Q := fun _ => True) (show v_n_end a b M = (l_n_end_a a b (M 163 (1121 + 8 * a)) 20 ((u_m_arrives a (M 163 (1121 + 8 * a)) b ((u_m_goes a (M 163 (970 + 12 * M 163 (1117 + 8 * a) + b)) M)))) b 0 (v_m_arrives a (M 163 (1121 + 8 * a)) b ((u_m_goes a (M 163 (970 + 12 * M 163 (1117 + 8 * a) + b)) M))) 1).2.1 from by rw [v_n_end, if_pos c0, if_neg c1, if_neg c2, if_pos c3, if_neg c4, if_pos c16, if_pos c17, if_neg c18]) (show u_n_end a b M = (x_up ((l_n_end_a a b (M 163 (1121 + 8 * a)) 20 ((u_m_arrives a (M 163 (1121 + 8 * a)) b ((u_m_goes a (M 163 (970 + 12 * M 163 (1117 + 8 * a) + b)) M)))) b 0 (v_m_arrives a (M 163 (1121 + 8 * a)) b ((u_m_goes a (M 163 (970 + 12 * M 163 (1117 + 8 * a) + b)) M))) 1).1) 163 (1121 + 8 * a) ((-1))) from by rw [u_n_end, if_pos c0, if_neg c1, if_neg c2, if_pos c3, if_neg c4, if_pos c16, if_pos c17, if_neg c18]) tl40 trivial
              · skip
                refine e_aload (k := 137) (xi154 137) rfl (by decide) ?_
                refine e_iload (k := 138) (xi154 138) rfl ?_
                refine e_iconst (k := 139) (xi154 139) ?_
                refine e_iconst (k := 140) (xi154 140) ?_
                have tl41 : y_TL 1 M (x_up ((x_up ((l_n_end_a a b (M 163 (1121 + 8 * a)) 20 ((u_m_arrives a (M 163 (1121 + 8 * a)) b ((u_m_goes a (M 163 (970 + 12 * M 163 (1117 + 8 * a) + b)) M)))) b 0 (v_m_arrives a (M 163 (1121 + 8 * a)) b ((u_m_goes a (M 163 (970 + 12 * M 163 (1117 + 8 * a) + b)) M))) 1).1) 163 (1121 + 8 * a) ((-1)))) 163 (1121 + 8 * M 163 (1121 + 8 * a)) ((-1))) := tl_up tl40 (sl_aW7 (i := 1121 + 8 * M 163 (1121 + 8 * a)) (w := M 163 (1121 + 8 * a)) (by omega) (by omega) (by omega)) (nf_aW7 (i := 1121 + 8 * M 163 (1121 + 8 * a)) (w := M 163 (1121 + 8 * a)) (by omega) (by omega))
                refine e_call (k := 141) (v := none) (h1 := (z, P, (x_up ((x_up ((l_n_end_a a b (M 163 (1121 + 8 * a)) 20 ((u_m_arrives a (M 163 (1121 + 8 * a)) b ((u_m_goes a (M 163 (970 + 12 * M 163 (1117 + 8 * a) + b)) M)))) b 0 (v_m_arrives a (M 163 (1121 + 8 * a)) b ((u_m_goes a (M 163 (970 + 12 * M 163 (1117 + 8 * a) + b)) M))) 1).1) 163 (1121 + 8 * a) ((-1)))) 163 (1121 + 8 * M 163 (1121 + 8 * a)) ((-1))))) (c1 := 0) (c2 := 0) (rest := []) (as := [.inr 162, .inl (M 163 (1121 + 8 * a)), .inl 7, .inl ((-1))]) (xi154 141) (by decide) xm130 rfl ⟨rfl, Nat.le_of_ble_eq_true rfl, by decide⟩ (Or.inr (x_okt (ok_mo hS))) (k_msets hS (M 163 (1121 + 8 * a)) 7 ((-1)) (1121 + 8 * M 163 (1121 + 8 * a)) (by omega) (by omega) (by omega)) ?_
                refine e_iload (k := 142) (xi154 142) rfl ?_
                refine e_z_eq (k := 143) (xi154 143) (fun c19 => ?_) (fun c19 => ?_)
                · skip
                  refine e_iconst (k := 146) (xi154 146) ?_
                  refine e_iload (k := 147) (xi154 147) rfl ?_
                  refine e_iadd (w := 100 + (l_n_end_a a b (M 163 (1121 + 8 * a)) 20 ((u_m_arrives a (M 163 (1121 + 8 * a)) b ((u_m_goes a (M 163 (970 + 12 * M 163 (1117 + 8 * a) + b)) M)))) b 0 (v_m_arrives a (M 163 (1121 + 8 * a)) b ((u_m_goes a (M 163 (970 + 12 * M 163 (1117 + 8 * a) + b)) M))) 1).2.1) (k := 148) (xi154 148) (x_wn (by omega)) ?_
                  refine e_iret (k := 149) (xi154 149) ?_
                  exact y_fW (Q := fun _ => True) (show v_n_end a b M = 100 + (l_n_end_a a b (M 163 (1121 + 8 * a)) 20 ((u_m_arrives a (M 163 (1121 + 8 * a)) b ((u_m_goes a (M 163 (970 + 12 * M 163 (1117 + 8 * a) + b)) M)))) b 0 (v_m_arrives a (M 163 (1121 + 8 * a)) b ((u_m_goes a (M 163 (970 + 12 * M 163 (1117 + 8 * a) + b)) M))) 1).2.1 from by rw [v_n_end, if_pos c0, if_neg c1, if_neg c2, if_pos c3, if_neg c4, if_pos c16, if_neg c17, if_pos c19]) (show u_n_end a b M = (x_up ((x_up ((l_n_end_a a b (M 163 (1121 + 8 * a)) 20 ((u_m_arrives a (M 163 (1121 + 8 * a)) b ((u_m_goes a (M 163 (970 + 12 * M 163 (1117 + 8 * a) + b)) M)))) b 0 (v_m_arrives a (M 163 (1121 + 8 * a)) b ((u_m_goes a (M 163 (970 + 12 * M 163 (1117 + 8 * a) + b)) M))) 1).1) 163 (1121 + 8 * a) ((-1)))) 163 (1121 + 8 * M 163 (1121 + 8 * a)) ((-1))) from by rw [u_n_end, if_pos c0, if_neg c1, if_neg c2, if_pos c3, if_neg c4, if_pos c16, if_neg c17, if_pos c19]) tl41 trivial
                · skip
                  refine e_iload (k := 144) (xi154 144) rfl ?_
                  refine e_goto (k := 145) (xi154 145) ?_
                  refine e_iret (k := 149) (xi154 149) ?_
                  exact y_fW (Q := fun _ => True) (show v_n_end a b M = (l_n_end_a a b (M 163 (1121 + 8 * a)) 20 ((u_m_arrives a (M 163 (1121 + 8 * a)) b ((u_m_goes a (M 163 (970 + 12 * M 163 (1117 + 8 * a) + b)) M)))) b 0 (v_m_arrives a (M 163 (1121 + 8 * a)) b ((u_m_goes a (M 163 (970 + 12 * M 163 (1117 + 8 * a) + b)) M))) 1).2.1 from by rw [v_n_end, if_pos c0, if_neg c1, if_neg c2, if_pos c3, if_neg c4, if_pos c16, if_neg c17, if_neg c19]) (show u_n_end a b M = (x_up ((x_up ((l_n_end_a a b (M 163 (1121 + 8 * a)) 20 ((u_m_arrives a (M 163 (1121 + 8 * a)) b ((u_m_goes a (M 163 (970 + 12 * M 163 (1117 + 8 * a) + b)) M)))) b 0 (v_m_arrives a (M 163 (1121 + 8 * a)) b ((u_m_goes a (M 163 (970 + 12 * M 163 (1117 + 8 * a) + b)) M))) 1).1) 163 (1121 + 8 * a) ((-1)))) 163 (1121 + 8 * M 163 (1121 + 8 * a)) ((-1))) from by rw [u_n_end, if_pos c0, if_neg c1, if_neg c2, if_pos c3, if_neg c4, if_pos c16, if_neg c17, if_neg c19]) tl41 trivial
            · skip
              refine e_aload (k := 120) (xi154 120) rfl (by decide) ?_
              refine e_iload (k := 121) (xi154 121) rfl ?_
              refine e_iload (k := 122) (xi154 122) rfl ?_
              refine e_callR (k := 123) (c1 := 0) (c2 := 0) (rest := []) (as := [.inr 162, .inl (a), .inl ((l_n_end_a a b (M 163 (1121 + 8 * a)) 20 ((u_m_arrives a (M 163 (1121 + 8 * a)) b ((u_m_goes a (M 163 (970 + 12 * M 163 (1117 + 8 * a) + b)) M)))) b 0 (v_m_arrives a (M 163 (1121 + 8 * a)) b ((u_m_goes a (M 163 (970 + 12 * M 163 (1117 + 8 * a) + b)) M))) 1).2.1)]) (xi154 123) (by decide) xm153 rfl ⟨rfl, Nat.le_of_ble_eq_true rfl, by decide⟩ (Or.inr (x_okt (ok_mo hS))) (k_m_streets hS tl37.1 a ((l_n_end_a a b (M 163 (1121 + 8 * a)) 20 ((u_m_arrives a (M 163 (1121 + 8 * a)) b ((u_m_goes a (M 163 (970 + 12 * M 163 (1117 + 8 * a) + b)) M)))) b 0 (v_m_arrives a (M 163 (1121 + 8 * a)) b ((u_m_goes a (M 163 (970 + 12 * M 163 (1117 + 8 * a) + b)) M))) 1).2.1)  (by omega) (by omega)) ?_
              rintro v_ h_ ⟨e42, tl43⟩
              cases e42
              have tl45 := tl_trans tl37 (tl_15 tl43)
              have n46 := tl_n5 tl43
              show x_Ev 154 124 [.inr 162, .inl (a), .inl (b), .inl (M 163 (1121 + 8 * a)), .inl ((l_n_end_a a b (M 163 (1121 + 8 * a)) 20 ((u_m_arrives a (M 163 (1121 + 8 * a)) b ((u_m_goes a (M 163 (970 + 12 * M 163 (1117 + 8 * a) + b)) M)))) b 0 (v_m_arrives a (M 163 (1121 + 8 * a)) b ((u_m_goes a (M 163 (970 + 12 * M 163 (1117 + 8 * a) + b)) M))) 1).2.1), .inl (25 + 80 * b), .inl ((l_n_end_a a b (M 163 (1121 + 8 * a)) 20 ((u_m_arrives a (M 163 (1121 + 8 * a)) b ((u_m_goes a (M 163 (970 + 12 * M 163 (1117 + 8 * a) + b)) M)))) b 0 (v_m_arrives a (M 163 (1121 + 8 * a)) b ((u_m_goes a (M 163 (970 + 12 * M 163 (1117 + 8 * a) + b)) M))) 1).2.2.1), .inl ((l_n_end_a a b (M 163 (1121 + 8 * a)) 20 ((u_m_arrives a (M 163 (1121 + 8 * a)) b ((u_m_goes a (M 163 (970 + 12 * M 163 (1117 + 8 * a) + b)) M)))) b 0 (v_m_arrives a (M 163 (1121 + 8 * a)) b ((u_m_goes a (M 163 (970 + 12 * M 163 (1117 + 8 * a) + b)) M))) 1).2.2.2.1), .inl ((l_n_end_a a b (M 163 (1121 + 8 * a)) 20 ((u_m_arrives a (M 163 (1121 + 8 * a)) b ((u_m_goes a (M 163 (970 + 12 * M 163 (1117 + 8 * a) + b)) M)))) b 0 (v_m_arrives a (M 163 (1121 + 8 * a)) b ((u_m_goes a (M 163 (970 + 12 * M 163 (1117 + 8 * a) + b)) M))) 1).2.2.2.2), x39] [] (0, 0) (z, P, (u_m_streets a ((l_n_end_a a b (M 163 (1121 + 8 * a)) 20 ((u_m_arrives a (M 163 (1121 + 8 * a)) b ((u_m_goes a (M 163 (970 + 12 * M 163 (1117 + 8 * a) + b)) M)))) b 0 (v_m_arrives a (M 163 (1121 + 8 * a)) b ((u_m_goes a (M 163 (970 + 12 * M 163 (1117 + 8 * a) + b)) M))) 1).2.1) ((l_n_end_a a b (M 163 (1121 + 8 * a)) 20 ((u_m_arrives a (M 163 (1121 + 8 * a)) b ((u_m_goes a (M 163 (970 + 12 * M 163 (1117 + 8 * a) + b)) M)))) b 0 (v_m_arrives a (M 163 (1121 + 8 * a)) b ((u_m_goes a (M 163 (970 + 12 * M 163 (1117 + 8 * a) + b)) M))) 1).1))) _
              refine e_iload (k := 124) (xi154 124) rfl ?_
              refine e_z_lt (k := 125) (xi154 125) (fun c20 => ?_) (fun c20 => ?_)
              · skip
                refine e_aload (k := 130) (xi154 130) rfl (by decide) ?_
                refine e_iload (k := 131) (xi154 131) rfl ?_
                refine e_iconst (k := 132) (xi154 132) ?_
                refine e_iconst (k := 133) (xi154 133) ?_
                have tl47 : y_TL 1 M (x_up ((u_m_streets a ((l_n_end_a a b (M 163 (1121 + 8 * a)) 20 ((u_m_arrives a (M 163 (1121 + 8 * a)) b ((u_m_goes a (M 163 (970 + 12 * M 163 (1117 + 8 * a) + b)) M)))) b 0 (v_m_arrives a (M 163 (1121 + 8 * a)) b ((u_m_goes a (M 163 (970 + 12 * M 163 (1117 + 8 * a) + b)) M))) 1).2.1) ((l_n_end_a a b (M 163 (1121 + 8 * a)) 20 ((u_m_arrives a (M 163 (1121 + 8 * a)) b ((u_m_goes a (M 163 (970 + 12 * M 163 (1117 + 8 * a) + b)) M)))) b 0 (v_m_arrives a (M 163 (1121 + 8 * a)) b ((u_m_goes a (M 163 (970 + 12 * M 163 (1117 + 8 * a) + b)) M))) 1).1))) 163 (1121 + 8 * a) ((-1))) := tl_up tl45 (sl_aW7 (i := 1121 + 8 * a) (w := a) (by omega) (by omega) (by omega)) (nf_aW7 (i := 1121 + 8 * a) (w := a) (by omega) (by omega))
                refine e_call (k := 134) (v := none) (h1 := (z, P, (x_up ((u_m_streets a ((l_n_end_a a b (M 163 (1121 + 8 * a)) 20 ((u_m_arrives a (M 163 (1121 + 8 * a)) b ((u_m_goes a (M 163 (970 + 12 * M 163 (1117 + 8 * a) + b)) M)))) b 0 (v_m_arrives a (M 163 (1121 + 8 * a)) b ((u_m_goes a (M 163 (970 + 12 * M 163 (1117 + 8 * a) + b)) M))) 1).2.1) ((l_n_end_a a b (M 163 (1121 + 8 * a)) 20 ((u_m_arrives a (M 163 (1121 + 8 * a)) b ((u_m_goes a (M 163 (970 + 12 * M 163 (1117 + 8 * a) + b)) M)))) b 0 (v_m_arrives a (M 163 (1121 + 8 * a)) b ((u_m_goes a (M 163 (970 + 12 * M 163 (1117 + 8 * a) + b)) M))) 1).1))) 163 (1121 + 8 * a) ((-1))))) (c1 := 0) (c2 := 0) (rest := []) (as := [.inr 162, .inl (a), .inl 7, .inl ((-1))]) (xi154 134) (by decide) xm130 rfl ⟨rfl, Nat.le_of_ble_eq_true rfl, by decide⟩ (Or.inr (x_okt (ok_mo hS))) (k_msets hS a 7 ((-1)) (1121 + 8 * a) (by omega) (by omega) (by omega)) ?_
                refine e_iload (k := 135) (xi154 135) rfl ?_
                refine e_z_lt (k := 136) (xi154 136) (fun c21 => ?_) (fun c21 => ?_)
                · skip
                  refine e_iload (k := 142) (xi154 142) rfl ?_
                  refine e_z_eq (k := 143) (xi154 143) (fun c22 => ?_) (fun c22 => ?_)
                  · skip
                    refine e_iconst (k := 146) (xi154 146) ?_
                    refine e_iload (k := 147) (xi154 147) rfl ?_
                    refine e_iadd (w := 100 + (l_n_end_a a b (M 163 (1121 + 8 * a)) 20 ((u_m_arrives a (M 163 (1121 + 8 * a)) b ((u_m_goes a (M 163 (970 + 12 * M 163 (1117 + 8 * a) + b)) M)))) b 0 (v_m_arrives a (M 163 (1121 + 8 * a)) b ((u_m_goes a (M 163 (970 + 12 * M 163 (1117 + 8 * a) + b)) M))) 1).2.1) (k := 148) (xi154 148) (x_wn (by omega)) ?_
                    refine e_iret (k := 149) (xi154 149) ?_
                    exact y_fW (Q := fun _ => True) (show v_n_end a b M = 100 + (l_n_end_a a b (M 163 (1121 + 8 * a)) 20 ((u_m_arrives a (M 163 (1121 + 8 * a)) b ((u_m_goes a (M 163 (970 + 12 * M 163 (1117 + 8 * a) + b)) M)))) b 0 (v_m_arrives a (M 163 (1121 + 8 * a)) b ((u_m_goes a (M 163 (970 + 12 * M 163 (1117 + 8 * a) + b)) M))) 1).2.1 from by rw [v_n_end, if_pos c0, if_neg c1, if_neg c2, if_pos c3, if_neg c4, if_neg c16, if_pos c20, if_pos c21, if_pos c22]) (show u_n_end a b M = (x_up ((u_m_streets a ((l_n_end_a a b (M 163 (1121 + 8 * a)) 20 ((u_m_arrives a (M 163 (1121 + 8 * a)) b ((u_m_goes a (M 163 (970 + 12 * M 163 (1117 + 8 * a) + b)) M)))) b 0 (v_m_arrives a (M 163 (1121 + 8 * a)) b ((u_m_goes a (M 163 (970 + 12 * M 163 (1117 + 8 * a) + b)) M))) 1).2.1) ((l_n_end_a a b (M 163 (1121 + 8 * a)) 20 ((u_m_arrives a (M 163 (1121 + 8 * a)) b ((u_m_goes a (M 163 (970 + 12 * M 163 (1117 + 8 * a) + b)) M)))) b 0 (v_m_arrives a (M 163 (1121 + 8 * a)) b ((u_m_goes a (M 163 (970 + 12 * M 163 (1117 + 8 * a) + b)) M))) 1).1))) 163 (1121 + 8 * a) ((-1))) from by rw [u_n_end, if_pos c0, if_neg c1, if_neg c2, if_pos c3, if_neg c4, if_neg c16, if_pos c20, if_pos c21, if_pos c22]) tl47 trivial
                  · skip
                    refine e_iload (k := 144) (xi154 144) rfl ?_
                    refine e_goto (k := 145) (xi154 145) ?_
                    refine e_iret (k := 149) (xi154 149) ?_
                    exact y_fW (Q := fun _ => True) (show v_n_end a b M = (l_n_end_a a b (M 163 (1121 + 8 * a)) 20 ((u_m_arrives a (M 163 (1121 + 8 * a)) b ((u_m_goes a (M 163 (970 + 12 * M 163 (1117 + 8 * a) + b)) M)))) b 0 (v_m_arrives a (M 163 (1121 + 8 * a)) b ((u_m_goes a (M 163 (970 + 12 * M 163 (1117 + 8 * a) + b)) M))) 1).2.1 from by rw [v_n_end, if_pos c0, if_neg c1, if_neg c2, if_pos c3, if_neg c4, if_neg c16, if_pos c20, if_pos c21, if_neg c22]) (show u_n_end a b M = (x_up ((u_m_streets a ((l_n_end_a a b (M 163 (1121 + 8 * a)) 20 ((u_m_arrives a (M 163 (1121 + 8 * a)) b ((u_m_goes a (M 163 (970 + 12 * M 163 (1117 + 8 * a) + b)) M)))) b 0 (v_m_arrives a (M 163 (1121 + 8 * a)) b ((u_m_goes a (M 163 (970 + 12 * M 163 (1117 + 8 * a) + b)) M))) 1).2.1) ((l_n_end_a a b (M 163 (1121 + 8 * a)) 20 ((u_m_arrives a (M 163 (1121 + 8 * a)) b ((u_m_goes a (M 163 (970 + 12 * M 163 (1117 + 8 * a) + b)) M)))) b 0 (v_m_arrives a (M 163 (1121 + 8 * a)) b ((u_m_goes a (M 163 (970 + 12 * M 163 (1117 + 8 * a) + b)) M))) 1).1))) 163 (1121 + 8 * a) ((-1))) from by rw [u_n_end, if_pos c0, if_neg c1, if_neg c2, if_pos c3, if_neg c4, if_neg c16, if_pos c20, if_pos c21, if_neg c22]) tl47 trivial
                · skip
                  refine e_aload (k := 137) (xi154 137) rfl (by decide) ?_
                  refine e_iload (k := 138) (xi154 138) rfl ?_
                  refine e_iconst (k := 139) (xi154 139) ?_
                  refine e_iconst (k := 140) (xi154 140) ?_
                  have tl48 : y_TL 1 M (x_up ((x_up ((u_m_streets a ((l_n_end_a a b (M 163 (1121 + 8 * a)) 20 ((u_m_arrives a (M 163 (1121 + 8 * a)) b ((u_m_goes a (M 163 (970 + 12 * M 163 (1117 + 8 * a) + b)) M)))) b 0 (v_m_arrives a (M 163 (1121 + 8 * a)) b ((u_m_goes a (M 163 (970 + 12 * M 163 (1117 + 8 * a) + b)) M))) 1).2.1) ((l_n_end_a a b (M 163 (1121 + 8 * a)) 20 ((u_m_arrives a (M 163 (1121 + 8 * a)) b ((u_m_goes a (M 163 (970 + 12 * M 163 (1117 + 8 * a) + b)) M)))) b 0 (v_m_arrives a (M 163 (1121 + 8 * a)) b ((u_m_goes a (M 163 (970 + 12 * M 163 (1117 + 8 * a) + b)) M))) 1).1))) 163 (1121 + 8 * a) ((-1)))) 163 (1121 + 8 * M 163 (1121 + 8 * a)) ((-1))) := tl_up tl47 (sl_aW7 (i := 1121 + 8 * M 163 (1121 + 8 * a)) (w := M 163 (1121 + 8 * a)) (by omega) (by omega) (by omega)) (nf_aW7 (i := 1121 + 8 * M 163 (1121 + 8 * a)) (w := M 163 (1121 + 8 * a)) (by omega) (by omega))
                  refine e_call (k := 141) (v := none) (h1 := (z, P, (x_up ((x_up ((u_m_streets a ((l_n_end_a a b (M 163 (1121 + 8 * a)) 20 ((u_m_arrives a (M 163 (1121 + 8 * a)) b ((u_m_goes a (M 163 (970 + 12 * M 163 (1117 + 8 * a) + b)) M)))) b 0 (v_m_arrives a (M 163 (1121 + 8 * a)) b ((u_m_goes a (M 163 (970 + 12 * M 163 (1117 + 8 * a) + b)) M))) 1).2.1) ((l_n_end_a a b (M 163 (1121 + 8 * a)) 20 ((u_m_arrives a (M 163 (1121 + 8 * a)) b ((u_m_goes a (M 163 (970 + 12 * M 163 (1117 + 8 * a) + b)) M)))) b 0 (v_m_arrives a (M 163 (1121 + 8 * a)) b ((u_m_goes a (M 163 (970 + 12 * M 163 (1117 + 8 * a) + b)) M))) 1).1))) 163 (1121 + 8 * a) ((-1)))) 163 (1121 + 8 * M 163 (1121 + 8 * a)) ((-1))))) (c1 := 0) (c2 := 0) (rest := []) (as := [.inr 162, .inl (M 163 (1121 + 8 * a)), .inl 7, .inl ((-1))]) (xi154 141) (by decide) xm130 rfl ⟨rfl, Nat.le_of_ble_eq_true rfl, by decide⟩ (Or.inr (x_okt (ok_mo hS))) (k_msets hS (M 163 (1121 + 8 * a)) 7 ((-1)) (1121 + 8 * M 163 (1121 + 8 * a)) (by omega) (by omega) (by omega)) ?_
                  refine e_iload (k := 142) (xi154 142) rfl ?_
                  refine e_z_eq (k := 143) (xi154 143) (fun c23 => ?_) (fun c23 => ?_)
                  · skip
                    refine e_iconst (k := 146) (xi154 146) ?_
                    refine e_iload (k := 147) (xi154 147) rfl ?_
                    refine e_iadd (w := 100 + (l_n_end_a a b (M 163 (1121 + 8 * a)) 20 ((u_m_arrives a (M 163 (1121 + 8 * a)) b ((u_m_goes a (M 163 (970 + 12 * M 163 (1117 + 8 * a) + b)) M)))) b 0 (v_m_arrives a (M 163 (1121 + 8 * a)) b ((u_m_goes a (M 163 (970 + 12 * M 163 (1117 + 8 * a) + b)) M))) 1).2.1) (k := 148) (xi154 148) (x_wn (by omega)) ?_
                    refine e_iret (k := 149) (xi154 149) ?_
                    exact y_fW (Q := fun _ => True) (show v_n_end a b M = 100 + (l_n_end_a a b (M 163 (1121 + 8 * a)) 20 ((u_m_arrives a (M 163 (1121 + 8 * a)) b ((u_m_goes a (M 163 (970 + 12 * M 163 (1117 + 8 * a) + b)) M)))) b 0 (v_m_arrives a (M 163 (1121 + 8 * a)) b ((u_m_goes a (M 163 (970 + 12 * M 163 (1117 + 8 * a) + b)) M))) 1).2.1 from by rw [v_n_end, if_pos c0, if_neg c1, if_neg c2, if_pos c3, if_neg c4, if_neg c16, if_pos c20, if_neg c21, if_pos c23]) (show u_n_end a b M = (x_up ((x_up ((u_m_streets a ((l_n_end_a a b (M 163 (1121 + 8 * a)) 20 ((u_m_arrives a (M 163 (1121 + 8 * a)) b ((u_m_goes a (M 163 (970 + 12 * M 163 (1117 + 8 * a) + b)) M)))) b 0 (v_m_arrives a (M 163 (1121 + 8 * a)) b ((u_m_goes a (M 163 (970 + 12 * M 163 (1117 + 8 * a) + b)) M))) 1).2.1) ((l_n_end_a a b (M 163 (1121 + 8 * a)) 20 ((u_m_arrives a (M 163 (1121 + 8 * a)) b ((u_m_goes a (M 163 (970 + 12 * M 163 (1117 + 8 * a) + b)) M)))) b 0 (v_m_arrives a (M 163 (1121 + 8 * a)) b ((u_m_goes a (M 163 (970 + 12 * M 163 (1117 + 8 * a) + b)) M))) 1).1))) 163 (1121 + 8 * a) ((-1)))) 163 (1121 + 8 * M 163 (1121 + 8 * a)) ((-1))) from by rw [u_n_end, if_pos c0, if_neg c1, if_neg c2, if_pos c3, if_neg c4, if_neg c16, if_pos c20, if_neg c21, if_pos c23]) tl48 trivial
                  · skip
                    refine e_iload (k := 144) (xi154 144) rfl ?_
                    refine e_goto (k := 145) (xi154 145) ?_
                    refine e_iret (k := 149) (xi154 149) ?_
                    exact y_fW (Q := fun _ => True) (show v_n_end a b M = (l_n_end_a a b (M 163 (1121 + 8 * a)) 20 ((u_m_arrives a (M 163 (1121 + 8 * a)) b ((u_m_goes a (M 163 (970 + 12 * M 163 (1117 + 8 * a) + b)) M)))) b 0 (v_m_arrives a (M 163 (1121 + 8 * a)) b ((u_m_goes a (M 163 (970 + 12 * M 163 (1117 + 8 * a) + b)) M))) 1).2.1 from by rw [v_n_end, if_pos c0, if_neg c1, if_neg c2, if_pos c3, if_neg c4, if_neg c16, if_pos c20, if_neg c21, if_neg c23]) (show u_n_end a b M = (x_up ((x_up ((u_m_streets a ((l_n_end_a a b (M 163 (1121 + 8 * a)) 20 ((u_m_arrives a (M 163 (1121 + 8 * a)) b ((u_m_goes a (M 163 (970 + 12 * M 163 (1117 + 8 * a) + b)) M)))) b 0 (v_m_arrives a (M 163 (1121 + 8 * a)) b ((u_m_goes a (M 163 (970 + 12 * M 163 (1117 + 8 * a) + b)) M))) 1).2.1) ((l_n_end_a a b (M 163 (1121 + 8 * a)) 20 ((u_m_arrives a (M 163 (1121 + 8 * a)) b ((u_m_goes a (M 163 (970 + 12 * M 163 (1117 + 8 * a) + b)) M)))) b 0 (v_m_arrives a (M 163 (1121 + 8 * a)) b ((u_m_goes a (M 163 (970 + 12 * M 163 (1117 + 8 * a) + b)) M))) 1).1))) 163 (1121 + 8 * a) ((-1)))) 163 (1121 + 8 * M 163 (1121 + 8 * a)) ((-1))) from by rw [u_n_end, if_pos c0, if_neg c1, if_neg c2, if_pos c3, if_neg c4, if_neg c16, if_pos c20, if_neg c21, if_neg c23]) tl48 trivial
              · skip
                refine e_aload (k := 126) (xi154 126) rfl (by decide) ?_
                refine e_iload (k := 127) (xi154 127) rfl ?_
                refine e_iload (k := 128) (xi154 128) rfl ?_
                refine e_callR (k := 129) (c1 := 0) (c2 := 0) (rest := []) (as := [.inr 162, .inl (M 163 (1121 + 8 * a)), .inl ((l_n_end_a a b (M 163 (1121 + 8 * a)) 20 ((u_m_arrives a (M 163 (1121 + 8 * a)) b ((u_m_goes a (M 163 (970 + 12 * M 163 (1117 + 8 * a) + b)) M)))) b 0 (v_m_arrives a (M 163 (1121 + 8 * a)) b ((u_m_goes a (M 163 (970 + 12 * M 163 (1117 + 8 * a) + b)) M))) 1).2.1)]) (xi154 129) (by decide) xm153 rfl ⟨rfl, Nat.le_of_ble_eq_true rfl, by decide⟩ (Or.inr (x_okt (ok_mo hS))) (k_m_streets hS tl45.1 (M 163 (1121 + 8 * a)) ((l_n_end_a a b (M 163 (1121 + 8 * a)) 20 ((u_m_arrives a (M 163 (1121 + 8 * a)) b ((u_m_goes a (M 163 (970 + 12 * M 163 (1117 + 8 * a) + b)) M)))) b 0 (v_m_arrives a (M 163 (1121 + 8 * a)) b ((u_m_goes a (M 163 (970 + 12 * M 163 (1117 + 8 * a) + b)) M))) 1).2.1)  (by omega) (by omega)) ?_
                rintro v_ h_ ⟨e49, tl50⟩
                cases e49
                have tl52 := tl_trans tl45 (tl_15 tl50)
                have n53 := tl_n5 tl50
                show x_Ev 154 130 [.inr 162, .inl (a), .inl (b), .inl (M 163 (1121 + 8 * a)), .inl ((l_n_end_a a b (M 163 (1121 + 8 * a)) 20 ((u_m_arrives a (M 163 (1121 + 8 * a)) b ((u_m_goes a (M 163 (970 + 12 * M 163 (1117 + 8 * a) + b)) M)))) b 0 (v_m_arrives a (M 163 (1121 + 8 * a)) b ((u_m_goes a (M 163 (970 + 12 * M 163 (1117 + 8 * a) + b)) M))) 1).2.1), .inl (25 + 80 * b), .inl ((l_n_end_a a b (M 163 (1121 + 8 * a)) 20 ((u_m_arrives a (M 163 (1121 + 8 * a)) b ((u_m_goes a (M 163 (970 + 12 * M 163 (1117 + 8 * a) + b)) M)))) b 0 (v_m_arrives a (M 163 (1121 + 8 * a)) b ((u_m_goes a (M 163 (970 + 12 * M 163 (1117 + 8 * a) + b)) M))) 1).2.2.1), .inl ((l_n_end_a a b (M 163 (1121 + 8 * a)) 20 ((u_m_arrives a (M 163 (1121 + 8 * a)) b ((u_m_goes a (M 163 (970 + 12 * M 163 (1117 + 8 * a) + b)) M)))) b 0 (v_m_arrives a (M 163 (1121 + 8 * a)) b ((u_m_goes a (M 163 (970 + 12 * M 163 (1117 + 8 * a) + b)) M))) 1).2.2.2.1), .inl ((l_n_end_a a b (M 163 (1121 + 8 * a)) 20 ((u_m_arrives a (M 163 (1121 + 8 * a)) b ((u_m_goes a (M 163 (970 + 12 * M 163 (1117 + 8 * a) + b)) M)))) b 0 (v_m_arrives a (M 163 (1121 + 8 * a)) b ((u_m_goes a (M 163 (970 + 12 * M 163 (1117 + 8 * a) + b)) M))) 1).2.2.2.2), x39] [] (0, 0) (z, P, (u_m_streets (M 163 (1121 + 8 * a)) ((l_n_end_a a b (M 163 (1121 + 8 * a)) 20 ((u_m_arrives a (M 163 (1121 + 8 * a)) b ((u_m_goes a (M 163 (970 + 12 * M 163 (1117 + 8 * a) + b)) M)))) b 0 (v_m_arrives a (M 163 (1121 + 8 * a)) b ((u_m_goes a (M 163 (970 + 12 * M 163 (1117 + 8 * a) + b)) M))) 1).2.1) ((u_m_streets a ((l_n_end_a a b (M 163 (1121 + 8 * a)) 20 ((u_m_arrives a (M 163 (1121 + 8 * a)) b ((u_m_goes a (M 163 (970 + 12 * M 163 (1117 + 8 * a) + b)) M)))) b 0 (v_m_arrives a (M 163 (1121 + 8 * a)) b ((u_m_goes a (M 163 (970 + 12 * M 163 (1117 + 8 * a) + b)) M))) 1).2.1) ((l_n_end_a a b (M 163 (1121 + 8 * a)) 20 ((u_m_arrives a (M 163 (1121 + 8 * a)) b ((u_m_goes a (M 163 (970 + 12 * M 163 (1117 + 8 * a) + b)) M)))) b 0 (v_m_arrives a (M 163 (1121 + 8 * a)) b ((u_m_goes a (M 163 (970 + 12 * M 163 (1117 + 8 * a) + b)) M))) 1).1))))) _
                refine e_aload (k := 130) (xi154 130) rfl (by decide) ?_
                refine e_iload (k := 131) (xi154 131) rfl ?_
                refine e_iconst (k := 132) (xi154 132) ?_
                refine e_iconst (k := 133) (xi154 133) ?_
                have tl54 : y_TL 1 M (x_up ((u_m_streets (M 163 (1121 + 8 * a)) ((l_n_end_a a b (M 163 (1121 + 8 * a)) 20 ((u_m_arrives a (M 163 (1121 + 8 * a)) b ((u_m_goes a (M 163 (970 + 12 * M 163 (1117 + 8 * a) + b)) M)))) b 0 (v_m_arrives a (M 163 (1121 + 8 * a)) b ((u_m_goes a (M 163 (970 + 12 * M 163 (1117 + 8 * a) + b)) M))) 1).2.1) ((u_m_streets a ((l_n_end_a a b (M 163 (1121 + 8 * a)) 20 ((u_m_arrives a (M 163 (1121 + 8 * a)) b ((u_m_goes a (M 163 (970 + 12 * M 163 (1117 + 8 * a) + b)) M)))) b 0 (v_m_arrives a (M 163 (1121 + 8 * a)) b ((u_m_goes a (M 163 (970 + 12 * M 163 (1117 + 8 * a) + b)) M))) 1).2.1) ((l_n_end_a a b (M 163 (1121 + 8 * a)) 20 ((u_m_arrives a (M 163 (1121 + 8 * a)) b ((u_m_goes a (M 163 (970 + 12 * M 163 (1117 + 8 * a) + b)) M)))) b 0 (v_m_arrives a (M 163 (1121 + 8 * a)) b ((u_m_goes a (M 163 (970 + 12 * M 163 (1117 + 8 * a) + b)) M))) 1).1))))) 163 (1121 + 8 * a) ((-1))) := tl_up tl52 (sl_aW7 (i := 1121 + 8 * a) (w := a) (by omega) (by omega) (by omega)) (nf_aW7 (i := 1121 + 8 * a) (w := a) (by omega) (by omega))
                refine e_call (k := 134) (v := none) (h1 := (z, P, (x_up ((u_m_streets (M 163 (1121 + 8 * a)) ((l_n_end_a a b (M 163 (1121 + 8 * a)) 20 ((u_m_arrives a (M 163 (1121 + 8 * a)) b ((u_m_goes a (M 163 (970 + 12 * M 163 (1117 + 8 * a) + b)) M)))) b 0 (v_m_arrives a (M 163 (1121 + 8 * a)) b ((u_m_goes a (M 163 (970 + 12 * M 163 (1117 + 8 * a) + b)) M))) 1).2.1) ((u_m_streets a ((l_n_end_a a b (M 163 (1121 + 8 * a)) 20 ((u_m_arrives a (M 163 (1121 + 8 * a)) b ((u_m_goes a (M 163 (970 + 12 * M 163 (1117 + 8 * a) + b)) M)))) b 0 (v_m_arrives a (M 163 (1121 + 8 * a)) b ((u_m_goes a (M 163 (970 + 12 * M 163 (1117 + 8 * a) + b)) M))) 1).2.1) ((l_n_end_a a b (M 163 (1121 + 8 * a)) 20 ((u_m_arrives a (M 163 (1121 + 8 * a)) b ((u_m_goes a (M 163 (970 + 12 * M 163 (1117 + 8 * a) + b)) M)))) b 0 (v_m_arrives a (M 163 (1121 + 8 * a)) b ((u_m_goes a (M 163 (970 + 12 * M 163 (1117 + 8 * a) + b)) M))) 1).1))))) 163 (1121 + 8 * a) ((-1))))) (c1 := 0) (c2 := 0) (rest := []) (as := [.inr 162, .inl (a), .inl 7, .inl ((-1))]) (xi154 134) (by decide) xm130 rfl ⟨rfl, Nat.le_of_ble_eq_true rfl, by decide⟩ (Or.inr (x_okt (ok_mo hS))) (k_msets hS a 7 ((-1)) (1121 + 8 * a) (by omega) (by omega) (by omega)) ?_
                refine e_iload (k := 135) (xi154 135) rfl ?_
                refine e_z_lt (k := 136) (xi154 136) (fun c24 => ?_) (fun c24 => ?_)
                · skip
                  refine e_iload (k := 142) (xi154 142) rfl ?_
                  refine e_z_eq (k := 143) (xi154 143) (fun c25 => ?_) (fun c25 => ?_)
                  · skip
                    refine e_iconst (k := 146) (xi154 146) ?_
                    refine e_iload (k := 147) (xi154 147) rfl ?_
                    refine e_iadd (w := 100 + (l_n_end_a a b (M 163 (1121 + 8 * a)) 20 ((u_m_arrives a (M 163 (1121 + 8 * a)) b ((u_m_goes a (M 163 (970 + 12 * M 163 (1117 + 8 * a) + b)) M)))) b 0 (v_m_arrives a (M 163 (1121 + 8 * a)) b ((u_m_goes a (M 163 (970 + 12 * M 163 (1117 + 8 * a) + b)) M))) 1).2.1) (k := 148) (xi154 148) (x_wn (by omega)) ?_
                    refine e_iret (k := 149) (xi154 149) ?_
                    exact y_fW (Q := fun _ => True) (show v_n_end a b M = 100 + (l_n_end_a a b (M 163 (1121 + 8 * a)) 20 ((u_m_arrives a (M 163 (1121 + 8 * a)) b ((u_m_goes a (M 163 (970 + 12 * M 163 (1117 + 8 * a) + b)) M)))) b 0 (v_m_arrives a (M 163 (1121 + 8 * a)) b ((u_m_goes a (M 163 (970 + 12 * M 163 (1117 + 8 * a) + b)) M))) 1).2.1 from by rw [v_n_end, if_pos c0, if_neg c1, if_neg c2, if_pos c3, if_neg c4, if_neg c16, if_neg c20, if_pos c24, if_pos c25]) (show u_n_end a b M = (x_up ((u_m_streets (M 163 (1121 + 8 * a)) ((l_n_end_a a b (M 163 (1121 + 8 * a)) 20 ((u_m_arrives a (M 163 (1121 + 8 * a)) b ((u_m_goes a (M 163 (970 + 12 * M 163 (1117 + 8 * a) + b)) M)))) b 0 (v_m_arrives a (M 163 (1121 + 8 * a)) b ((u_m_goes a (M 163 (970 + 12 * M 163 (1117 + 8 * a) + b)) M))) 1).2.1) ((u_m_streets a ((l_n_end_a a b (M 163 (1121 + 8 * a)) 20 ((u_m_arrives a (M 163 (1121 + 8 * a)) b ((u_m_goes a (M 163 (970 + 12 * M 163 (1117 + 8 * a) + b)) M)))) b 0 (v_m_arrives a (M 163 (1121 + 8 * a)) b ((u_m_goes a (M 163 (970 + 12 * M 163 (1117 + 8 * a) + b)) M))) 1).2.1) ((l_n_end_a a b (M 163 (1121 + 8 * a)) 20 ((u_m_arrives a (M 163 (1121 + 8 * a)) b ((u_m_goes a (M 163 (970 + 12 * M 163 (1117 + 8 * a) + b)) M)))) b 0 (v_m_arrives a (M 163 (1121 + 8 * a)) b ((u_m_goes a (M 163 (970 + 12 * M 163 (1117 + 8 * a) + b)) M))) 1).1))))) 163 (1121 + 8 * a) ((-1))) from by rw [u_n_end, if_pos c0, if_neg c1, if_neg c2, if_pos c3, if_neg c4, if_neg c16, if_neg c20, if_pos c24, if_pos c25]) tl54 trivial
                  · skip
                    refine e_iload (k := 144) (xi154 144) rfl ?_
                    refine e_goto (k := 145) (xi154 145) ?_
                    refine e_iret (k := 149) (xi154 149) ?_
                    exact y_fW (Q := fun _ => True) (show v_n_end a b M = (l_n_end_a a b (M 163 (1121 + 8 * a)) 20 ((u_m_arrives a (M 163 (1121 + 8 * a)) b ((u_m_goes a (M 163 (970 + 12 * M 163 (1117 + 8 * a) + b)) M)))) b 0 (v_m_arrives a (M 163 (1121 + 8 * a)) b ((u_m_goes a (M 163 (970 + 12 * M 163 (1117 + 8 * a) + b)) M))) 1).2.1 from by rw [v_n_end, if_pos c0, if_neg c1, if_neg c2, if_pos c3, if_neg c4, if_neg c16, if_neg c20, if_pos c24, if_neg c25]) (show u_n_end a b M = (x_up ((u_m_streets (M 163 (1121 + 8 * a)) ((l_n_end_a a b (M 163 (1121 + 8 * a)) 20 ((u_m_arrives a (M 163 (1121 + 8 * a)) b ((u_m_goes a (M 163 (970 + 12 * M 163 (1117 + 8 * a) + b)) M)))) b 0 (v_m_arrives a (M 163 (1121 + 8 * a)) b ((u_m_goes a (M 163 (970 + 12 * M 163 (1117 + 8 * a) + b)) M))) 1).2.1) ((u_m_streets a ((l_n_end_a a b (M 163 (1121 + 8 * a)) 20 ((u_m_arrives a (M 163 (1121 + 8 * a)) b ((u_m_goes a (M 163 (970 + 12 * M 163 (1117 + 8 * a) + b)) M)))) b 0 (v_m_arrives a (M 163 (1121 + 8 * a)) b ((u_m_goes a (M 163 (970 + 12 * M 163 (1117 + 8 * a) + b)) M))) 1).2.1) ((l_n_end_a a b (M 163 (1121 + 8 * a)) 20 ((u_m_arrives a (M 163 (1121 + 8 * a)) b ((u_m_goes a (M 163 (970 + 12 * M 163 (1117 + 8 * a) + b)) M)))) b 0 (v_m_arrives a (M 163 (1121 + 8 * a)) b ((u_m_goes a (M 163 (970 + 12 * M 163 (1117 + 8 * a) + b)) M))) 1).1))))) 163 (1121 + 8 * a) ((-1))) from by rw [u_n_end, if_pos c0, if_neg c1, if_neg c2, if_pos c3, if_neg c4, if_neg c16, if_neg c20, if_pos c24, if_neg c25]) tl54 trivial
                · skip
                  refine e_aload (k := 137) (xi154 137) rfl (by decide) ?_
                  refine e_iload (k := 138) (xi154 138) rfl ?_
                  refine e_iconst (k := 139) (xi154 139) ?_
                  refine e_iconst (k := 140) (xi154 140) ?_
                  have tl55 : y_TL 1 M (x_up ((x_up ((u_m_streets (M 163 (1121 + 8 * a)) ((l_n_end_a a b (M 163 (1121 + 8 * a)) 20 ((u_m_arrives a (M 163 (1121 + 8 * a)) b ((u_m_goes a (M 163 (970 + 12 * M 163 (1117 + 8 * a) + b)) M)))) b 0 (v_m_arrives a (M 163 (1121 + 8 * a)) b ((u_m_goes a (M 163 (970 + 12 * M 163 (1117 + 8 * a) + b)) M))) 1).2.1) ((u_m_streets a ((l_n_end_a a b (M 163 (1121 + 8 * a)) 20 ((u_m_arrives a (M 163 (1121 + 8 * a)) b ((u_m_goes a (M 163 (970 + 12 * M 163 (1117 + 8 * a) + b)) M)))) b 0 (v_m_arrives a (M 163 (1121 + 8 * a)) b ((u_m_goes a (M 163 (970 + 12 * M 163 (1117 + 8 * a) + b)) M))) 1).2.1) ((l_n_end_a a b (M 163 (1121 + 8 * a)) 20 ((u_m_arrives a (M 163 (1121 + 8 * a)) b ((u_m_goes a (M 163 (970 + 12 * M 163 (1117 + 8 * a) + b)) M)))) b 0 (v_m_arrives a (M 163 (1121 + 8 * a)) b ((u_m_goes a (M 163 (970 + 12 * M 163 (1117 + 8 * a) + b)) M))) 1).1))))) 163 (1121 + 8 * a) ((-1)))) 163 (1121 + 8 * M 163 (1121 + 8 * a)) ((-1))) := tl_up tl54 (sl_aW7 (i := 1121 + 8 * M 163 (1121 + 8 * a)) (w := M 163 (1121 + 8 * a)) (by omega) (by omega) (by omega)) (nf_aW7 (i := 1121 + 8 * M 163 (1121 + 8 * a)) (w := M 163 (1121 + 8 * a)) (by omega) (by omega))
                  refine e_call (k := 141) (v := none) (h1 := (z, P, (x_up ((x_up ((u_m_streets (M 163 (1121 + 8 * a)) ((l_n_end_a a b (M 163 (1121 + 8 * a)) 20 ((u_m_arrives a (M 163 (1121 + 8 * a)) b ((u_m_goes a (M 163 (970 + 12 * M 163 (1117 + 8 * a) + b)) M)))) b 0 (v_m_arrives a (M 163 (1121 + 8 * a)) b ((u_m_goes a (M 163 (970 + 12 * M 163 (1117 + 8 * a) + b)) M))) 1).2.1) ((u_m_streets a ((l_n_end_a a b (M 163 (1121 + 8 * a)) 20 ((u_m_arrives a (M 163 (1121 + 8 * a)) b ((u_m_goes a (M 163 (970 + 12 * M 163 (1117 + 8 * a) + b)) M)))) b 0 (v_m_arrives a (M 163 (1121 + 8 * a)) b ((u_m_goes a (M 163 (970 + 12 * M 163 (1117 + 8 * a) + b)) M))) 1).2.1) ((l_n_end_a a b (M 163 (1121 + 8 * a)) 20 ((u_m_arrives a (M 163 (1121 + 8 * a)) b ((u_m_goes a (M 163 (970 + 12 * M 163 (1117 + 8 * a) + b)) M)))) b 0 (v_m_arrives a (M 163 (1121 + 8 * a)) b ((u_m_goes a (M 163 (970 + 12 * M 163 (1117 + 8 * a) + b)) M))) 1).1))))) 163 (1121 + 8 * a) ((-1)))) 163 (1121 + 8 * M 163 (1121 + 8 * a)) ((-1))))) (c1 := 0) (c2 := 0) (rest := []) (as := [.inr 162, .inl (M 163 (1121 + 8 * a)), .inl 7, .inl ((-1))]) (xi154 141) (by decide) xm130 rfl ⟨rfl, Nat.le_of_ble_eq_true rfl, by decide⟩ (Or.inr (x_okt (ok_mo hS))) (k_msets hS (M 163 (1121 + 8 * a)) 7 ((-1)) (1121 + 8 * M 163 (1121 + 8 * a)) (by omega) (by omega) (by omega)) ?_
                  refine e_iload (k := 142) (xi154 142) rfl ?_
                  refine e_z_eq (k := 143) (xi154 143) (fun c26 => ?_) (fun c26 => ?_)
                  · skip
                    refine e_iconst (k := 146) (xi154 146) ?_
                    refine e_iload (k := 147) (xi154 147) rfl ?_
                    refine e_iadd (w := 100 + (l_n_end_a a b (M 163 (1121 + 8 * a)) 20 ((u_m_arrives a (M 163 (1121 + 8 * a)) b ((u_m_goes a (M 163 (970 + 12 * M 163 (1117 + 8 * a) + b)) M)))) b 0 (v_m_arrives a (M 163 (1121 + 8 * a)) b ((u_m_goes a (M 163 (970 + 12 * M 163 (1117 + 8 * a) + b)) M))) 1).2.1) (k := 148) (xi154 148) (x_wn (by omega)) ?_
                    refine e_iret (k := 149) (xi154 149) ?_
                    exact y_fW (Q := fun _ => True) (show v_n_end a b M = 100 + (l_n_end_a a b (M 163 (1121 + 8 * a)) 20 ((u_m_arrives a (M 163 (1121 + 8 * a)) b ((u_m_goes a (M 163 (970 + 12 * M 163 (1117 + 8 * a) + b)) M)))) b 0 (v_m_arrives a (M 163 (1121 + 8 * a)) b ((u_m_goes a (M 163 (970 + 12 * M 163 (1117 + 8 * a) + b)) M))) 1).2.1 from by rw [v_n_end, if_pos c0, if_neg c1, if_neg c2, if_pos c3, if_neg c4, if_neg c16, if_neg c20, if_neg c24, if_pos c26]) (show u_n_end a b M = (x_up ((x_up ((u_m_streets (M 163 (1121 + 8 * a)) ((l_n_end_a a b (M 163 (1121 + 8 * a)) 20 ((u_m_arrives a (M 163 (1121 + 8 * a)) b ((u_m_goes a (M 163 (970 + 12 * M 163 (1117 + 8 * a) + b)) M)))) b 0 (v_m_arrives a (M 163 (1121 + 8 * a)) b ((u_m_goes a (M 163 (970 + 12 * M 163 (1117 + 8 * a) + b)) M))) 1).2.1) ((u_m_streets a ((l_n_end_a a b (M 163 (1121 + 8 * a)) 20 ((u_m_arrives a (M 163 (1121 + 8 * a)) b ((u_m_goes a (M 163 (970 + 12 * M 163 (1117 + 8 * a) + b)) M)))) b 0 (v_m_arrives a (M 163 (1121 + 8 * a)) b ((u_m_goes a (M 163 (970 + 12 * M 163 (1117 + 8 * a) + b)) M))) 1).2.1) ((l_n_end_a a b (M 163 (1121 + 8 * a)) 20 ((u_m_arrives a (M 163 (1121 + 8 * a)) b ((u_m_goes a (M 163 (970 + 12 * M 163 (1117 + 8 * a) + b)) M)))) b 0 (v_m_arrives a (M 163 (1121 + 8 * a)) b ((u_m_goes a (M 163 (970 + 12 * M 163 (1117 + 8 * a) + b)) M))) 1).1))))) 163 (1121 + 8 * a) ((-1)))) 163 (1121 + 8 * M 163 (1121 + 8 * a)) ((-1))) from by rw [u_n_end, if_pos c0, if_neg c1, if_neg c2, if_pos c3, if_neg c4, if_neg c16, if_neg c20, if_neg c24, if_pos c26]) tl55 trivial
                  · skip
                    refine e_iload (k := 144) (xi154 144) rfl ?_
                    refine e_goto (k := 145) (xi154 145) ?_
                    refine e_iret (k := 149) (xi154 149) ?_
                    exact y_fW (Q := fun _ => True) (show v_n_end a b M = (l_n_end_a a b (M 163 (1121 + 8 * a)) 20 ((u_m_arrives a (M 163 (1121 + 8 * a)) b ((u_m_goes a (M 163 (970 + 12 * M 163 (1117 + 8 * a) + b)) M)))) b 0 (v_m_arrives a (M 163 (1121 + 8 * a)) b ((u_m_goes a (M 163 (970 + 12 * M 163 (1117 + 8 * a) + b)) M))) 1).2.1 from by rw [v_n_end, if_pos c0, if_neg c1, if_neg c2, if_pos c3, if_neg c4, if_neg c16, if_neg c20, if_neg c24, if_neg c26]) (show u_n_end a b M = (x_up ((x_up ((u_m_streets (M 163 (1121 + 8 * a)) ((l_n_end_a a b (M 163 (1121 + 8 * a)) 20 ((u_m_arrives a (M 163 (1121 + 8 * a)) b ((u_m_goes a (M 163 (970 + 12 * M 163 (1117 + 8 * a) + b)) M)))) b 0 (v_m_arrives a (M 163 (1121 + 8 * a)) b ((u_m_goes a (M 163 (970 + 12 * M 163 (1117 + 8 * a) + b)) M))) 1).2.1) ((u_m_streets a ((l_n_end_a a b (M 163 (1121 + 8 * a)) 20 ((u_m_arrives a (M 163 (1121 + 8 * a)) b ((u_m_goes a (M 163 (970 + 12 * M 163 (1117 + 8 * a) + b)) M)))) b 0 (v_m_arrives a (M 163 (1121 + 8 * a)) b ((u_m_goes a (M 163 (970 + 12 * M 163 (1117 + 8 * a) + b)) M))) 1).2.1) ((l_n_end_a a b (M 163 (1121 + 8 * a)) 20 ((u_m_arrives a (M 163 (1121 + 8 * a)) b ((u_m_goes a (M 163 (970 + 12 * M 163 (1117 + 8 * a) + b)) M)))) b 0 (v_m_arrives a (M 163 (1121 + 8 * a)) b ((u_m_goes a (M 163 (970 + 12 * M 163 (1117 + 8 * a) + b)) M))) 1).1))))) 163 (1121 + 8 * a) ((-1)))) 163 (1121 + 8 * M 163 (1121 + 8 * a)) ((-1))) from by rw [u_n_end, if_pos c0, if_neg c1, if_neg c2, if_pos c3, if_neg c4, if_neg c16, if_neg c20, if_neg c24, if_neg c26]) tl55 trivial
        · skip
          refine e_iconst (k := 20) (xi154 20) ?_
          refine e_iret (k := 21) (xi154 21) ?_
          exact y_fW (Q := fun _ => True) (show v_n_end a b M = (-1) from by rw [v_n_end, if_pos c0, if_neg c1, if_neg c2, if_neg c3]) (show u_n_end a b M = M from by rw [u_n_end, if_pos c0, if_neg c1, if_neg c2, if_neg c3]) tl0 trivial
  · skip
    refine e_iconst (k := 20) (xi154 20) ?_
    refine e_iret (k := 21) (xi154 21) ?_
    exact y_fW (Q := fun _ => True) (show v_n_end a b M = (-1) from by rw [v_n_end, if_neg c0]) (show u_n_end a b M = M from by rw [u_n_end, if_neg c0]) tl0 trivial
def l_n_hour_a : Nat → (Int → Int → Int) → Int → (Int → Int → Int) × Int
  | 0, M, w => (M, w)
  | k + 1, M, w => if M 163 1 ≤ w then (M, w) else if ¬ M 163 (1116 + 8 * w) = 0 then l_n_hour_a k M (1 + w) else if (M 163 (1114 + 8 * w)) = 1 ∨ (M 163 (1114 + 8 * w)) = 2 then (if ¬ M 163 (1114 + 8 * w) = 2 then (if 100 + M 163 (1115 + 8 * w) ≤ 1000 then l_n_hour_a k ((x_up M 163 (1115 + 8 * w) (100 + M 163 (1115 + 8 * w)))) (1 + w) else l_n_hour_a k ((x_up M 163 (1115 + 8 * w) 1000)) (1 + w)) else if 50 + M 163 (1115 + 8 * w) ≤ 1000 then l_n_hour_a k ((x_up M 163 (1115 + 8 * w) (50 + M 163 (1115 + 8 * w)))) (1 + w) else l_n_hour_a k ((x_up M 163 (1115 + 8 * w) 1000)) (1 + w)) else l_n_hour_a k M (1 + w)
theorem kl_n_hour_a {z : Int} {P M0 : Int → Int → Int} {r : Option xV × xH → Prop} (hS : x_Sh z P)     : ∀ k : Nat, ∀ x2 : xV, ∀ M : (Int → Int → Int), ∀ w : Int, y_TL 1 M0 M → (0 ≤ w ∧ w ≤ 60) → 60 - w < (k : Int) → (∀ x2 : xV, y_TL 1 M0 ((l_n_hour_a k M w).1) → True → x_Ev 155 47 [.inr 162, .inl ((l_n_hour_a k M w).2), x2] [] (0, 0) (z, P, (l_n_hour_a k M w).1) r) → x_Ev 155 2 [.inr 162, .inl (w), x2] [] (0, 0) (z, P, M) r := by
  intro k
  induction k with
  | zero => intro x2 M w tl0 hi hm; omega
  | succ k ih =>
    intro x2 M w tl0 hi hm kk
    refine e_iload (k := 2) (xi155 2) rfl ?_
    refine e_aload (k := 3) (xi155 3) rfl (by decide) ?_
    refine e_getR (j := 0) (w := 163) (k := 4) (xi155 4) (ok_mo hS) rfl (sh_all hS) ?_
    refine e_iconst (k := 5) (xi155 5) ?_
    have t1 := ty_a1 tl0.1
    refine e_iald (w := M 163 1) (k := 6) (xi155 6) (ok_all hS) (by rw [ln_all]; omega) rfl ?_
    refine e_c_ge (k := 7) (xi155 7) (fun c0 => ?_) (fun c0 => ?_)
    · skip
      rw [(show l_n_hour_a (k + 1) M w = (M, w) from by rw [l_n_hour_a, if_pos c0])] at kk
      try dsimp only at kk
      exact kk _ tl0 (by first | exact trivial | omega)
    · skip
      refine e_aload (k := 8) (xi155 8) rfl (by decide) ?_
      refine e_iload (k := 9) (xi155 9) rfl ?_
      refine e_iconst (k := 10) (xi155 10) ?_
      have t2 := ty_aW2 tl0.1 (i := 1116 + 8 * w) (w := w) (by omega) (by omega)
      refine e_call (k := 11) (v := some (.inl (M 163 (1116 + 8 * w)))) (h1 := (z, P, M)) (c1 := 0) (c2 := 0) (rest := []) (as := [.inr 162, .inl (w), .inl 2]) (xi155 11) (by decide) xm129 rfl ⟨rfl, Nat.le_of_ble_eq_true rfl, by decide⟩ (Or.inr (x_okt (ok_mo hS))) (k_mof hS tl0.1 w 2 (1116 + 8 * w) (by omega) (by omega) (by omega)) ?_
      refine e_z_ne (k := 12) (xi155 12) (fun c1 => ?_) (fun c1 => ?_)
      · skip
        refine e_iinc (w := 1 + w) (k := 45) (xi155 45) rfl (x_wn (by omega)) ?_
        show x_Ev 155 46 [.inr 162, .inl (1 + w), x2] [] (0, 0) (z, P, M) _
        refine e_goto (k := 46) (xi155 46) ?_
        rw [(show l_n_hour_a (k + 1) M w = l_n_hour_a k M (1 + w) from by rw [l_n_hour_a, if_neg c0, if_pos c1])] at kk
        exact ih _ M (1 + w) tl0 (by omega) (by omega) kk
      · skip
        refine e_aload (k := 13) (xi155 13) rfl (by decide) ?_
        refine e_iload (k := 14) (xi155 14) rfl ?_
        refine e_iconst (k := 15) (xi155 15) ?_
        have t3 := ty_aW0 tl0.1 (i := 1114 + 8 * w) (w := w) (by omega) (by omega)
        refine e_call (k := 16) (v := some (.inl (M 163 (1114 + 8 * w)))) (h1 := (z, P, M)) (c1 := 0) (c2 := 0) (rest := []) (as := [.inr 162, .inl (w), .inl 0]) (xi155 16) (by decide) xm129 rfl ⟨rfl, Nat.le_of_ble_eq_true rfl, by decide⟩ (Or.inr (x_okt (ok_mo hS))) (k_mof hS tl0.1 w 0 (1114 + 8 * w) (by omega) (by omega) (by omega)) ?_
        refine e_call (k := 17) (v := some (.inl (x_b ((M 163 (1114 + 8 * w)) = 1 ∨ (M 163 (1114 + 8 * w)) = 2)))) (h1 := (z, P, M)) (c1 := 0) (c2 := 0) (rest := []) (as := [.inl (M 163 (1114 + 8 * w))]) (xi155 17) (by decide) xm138 rfl ⟨rfl, Nat.le_of_ble_eq_true rfl, by decide⟩ (Or.inl rfl) (k_mhasCharge hS tl0.1 (M 163 (1114 + 8 * w))  ) ?_
        refine e_b_ne (k := 18) (xi155 18) (fun c2 => ?_) (fun c2 => ?_)
        · skip
          refine e_aload (k := 20) (xi155 20) rfl (by decide) ?_
          refine e_iload (k := 21) (xi155 21) rfl ?_
          refine e_iconst (k := 22) (xi155 22) ?_
          have t4 := ty_aW1 tl0.1 (i := 1115 + 8 * w) (w := w) (by omega) (by omega)
          refine e_call (k := 23) (v := some (.inl (M 163 (1115 + 8 * w)))) (h1 := (z, P, M)) (c1 := 0) (c2 := 0) (rest := []) (as := [.inr 162, .inl (w), .inl 1]) (xi155 23) (by decide) xm129 rfl ⟨rfl, Nat.le_of_ble_eq_true rfl, by decide⟩ (Or.inr (x_okt (ok_mo hS))) (k_mof hS tl0.1 w 1 (1115 + 8 * w) (by omega) (by omega) (by omega)) ?_
          refine e_aload (k := 24) (xi155 24) rfl (by decide) ?_
          refine e_iload (k := 25) (xi155 25) rfl ?_
          refine e_iconst (k := 26) (xi155 26) ?_
          refine e_call (k := 27) (v := some (.inl (M 163 (1114 + 8 * w)))) (h1 := (z, P, M)) (c1 := 0) (c2 := 0) (rest := [.inl (M 163 (1115 + 8 * w))]) (as := [.inr 162, .inl (w), .inl 0]) (xi155 27) (by decide) xm129 rfl ⟨rfl, Nat.le_of_ble_eq_true rfl, by decide⟩ (Or.inr (x_okt (ok_mo hS))) (k_mof hS tl0.1 w 0 (1114 + 8 * w) (by omega) (by omega) (by omega)) ?_
          refine e_iconst (k := 28) (xi155 28) ?_
          refine e_c_ne (k := 29) (xi155 29) (fun c3 => ?_) (fun c3 => ?_)
          · skip
            refine e_iconst (k := 32) (xi155 32) ?_
            refine e_iadd (w := 100 + M 163 (1115 + 8 * w)) (k := 33) (xi155 33) (x_wn (by omega)) ?_
            refine e_istore (k := 34) (xi155 34) (Nat.le_of_ble_eq_true rfl) ?_
            show x_Ev 155 35 [.inr 162, .inl (w), .inl (100 + M 163 (1115 + 8 * w))] [] (0, 0) (z, P, M) _
            refine e_aload (k := 35) (xi155 35) rfl (by decide) ?_
            refine e_iload (k := 36) (xi155 36) rfl ?_
            refine e_iconst (k := 37) (xi155 37) ?_
            refine e_iload (k := 38) (xi155 38) rfl ?_
            refine e_iconst (k := 39) (xi155 39) ?_
            refine e_c_le (k := 40) (xi155 40) (fun c4 => ?_) (fun c4 => ?_)
            · skip
              refine e_iload (k := 43) (xi155 43) rfl ?_
              have tl5 : y_TL 1 M0 (x_up M 163 (1115 + 8 * w) (100 + M 163 (1115 + 8 * w))) := tl_up tl0 (sl_aW1 (i := 1115 + 8 * w) (w := w) (by omega) (by omega) (by omega)) (nf_aW1 (i := 1115 + 8 * w) (w := w) (by omega) (by omega))
              refine e_call (k := 44) (v := none) (h1 := (z, P, (x_up M 163 (1115 + 8 * w) (100 + M 163 (1115 + 8 * w))))) (c1 := 0) (c2 := 0) (rest := []) (as := [.inr 162, .inl (w), .inl 1, .inl (100 + M 163 (1115 + 8 * w))]) (xi155 44) (by decide) xm130 rfl ⟨rfl, Nat.le_of_ble_eq_true rfl, by decide⟩ (Or.inr (x_okt (ok_mo hS))) (k_msets hS w 1 (100 + M 163 (1115 + 8 * w)) (1115 + 8 * w) (by omega) (by omega) (by omega)) ?_
              refine e_iinc (w := 1 + w) (k := 45) (xi155 45) rfl (x_wn (by omega)) ?_
              show x_Ev 155 46 [.inr 162, .inl (1 + w), .inl (100 + M 163 (1115 + 8 * w))] [] (0, 0) (z, P, (x_up M 163 (1115 + 8 * w) (100 + M 163 (1115 + 8 * w)))) _
              refine e_goto (k := 46) (xi155 46) ?_
              rw [(show l_n_hour_a (k + 1) M w = l_n_hour_a k ((x_up M 163 (1115 + 8 * w) (100 + M 163 (1115 + 8 * w)))) (1 + w) from by rw [l_n_hour_a, if_neg c0, if_neg c1, if_pos c2, if_pos c3, if_pos c4])] at kk
              exact ih _ ((x_up M 163 (1115 + 8 * w) (100 + M 163 (1115 + 8 * w)))) (1 + w) tl5 (by omega) (by omega) kk
            · skip
              refine e_iconst (k := 41) (xi155 41) ?_
              refine e_goto (k := 42) (xi155 42) ?_
              have tl6 : y_TL 1 M0 (x_up M 163 (1115 + 8 * w) 1000) := tl_up tl0 (sl_aW1 (i := 1115 + 8 * w) (w := w) (by omega) (by omega) (by omega)) (nf_aW1 (i := 1115 + 8 * w) (w := w) (by omega) (by omega))
              refine e_call (k := 44) (v := none) (h1 := (z, P, (x_up M 163 (1115 + 8 * w) 1000))) (c1 := 0) (c2 := 0) (rest := []) (as := [.inr 162, .inl (w), .inl 1, .inl 1000]) (xi155 44) (by decide) xm130 rfl ⟨rfl, Nat.le_of_ble_eq_true rfl, by decide⟩ (Or.inr (x_okt (ok_mo hS))) (k_msets hS w 1 1000 (1115 + 8 * w) (by omega) (by omega) (by omega)) ?_
              refine e_iinc (w := 1 + w) (k := 45) (xi155 45) rfl (x_wn (by omega)) ?_
              show x_Ev 155 46 [.inr 162, .inl (1 + w), .inl (100 + M 163 (1115 + 8 * w))] [] (0, 0) (z, P, (x_up M 163 (1115 + 8 * w) 1000)) _
              refine e_goto (k := 46) (xi155 46) ?_
              rw [(show l_n_hour_a (k + 1) M w = l_n_hour_a k ((x_up M 163 (1115 + 8 * w) 1000)) (1 + w) from by rw [l_n_hour_a, if_neg c0, if_neg c1, if_pos c2, if_pos c3, if_neg c4])] at kk
              exact ih _ ((x_up M 163 (1115 + 8 * w) 1000)) (1 + w) tl6 (by omega) (by omega) kk
          · skip
            refine e_iconst (k := 30) (xi155 30) ?_
            refine e_goto (k := 31) (xi155 31) ?_
            refine e_iadd (w := 50 + M 163 (1115 + 8 * w)) (k := 33) (xi155 33) (x_wn (by omega)) ?_
            refine e_istore (k := 34) (xi155 34) (Nat.le_of_ble_eq_true rfl) ?_
            show x_Ev 155 35 [.inr 162, .inl (w), .inl (50 + M 163 (1115 + 8 * w))] [] (0, 0) (z, P, M) _
            refine e_aload (k := 35) (xi155 35) rfl (by decide) ?_
            refine e_iload (k := 36) (xi155 36) rfl ?_
            refine e_iconst (k := 37) (xi155 37) ?_
            refine e_iload (k := 38) (xi155 38) rfl ?_
            refine e_iconst (k := 39) (xi155 39) ?_
            refine e_c_le (k := 40) (xi155 40) (fun c5 => ?_) (fun c5 => ?_)
            · skip
              refine e_iload (k := 43) (xi155 43) rfl ?_
              have tl7 : y_TL 1 M0 (x_up M 163 (1115 + 8 * w) (50 + M 163 (1115 + 8 * w))) := tl_up tl0 (sl_aW1 (i := 1115 + 8 * w) (w := w) (by omega) (by omega) (by omega)) (nf_aW1 (i := 1115 + 8 * w) (w := w) (by omega) (by omega))
              refine e_call (k := 44) (v := none) (h1 := (z, P, (x_up M 163 (1115 + 8 * w) (50 + M 163 (1115 + 8 * w))))) (c1 := 0) (c2 := 0) (rest := []) (as := [.inr 162, .inl (w), .inl 1, .inl (50 + M 163 (1115 + 8 * w))]) (xi155 44) (by decide) xm130 rfl ⟨rfl, Nat.le_of_ble_eq_true rfl, by decide⟩ (Or.inr (x_okt (ok_mo hS))) (k_msets hS w 1 (50 + M 163 (1115 + 8 * w)) (1115 + 8 * w) (by omega) (by omega) (by omega)) ?_
              refine e_iinc (w := 1 + w) (k := 45) (xi155 45) rfl (x_wn (by omega)) ?_
              show x_Ev 155 46 [.inr 162, .inl (1 + w), .inl (50 + M 163 (1115 + 8 * w))] [] (0, 0) (z, P, (x_up M 163 (1115 + 8 * w) (50 + M 163 (1115 + 8 * w)))) _
              refine e_goto (k := 46) (xi155 46) ?_
              rw [(show l_n_hour_a (k + 1) M w = l_n_hour_a k ((x_up M 163 (1115 + 8 * w) (50 + M 163 (1115 + 8 * w)))) (1 + w) from by rw [l_n_hour_a, if_neg c0, if_neg c1, if_pos c2, if_neg c3, if_pos c5])] at kk
              exact ih _ ((x_up M 163 (1115 + 8 * w) (50 + M 163 (1115 + 8 * w)))) (1 + w) tl7 (by omega) (by omega) kk
            · skip
              refine e_iconst (k := 41) (xi155 41) ?_
              refine e_goto (k := 42) (xi155 42) ?_
              have tl8 : y_TL 1 M0 (x_up M 163 (1115 + 8 * w) 1000) := tl_up tl0 (sl_aW1 (i := 1115 + 8 * w) (w := w) (by omega) (by omega) (by omega)) (nf_aW1 (i := 1115 + 8 * w) (w := w) (by omega) (by omega))
              refine e_call (k := 44) (v := none) (h1 := (z, P, (x_up M 163 (1115 + 8 * w) 1000))) (c1 := 0) (c2 := 0) (rest := []) (as := [.inr 162, .inl (w), .inl 1, .inl 1000]) (xi155 44) (by decide) xm130 rfl ⟨rfl, Nat.le_of_ble_eq_true rfl, by decide⟩ (Or.inr (x_okt (ok_mo hS))) (k_msets hS w 1 1000 (1115 + 8 * w) (by omega) (by omega) (by omega)) ?_
              refine e_iinc (w := 1 + w) (k := 45) (xi155 45) rfl (x_wn (by omega)) ?_
              show x_Ev 155 46 [.inr 162, .inl (1 + w), .inl (50 + M 163 (1115 + 8 * w))] [] (0, 0) (z, P, (x_up M 163 (1115 + 8 * w) 1000)) _
              refine e_goto (k := 46) (xi155 46) ?_
              rw [(show l_n_hour_a (k + 1) M w = l_n_hour_a k ((x_up M 163 (1115 + 8 * w) 1000)) (1 + w) from by rw [l_n_hour_a, if_neg c0, if_neg c1, if_pos c2, if_neg c3, if_neg c5])] at kk
              exact ih _ ((x_up M 163 (1115 + 8 * w) 1000)) (1 + w) tl8 (by omega) (by omega) kk
        · skip
          refine e_goto (k := 19) (xi155 19) ?_
          refine e_iinc (w := 1 + w) (k := 45) (xi155 45) rfl (x_wn (by omega)) ?_
          show x_Ev 155 46 [.inr 162, .inl (1 + w), x2] [] (0, 0) (z, P, M) _
          refine e_goto (k := 46) (xi155 46) ?_
          rw [(show l_n_hour_a (k + 1) M w = l_n_hour_a k M (1 + w) from by rw [l_n_hour_a, if_neg c0, if_neg c1, if_neg c2])] at kk
          exact ih _ M (1 + w) tl0 (by omega) (by omega) kk
def v_n_hour (M : Int → Int → Int) : Int := (1 + ((l_n_hour_a 61 M 0).1) 163 3) % 24
def u_n_hour (M : Int → Int → Int) : Int → Int → Int := (x_up ((l_n_hour_a 61 M 0).1) 163 3 ((1 + ((l_n_hour_a 61 M 0).1) 163 3) % 24))
theorem k_n_hour {z : Int} {P M : Int → Int → Int} (hS : x_Sh z P) (hT : y_TC M)    : x_CallR 155 [.inr 162] (z, P, M) (fun q => q = (some (.inl (v_n_hour M)), (z, P, u_n_hour M)) ∧ y_TL 8 M (u_n_hour M) ∧ True) := by
  have tl0 : y_TL 8 M M := tl_refl hT
  refine e_body (ls0 := [.inr 162, x_un, x_un]) xm155 rfl ?_
  refine e_iconst (k := 0) (xi155 0) ?_
  refine e_istore (k := 1) (xi155 1) (Nat.le_of_ble_eq_true rfl) ?_
  show x_Ev 155 2 [.inr 162, .inl 0, x_un] [] (0, 0) (z, P, M) _
  refine kl_n_hour_a hS      61 _ M 0 (tl_refl tl0.1) (by omega) (by omega) ?_
  intro x3 tl1 q2
  have tl4 := tl_trans tl0 (tl_81 tl1)
  have n5 := tl_a tl1
  show x_Ev 155 47 [.inr 162, .inl ((l_n_hour_a 61 M 0).2), x3] [] (0, 0) (z, P, (l_n_hour_a 61 M 0).1) _
  refine e_aload (k := 47) (xi155 47) rfl (by decide) ?_
  refine e_getR (j := 0) (w := 163) (k := 48) (xi155 48) (ok_mo hS) rfl (sh_all hS) ?_
  refine e_iconst (k := 49) (xi155 49) ?_
  refine e_aload (k := 50) (xi155 50) rfl (by decide) ?_
  refine e_getR (j := 0) (w := 163) (k := 51) (xi155 51) (ok_mo hS) rfl (sh_all hS) ?_
  refine e_iconst (k := 52) (xi155 52) ?_
  have t6 := ty_a3 tl4.1
  refine e_iald (w := ((l_n_hour_a 61 M 0).1) 163 3) (k := 53) (xi155 53) (ok_all hS) (by rw [ln_all]; omega) rfl ?_
  refine e_iconst (k := 54) (xi155 54) ?_
  refine e_iadd (w := 1 + ((l_n_hour_a 61 M 0).1) 163 3) (k := 55) (xi155 55) (x_wn (by omega)) ?_
  refine e_iconst (k := 56) (xi155 56) ?_
  refine e_irem (k := 57) (xi155 57) ⟨by omega, by omega⟩ ?_
  refine e_iast (k := 58) (xi155 58) (ok_all hS) (by rw [ln_all]; omega) ?_
  have tl7 : y_TL 8 M (x_up ((l_n_hour_a 61 M 0).1) 163 3 ((1 + ((l_n_hour_a 61 M 0).1) 163 3) % 24)) := tl_up tl4 (sl_a3 (by omega)) (nf8 (by omega))
  refine e_aload (k := 59) (xi155 59) rfl (by decide) ?_
  refine e_getR (j := 0) (w := 163) (k := 60) (xi155 60) (ok_mo hS) rfl (sh_all hS) ?_
  refine e_iconst (k := 61) (xi155 61) ?_
  refine e_iald (w := (1 + ((l_n_hour_a 61 M 0).1) 163 3) % 24) (k := 62) (xi155 62) (ok_all hS) (by rw [ln_all]; omega) x_up_self ?_
  refine e_iret (k := 63) (xi155 63) ?_
  exact y_fW (Q := fun _ => True) (show v_n_hour M = (1 + ((l_n_hour_a 61 M 0).1) 163 3) % 24 from rfl) (show u_n_hour M = (x_up ((l_n_hour_a 61 M 0).1) 163 3 ((1 + ((l_n_hour_a 61 M 0).1) 163 3) % 24)) from rfl) tl7 trivial
def v_n_cart (a b : Int) (M : Int → Int → Int) : Int := if M 163 2 = 3 then (-1) else if a < 1 then (-1) else if 8 < a then (-1) else if 0 ≤ b ∧ b < M 163 0 then M 163 2 else (-1)
def u_n_cart (a b : Int) (M : Int → Int → Int) : Int → Int → Int := if M 163 2 = 3 then M else if a < 1 then M else if 8 < a then M else if 0 ≤ b ∧ b < M 163 0 then (x_up ((x_up ((x_up ((x_up ((x_up M 163 (1594 + 12 * M 163 2) a)) 163 (1595 + 12 * M 163 2) b)) 163 (1596 + 12 * M 163 2) 0)) 163 (1597 + 12 * M 163 2) 0)) 163 2 (1 + M 163 2)) else M
theorem k_n_cart {z : Int} {P M : Int → Int → Int} (hS : x_Sh z P) (hT : y_TC M) (a : Int) (b : Int)   : x_CallR 157 [.inr 162, .inl (a), .inl (b)] (z, P, M) (fun q => q = (some (.inl (v_n_cart a b M)), (z, P, u_n_cart a b M)) ∧ y_TL 8 M (u_n_cart a b M) ∧ True) := by
  have tl0 : y_TL 8 M M := tl_refl hT
  refine e_body (ls0 := [.inr 162, .inl (a), .inl (b), x_un]) xm157 rfl ?_
  refine e_aload (k := 0) (xi157 0) rfl (by decide) ?_
  refine e_getR (j := 0) (w := 163) (k := 1) (xi157 1) (ok_mo hS) rfl (sh_all hS) ?_
  refine e_iconst (k := 2) (xi157 2) ?_
  have t1 := ty_a2 tl0.1
  refine e_iald (w := M 163 2) (k := 3) (xi157 3) (ok_all hS) (by rw [ln_all]; omega) rfl ?_
  refine e_iconst (k := 4) (xi157 4) ?_
  refine e_c_eq (k := 5) (xi157 5) (fun c0 => ?_) (fun c0 => ?_)
  · skip
    refine e_iconst (k := 16) (xi157 16) ?_
    refine e_iret (k := 17) (xi157 17) ?_
    exact y_fW (Q := fun _ => True) (show v_n_cart a b M = (-1) from by rw [v_n_cart, if_pos c0]) (show u_n_cart a b M = M from by rw [u_n_cart, if_pos c0]) tl0 trivial
  · skip
    refine e_iload (k := 6) (xi157 6) rfl ?_
    refine e_iconst (k := 7) (xi157 7) ?_
    refine e_c_lt (k := 8) (xi157 8) (fun c1 => ?_) (fun c1 => ?_)
    · skip
      refine e_iconst (k := 16) (xi157 16) ?_
      refine e_iret (k := 17) (xi157 17) ?_
      exact y_fW (Q := fun _ => True) (show v_n_cart a b M = (-1) from by rw [v_n_cart, if_neg c0, if_pos c1]) (show u_n_cart a b M = M from by rw [u_n_cart, if_neg c0, if_pos c1]) tl0 trivial
    · skip
      refine e_iload (k := 9) (xi157 9) rfl ?_
      refine e_iconst (k := 10) (xi157 10) ?_
      refine e_c_gt (k := 11) (xi157 11) (fun c2 => ?_) (fun c2 => ?_)
      · skip
        refine e_iconst (k := 16) (xi157 16) ?_
        refine e_iret (k := 17) (xi157 17) ?_
        exact y_fW (Q := fun _ => True) (show v_n_cart a b M = (-1) from by rw [v_n_cart, if_neg c0, if_neg c1, if_pos c2]) (show u_n_cart a b M = M from by rw [u_n_cart, if_neg c0, if_neg c1, if_pos c2]) tl0 trivial
      · skip
        refine e_aload (k := 12) (xi157 12) rfl (by decide) ?_
        refine e_iload (k := 13) (xi157 13) rfl ?_
        have t2 := ty_a0 tl0.1
        refine e_call (k := 14) (v := some (.inl (x_b (0 ≤ b ∧ b < M 163 0)))) (h1 := (z, P, M)) (c1 := 0) (c2 := 0) (rest := []) (as := [.inr 162, .inl (b)]) (xi157 14) (by decide) xm114 rfl ⟨rfl, Nat.le_of_ble_eq_true rfl, by decide⟩ (Or.inr (x_okt (ok_mo hS))) (k_isStand hS tl0.1 b  ) ?_
        refine e_b_ne (k := 15) (xi157 15) (fun c3 => ?_) (fun c3 => ?_)
        · skip
          refine e_aload (k := 18) (xi157 18) rfl (by decide) ?_
          refine e_aload (k := 19) (xi157 19) rfl (by decide) ?_
          refine e_getR (j := 0) (w := 163) (k := 20) (xi157 20) (ok_mo hS) rfl (sh_all hS) ?_
          refine e_iconst (k := 21) (xi157 21) ?_
          refine e_iald (w := M 163 2) (k := 22) (xi157 22) (ok_all hS) (by rw [ln_all]; omega) rfl ?_
          refine e_call (k := 23) (v := some (.inl (1594 + 12 * M 163 2))) (h1 := (z, P, M)) (c1 := 0) (c2 := 0) (rest := []) (as := [.inr 162, .inl (M 163 2)]) (xi157 23) (by decide) xm156 rfl ⟨rfl, Nat.le_of_ble_eq_true rfl, by decide⟩ (Or.inr (x_okt (ok_mo hS))) (k_mwagonAt hS tl0.1 (M 163 2) (by omega)) ?_
          refine e_istore (k := 24) (xi157 24) (Nat.le_of_ble_eq_true rfl) ?_
          show x_Ev 157 25 [.inr 162, .inl (a), .inl (b), .inl (1594 + 12 * M 163 2)] [] (0, 0) (z, P, M) _
          refine e_aload (k := 25) (xi157 25) rfl (by decide) ?_
          refine e_getR (j := 0) (w := 163) (k := 26) (xi157 26) (ok_mo hS) rfl (sh_all hS) ?_
          refine e_iload (k := 27) (xi157 27) rfl ?_
          refine e_iload (k := 28) (xi157 28) rfl ?_
          refine e_iast (k := 29) (xi157 29) (ok_all hS) (by rw [ln_all]; omega) ?_
          have tl3 : y_TL 8 M (x_up M 163 (1594 + 12 * M 163 2) a) := tl_up tl0 (sl_aG0 (i := 1594 + 12 * M 163 2) (c := M 163 2) (by omega) (by omega) (by omega)) (nf8 (by omega))
          refine e_aload (k := 30) (xi157 30) rfl (by decide) ?_
          refine e_getR (j := 0) (w := 163) (k := 31) (xi157 31) (ok_mo hS) rfl (sh_all hS) ?_
          refine e_iload (k := 32) (xi157 32) rfl ?_
          refine e_iconst (k := 33) (xi157 33) ?_
          refine e_iadd (w := 1595 + 12 * M 163 2) (k := 34) (xi157 34) (x_wn (by omega)) ?_
          refine e_iload (k := 35) (xi157 35) rfl ?_
          refine e_iast (k := 36) (xi157 36) (ok_all hS) (by rw [ln_all]; omega) ?_
          have tl4 : y_TL 8 M (x_up ((x_up M 163 (1594 + 12 * M 163 2) a)) 163 (1595 + 12 * M 163 2) b) := tl_up tl3 (sl_aG1 (i := 1595 + 12 * M 163 2) (c := M 163 2) (by omega) (by omega) (by omega)) (nf8 (by omega))
          refine e_aload (k := 37) (xi157 37) rfl (by decide) ?_
          refine e_getR (j := 0) (w := 163) (k := 38) (xi157 38) (ok_mo hS) rfl (sh_all hS) ?_
          refine e_iload (k := 39) (xi157 39) rfl ?_
          refine e_iconst (k := 40) (xi157 40) ?_
          refine e_iadd (w := 1596 + 12 * M 163 2) (k := 41) (xi157 41) (x_wn (by omega)) ?_
          refine e_iconst (k := 42) (xi157 42) ?_
          refine e_iast (k := 43) (xi157 43) (ok_all hS) (by rw [ln_all]; omega) ?_
          have tl5 : y_TL 8 M (x_up ((x_up ((x_up M 163 (1594 + 12 * M 163 2) a)) 163 (1595 + 12 * M 163 2) b)) 163 (1596 + 12 * M 163 2) 0) := tl_up tl4 (sl_aG2 (i := 1596 + 12 * M 163 2) (c := M 163 2) (by omega) (by omega)) (nf8 (by omega))
          refine e_aload (k := 44) (xi157 44) rfl (by decide) ?_
          refine e_getR (j := 0) (w := 163) (k := 45) (xi157 45) (ok_mo hS) rfl (sh_all hS) ?_
          refine e_iload (k := 46) (xi157 46) rfl ?_
          refine e_iconst (k := 47) (xi157 47) ?_
          refine e_iadd (w := 1597 + 12 * M 163 2) (k := 48) (xi157 48) (x_wn (by omega)) ?_
          refine e_iconst (k := 49) (xi157 49) ?_
          refine e_iast (k := 50) (xi157 50) (ok_all hS) (by rw [ln_all]; omega) ?_
          have tl6 : y_TL 8 M (x_up ((x_up ((x_up ((x_up M 163 (1594 + 12 * M 163 2) a)) 163 (1595 + 12 * M 163 2) b)) 163 (1596 + 12 * M 163 2) 0)) 163 (1597 + 12 * M 163 2) 0) := tl_up tl5 (sl_aG3 (i := 1597 + 12 * M 163 2) (c := M 163 2) (by omega) (by omega) (by omega)) (nf8 (by omega))
          refine e_aload (k := 51) (xi157 51) rfl (by decide) ?_
          refine e_getR (j := 0) (w := 163) (k := 52) (xi157 52) (ok_mo hS) rfl (sh_all hS) ?_
          refine e_iconst (k := 53) (xi157 53) ?_
          refine e_dup2 (k := 54) (xi157 54) ?_
          refine e_iald (w := M 163 2) (k := 55) (xi157 55) (ok_all hS) (by rw [ln_all]; omega) (((x_up_nk (by omega)).trans (((x_up_nk (by omega)).trans (((x_up_nk (by omega)).trans (((x_up_nk (by omega)).trans rfl)))))))) ?_
          refine e_iconst (k := 56) (xi157 56) ?_
          refine e_iadd (w := 1 + M 163 2) (k := 57) (xi157 57) (x_wn (by omega)) ?_
          refine e_iast (k := 58) (xi157 58) (ok_all hS) (by rw [ln_all]; omega) ?_
          have tl7 : y_TL 8 M (x_up ((x_up ((x_up ((x_up ((x_up M 163 (1594 + 12 * M 163 2) a)) 163 (1595 + 12 * M 163 2) b)) 163 (1596 + 12 * M 163 2) 0)) 163 (1597 + 12 * M 163 2) 0)) 163 2 (1 + M 163 2)) := tl_up tl6 (sl_a2 (by omega)) (nf8 (by omega))
          refine e_aload (k := 59) (xi157 59) rfl (by decide) ?_
          refine e_getR (j := 0) (w := 163) (k := 60) (xi157 60) (ok_mo hS) rfl (sh_all hS) ?_
          refine e_iconst (k := 61) (xi157 61) ?_
          refine e_iald (w := 1 + M 163 2) (k := 62) (xi157 62) (ok_all hS) (by rw [ln_all]; omega) x_up_self ?_
          refine e_iconst (k := 63) (xi157 63) ?_
          refine e_isub (w := M 163 2) (k := 64) (xi157 64) (x_wn (by omega)) ?_
          refine e_iret (k := 65) (xi157 65) ?_
          exact y_fW (Q := fun _ => True) (show v_n_cart a b M = M 163 2 from by rw [v_n_cart, if_neg c0, if_neg c1, if_neg c2, if_pos c3]) (show u_n_cart a b M = (x_up ((x_up ((x_up ((x_up ((x_up M 163 (1594 + 12 * M 163 2) a)) 163 (1595 + 12 * M 163 2) b)) 163 (1596 + 12 * M 163 2) 0)) 163 (1597 + 12 * M 163 2) 0)) 163 2 (1 + M 163 2)) from by rw [u_n_cart, if_neg c0, if_neg c1, if_neg c2, if_pos c3]) tl7 trivial
        · skip
          refine e_iconst (k := 16) (xi157 16) ?_
          refine e_iret (k := 17) (xi157 17) ?_
          exact y_fW (Q := fun _ => True) (show v_n_cart a b M = (-1) from by rw [v_n_cart, if_neg c0, if_neg c1, if_neg c2, if_neg c3]) (show u_n_cart a b M = M from by rw [u_n_cart, if_neg c0, if_neg c1, if_neg c2, if_neg c3]) tl0 trivial
def v_n_drive (a b : Int) (M : Int → Int → Int) : Int := if 0 ≤ a ∧ a < M 163 2 then (if 0 ≤ b ∧ b < M 163 0 then x_w (M 163 (1596 + 12 * a) + M 163 (970 + 12 * M 163 (1595 + 12 * a) + b)) else (-1)) else (-1)
def u_n_drive (a b : Int) (M : Int → Int → Int) : Int → Int → Int := if 0 ≤ a ∧ a < M 163 2 then (if 0 ≤ b ∧ b < M 163 0 then (x_up ((x_up M 163 (1596 + 12 * a) (x_w (M 163 (1596 + 12 * a) + M 163 (970 + 12 * M 163 (1595 + 12 * a) + b))))) 163 (1595 + 12 * a) b) else M) else M
theorem k_n_drive {z : Int} {P M : Int → Int → Int} (hS : x_Sh z P) (hT : y_TC M) (a : Int) (b : Int)   : x_CallR 158 [.inr 162, .inl (a), .inl (b)] (z, P, M) (fun q => q = (some (.inl (v_n_drive a b M)), (z, P, u_n_drive a b M)) ∧ y_TL 1 M (u_n_drive a b M) ∧ True) := by
  have tl0 : y_TL 1 M M := tl_refl hT
  refine e_body (ls0 := [.inr 162, .inl (a), .inl (b), x_un]) xm158 rfl ?_
  refine e_aload (k := 0) (xi158 0) rfl (by decide) ?_
  refine e_iload (k := 1) (xi158 1) rfl ?_
  have t1 := ty_a2 tl0.1
  refine e_call (k := 2) (v := some (.inl (x_b (0 ≤ a ∧ a < M 163 2)))) (h1 := (z, P, M)) (c1 := 0) (c2 := 0) (rest := []) (as := [.inr 162, .inl (a)]) (xi158 2) (by decide) xm116 rfl ⟨rfl, Nat.le_of_ble_eq_true rfl, by decide⟩ (Or.inr (x_okt (ok_mo hS))) (k_isCart hS tl0.1 a  ) ?_
  refine e_b_eq (k := 3) (xi158 3) (fun c0 => ?_) (fun c0 => ?_)
  · skip
    refine e_aload (k := 4) (xi158 4) rfl (by decide) ?_
    refine e_iload (k := 5) (xi158 5) rfl ?_
    have t2 := ty_a0 tl0.1
    refine e_call (k := 6) (v := some (.inl (x_b (0 ≤ b ∧ b < M 163 0)))) (h1 := (z, P, M)) (c1 := 0) (c2 := 0) (rest := []) (as := [.inr 162, .inl (b)]) (xi158 6) (by decide) xm114 rfl ⟨rfl, Nat.le_of_ble_eq_true rfl, by decide⟩ (Or.inr (x_okt (ok_mo hS))) (k_isStand hS tl0.1 b  ) ?_
    refine e_b_ne (k := 7) (xi158 7) (fun c1 => ?_) (fun c1 => ?_)
    · skip
      refine e_aload (k := 10) (xi158 10) rfl (by decide) ?_
      refine e_iload (k := 11) (xi158 11) rfl ?_
      refine e_call (k := 12) (v := some (.inl (1594 + 12 * a))) (h1 := (z, P, M)) (c1 := 0) (c2 := 0) (rest := []) (as := [.inr 162, .inl (a)]) (xi158 12) (by decide) xm156 rfl ⟨rfl, Nat.le_of_ble_eq_true rfl, by decide⟩ (Or.inr (x_okt (ok_mo hS))) (k_mwagonAt hS tl0.1 a (by omega)) ?_
      refine e_istore (k := 13) (xi158 13) (Nat.le_of_ble_eq_true rfl) ?_
      show x_Ev 158 14 [.inr 162, .inl (a), .inl (b), .inl (1594 + 12 * a)] [] (0, 0) (z, P, M) _
      refine e_aload (k := 14) (xi158 14) rfl (by decide) ?_
      refine e_getR (j := 0) (w := 163) (k := 15) (xi158 15) (ok_mo hS) rfl (sh_all hS) ?_
      refine e_iload (k := 16) (xi158 16) rfl ?_
      refine e_iconst (k := 17) (xi158 17) ?_
      refine e_iadd (w := 1596 + 12 * a) (k := 18) (xi158 18) (x_wn (by omega)) ?_
      refine e_dup2 (k := 19) (xi158 19) ?_
      refine e_iald (w := M 163 (1596 + 12 * a)) (k := 20) (xi158 20) (ok_all hS) (by rw [ln_all]; omega) rfl ?_
      refine e_aload (k := 21) (xi158 21) rfl (by decide) ?_
      refine e_aload (k := 22) (xi158 22) rfl (by decide) ?_
      refine e_getR (j := 0) (w := 163) (k := 23) (xi158 23) (ok_mo hS) rfl (sh_all hS) ?_
      refine e_iload (k := 24) (xi158 24) rfl ?_
      refine e_iconst (k := 25) (xi158 25) ?_
      refine e_iadd (w := 1595 + 12 * a) (k := 26) (xi158 26) (x_wn (by omega)) ?_
      have t3 := ty_aG1 tl0.1 (i := 1595 + 12 * a) (c := a) (by omega) (by omega)
      refine e_iald (w := M 163 (1595 + 12 * a)) (k := 27) (xi158 27) (ok_all hS) (by rw [ln_all]; omega) rfl ?_
      refine e_iload (k := 28) (xi158 28) rfl ?_
      have t4 := ty_aL tl0.1 (i := 970 + 12 * M 163 (1595 + 12 * a) + b) (a := M 163 (1595 + 12 * a)) (b := b) (by omega) (by omega) (by omega)
      refine e_call (k := 29) (v := some (.inl (M 163 (970 + 12 * M 163 (1595 + 12 * a) + b)))) (h1 := (z, P, M)) (c1 := 0) (c2 := 0) (rest := [.inl (M 163 (1596 + 12 * a)), .inl (1596 + 12 * a), .inr 163]) (as := [.inr 162, .inl (M 163 (1595 + 12 * a)), .inl (b)]) (xi158 29) (by decide) xm120 rfl ⟨rfl, Nat.le_of_ble_eq_true rfl, by decide⟩ (Or.inr (x_okt (ok_mo hS))) (k_mfar hS tl0.1 (M 163 (1595 + 12 * a)) b (970 + 12 * M 163 (1595 + 12 * a) + b) (by omega) (by omega) (by omega)) ?_
      refine e_iadd (w := x_w (M 163 (1596 + 12 * a) + M 163 (970 + 12 * M 163 (1595 + 12 * a) + b))) (k := 30) (xi158 30) (x_wr (by omega)) ?_
      refine e_iast (k := 31) (xi158 31) (ok_all hS) (by rw [ln_all]; omega) ?_
      have tl5 : y_TL 1 M (x_up M 163 (1596 + 12 * a) (x_w (M 163 (1596 + 12 * a) + M 163 (970 + 12 * M 163 (1595 + 12 * a) + b)))) := tl_up tl0 (sl_aG2 (i := 1596 + 12 * a) (c := a) (by omega) (by omega)) (nf_aG2 (i := 1596 + 12 * a) (c := a) (by omega) (by omega))
      refine e_aload (k := 32) (xi158 32) rfl (by decide) ?_
      refine e_getR (j := 0) (w := 163) (k := 33) (xi158 33) (ok_mo hS) rfl (sh_all hS) ?_
      refine e_iload (k := 34) (xi158 34) rfl ?_
      refine e_iconst (k := 35) (xi158 35) ?_
      refine e_iadd (w := 1595 + 12 * a) (k := 36) (xi158 36) (x_wn (by omega)) ?_
      refine e_iload (k := 37) (xi158 37) rfl ?_
      refine e_iast (k := 38) (xi158 38) (ok_all hS) (by rw [ln_all]; omega) ?_
      have tl6 : y_TL 1 M (x_up ((x_up M 163 (1596 + 12 * a) (x_w (M 163 (1596 + 12 * a) + M 163 (970 + 12 * M 163 (1595 + 12 * a) + b))))) 163 (1595 + 12 * a) b) := tl_up tl5 (sl_aG1 (i := 1595 + 12 * a) (c := a) (by omega) (by omega) (by omega)) (nf_aG1 (i := 1595 + 12 * a) (c := a) (by omega) (by omega))
      refine e_aload (k := 39) (xi158 39) rfl (by decide) ?_
      refine e_getR (j := 0) (w := 163) (k := 40) (xi158 40) (ok_mo hS) rfl (sh_all hS) ?_
      refine e_iload (k := 41) (xi158 41) rfl ?_
      refine e_iconst (k := 42) (xi158 42) ?_
      refine e_iadd (w := 1596 + 12 * a) (k := 43) (xi158 43) (x_wn (by omega)) ?_
      refine e_iald (w := x_w (M 163 (1596 + 12 * a) + M 163 (970 + 12 * M 163 (1595 + 12 * a) + b))) (k := 44) (xi158 44) (ok_all hS) (by rw [ln_all]; omega) (((x_up_nk (by omega)).trans x_up_self)) ?_
      refine e_iret (k := 45) (xi158 45) ?_
      exact y_fW (Q := fun _ => True) (show v_n_drive a b M = x_w (M 163 (1596 + 12 * a) + M 163 (970 + 12 * M 163 (1595 + 12 * a) + b)) from by rw [v_n_drive, if_pos c0, if_pos c1]) (show u_n_drive a b M = (x_up ((x_up M 163 (1596 + 12 * a) (x_w (M 163 (1596 + 12 * a) + M 163 (970 + 12 * M 163 (1595 + 12 * a) + b))))) 163 (1595 + 12 * a) b) from by rw [u_n_drive, if_pos c0, if_pos c1]) tl6 trivial
    · skip
      refine e_iconst (k := 8) (xi158 8) ?_
      refine e_iret (k := 9) (xi158 9) ?_
      exact y_fW (Q := fun _ => True) (show v_n_drive a b M = (-1) from by rw [v_n_drive, if_pos c0, if_neg c1]) (show u_n_drive a b M = M from by rw [u_n_drive, if_pos c0, if_neg c1]) tl0 trivial
  · skip
    refine e_iconst (k := 8) (xi158 8) ?_
    refine e_iret (k := 9) (xi158 9) ?_
    exact y_fW (Q := fun _ => True) (show v_n_drive a b M = (-1) from by rw [v_n_drive, if_neg c0]) (show u_n_drive a b M = M from by rw [u_n_drive, if_neg c0]) tl0 trivial
def v_n_pick (a b : Int) (M : Int → Int → Int) : Int := if 0 ≤ a ∧ a < M 163 2 then (if (0 ≤ (M 163 (1595 + 12 * a)) ∧ (M 163 (1595 + 12 * a)) < M 163 0) ∧ 0 ≤ b ∧ b < M 163 (10 + 80 * (M 163 (1595 + 12 * a))) then (if M 163 (11 + 80 * M 163 (1595 + 12 * a) + b) < 0 then (-1) else if ¬ v_m_allows a (M 163 (11 + 80 * M 163 (1595 + 12 * a) + b)) M = 0 then M 163 (11 + 80 * M 163 (1595 + 12 * a) + b) else (-1)) else (-1)) else (-1)
def u_n_pick (a b : Int) (M : Int → Int → Int) : Int → Int → Int := if 0 ≤ a ∧ a < M 163 2 then (if (0 ≤ (M 163 (1595 + 12 * a)) ∧ (M 163 (1595 + 12 * a)) < M 163 0) ∧ 0 ≤ b ∧ b < M 163 (10 + 80 * (M 163 (1595 + 12 * a))) then (if M 163 (11 + 80 * M 163 (1595 + 12 * a) + b) < 0 then M else if ¬ v_m_allows a (M 163 (11 + 80 * M 163 (1595 + 12 * a) + b)) M = 0 then (u_m_climbs a (M 163 (11 + 80 * M 163 (1595 + 12 * a) + b)) ((u_m_leaves (M 163 (11 + 80 * M 163 (1595 + 12 * a) + b)) M))) else M) else M) else M
theorem k_n_pick {z : Int} {P M : Int → Int → Int} (hS : x_Sh z P) (hT : y_TC M) (a : Int) (b : Int)   : x_CallR 162 [.inr 162, .inl (a), .inl (b)] (z, P, M) (fun q => q = (some (.inl (v_n_pick a b M)), (z, P, u_n_pick a b M)) ∧ y_TL 1 M (u_n_pick a b M) ∧ True) := by
  have tl0 : y_TL 1 M M := tl_refl hT
  refine e_body (ls0 := [.inr 162, .inl (a), .inl (b), x_un, x_un]) xm162 rfl ?_
  refine e_aload (k := 0) (xi162 0) rfl (by decide) ?_
  refine e_iload (k := 1) (xi162 1) rfl ?_
  have t1 := ty_a2 tl0.1
  refine e_call (k := 2) (v := some (.inl (x_b (0 ≤ a ∧ a < M 163 2)))) (h1 := (z, P, M)) (c1 := 0) (c2 := 0) (rest := []) (as := [.inr 162, .inl (a)]) (xi162 2) (by decide) xm116 rfl ⟨rfl, Nat.le_of_ble_eq_true rfl, by decide⟩ (Or.inr (x_okt (ok_mo hS))) (k_isCart hS tl0.1 a  ) ?_
  refine e_b_ne (k := 3) (xi162 3) (fun c0 => ?_) (fun c0 => ?_)
  · skip
    refine e_aload (k := 6) (xi162 6) rfl (by decide) ?_
    refine e_getR (j := 0) (w := 163) (k := 7) (xi162 7) (ok_mo hS) rfl (sh_all hS) ?_
    refine e_aload (k := 8) (xi162 8) rfl (by decide) ?_
    refine e_iload (k := 9) (xi162 9) rfl ?_
    refine e_call (k := 10) (v := some (.inl (1594 + 12 * a))) (h1 := (z, P, M)) (c1 := 0) (c2 := 0) (rest := [.inr 163]) (as := [.inr 162, .inl (a)]) (xi162 10) (by decide) xm156 rfl ⟨rfl, Nat.le_of_ble_eq_true rfl, by decide⟩ (Or.inr (x_okt (ok_mo hS))) (k_mwagonAt hS tl0.1 a (by omega)) ?_
    refine e_iconst (k := 11) (xi162 11) ?_
    refine e_iadd (w := 1595 + 12 * a) (k := 12) (xi162 12) (x_wn (by omega)) ?_
    have t2 := ty_aG1 tl0.1 (i := 1595 + 12 * a) (c := a) (by omega) (by omega)
    refine e_iald (w := M 163 (1595 + 12 * a)) (k := 13) (xi162 13) (ok_all hS) (by rw [ln_all]; omega) rfl ?_
    refine e_istore (k := 14) (xi162 14) (Nat.le_of_ble_eq_true rfl) ?_
    show x_Ev 162 15 [.inr 162, .inl (a), .inl (b), .inl (M 163 (1595 + 12 * a)), x_un] [] (0, 0) (z, P, M) _
    refine e_aload (k := 15) (xi162 15) rfl (by decide) ?_
    refine e_iload (k := 16) (xi162 16) rfl ?_
    refine e_iload (k := 17) (xi162 17) rfl ?_
    have t3 := ty_a0 tl0.1
    refine e_call (k := 18) (v := some (.inl (x_b ((0 ≤ (M 163 (1595 + 12 * a)) ∧ (M 163 (1595 + 12 * a)) < M 163 0) ∧ 0 ≤ b ∧ b < M 163 (10 + 80 * (M 163 (1595 + 12 * a))))))) (h1 := (z, P, M)) (c1 := 0) (c2 := 0) (rest := []) (as := [.inr 162, .inl (M 163 (1595 + 12 * a)), .inl (b)]) (xi162 18) (by decide) xm125 rfl ⟨rfl, Nat.le_of_ble_eq_true rfl, by decide⟩ (Or.inr (x_okt (ok_mo hS))) (k_misDock hS tl0.1 (M 163 (1595 + 12 * a)) b  ) ?_
    refine e_b_eq (k := 19) (xi162 19) (fun c1 => ?_) (fun c1 => ?_)
    · skip
      have t4 := ty_aD tl0.1 (i := 10 + 80 * M 163 (1595 + 12 * a)) (s := M 163 (1595 + 12 * a)) (by omega) (by omega)
      refine e_aload (k := 20) (xi162 20) rfl (by decide) ?_
      refine e_getR (j := 0) (w := 163) (k := 21) (xi162 21) (ok_mo hS) rfl (sh_all hS) ?_
      refine e_aload (k := 22) (xi162 22) rfl (by decide) ?_
      refine e_iload (k := 23) (xi162 23) rfl ?_
      refine e_iload (k := 24) (xi162 24) rfl ?_
      refine e_call (k := 25) (v := some (.inl (11 + 80 * M 163 (1595 + 12 * a) + b))) (h1 := (z, P, M)) (c1 := 0) (c2 := 0) (rest := [.inr 163]) (as := [.inr 162, .inl (M 163 (1595 + 12 * a)), .inl (b)]) (xi162 25) (by decide) xm119 rfl ⟨rfl, Nat.le_of_ble_eq_true rfl, by decide⟩ (Or.inr (x_okt (ok_mo hS))) (k_mdockAt hS tl0.1 (M 163 (1595 + 12 * a)) b (by omega) (by omega)) ?_
      have t5 := ty_aC tl0.1 (i := 11 + 80 * M 163 (1595 + 12 * a) + b) (s := M 163 (1595 + 12 * a)) (d := b) (by omega) (by omega) (by omega)
      refine e_iald (w := M 163 (11 + 80 * M 163 (1595 + 12 * a) + b)) (k := 26) (xi162 26) (ok_all hS) (by rw [ln_all]; omega) rfl ?_
      refine e_goto (k := 27) (xi162 27) ?_
      refine e_istore (k := 29) (xi162 29) (Nat.le_of_ble_eq_true rfl) ?_
      show x_Ev 162 30 [.inr 162, .inl (a), .inl (b), .inl (M 163 (1595 + 12 * a)), .inl (M 163 (11 + 80 * M 163 (1595 + 12 * a) + b))] [] (0, 0) (z, P, M) _
      refine e_iload (k := 30) (xi162 30) rfl ?_
      refine e_z_lt (k := 31) (xi162 31) (fun c2 => ?_) (fun c2 => ?_)
      · skip
        refine e_iconst (k := 37) (xi162 37) ?_
        refine e_iret (k := 38) (xi162 38) ?_
        exact y_fW (Q := fun _ => True) (show v_n_pick a b M = (-1) from by rw [v_n_pick, if_pos c0, if_pos c1, if_pos c2]) (show u_n_pick a b M = M from by rw [u_n_pick, if_pos c0, if_pos c1, if_pos c2]) tl0 trivial
      · skip
        refine e_aload (k := 32) (xi162 32) rfl (by decide) ?_
        refine e_iload (k := 33) (xi162 33) rfl ?_
        refine e_iload (k := 34) (xi162 34) rfl ?_
        refine e_callR (k := 35) (c1 := 0) (c2 := 0) (rest := []) (as := [.inr 162, .inl (a), .inl (M 163 (11 + 80 * M 163 (1595 + 12 * a) + b))]) (xi162 35) (by decide) xm160 rfl ⟨rfl, Nat.le_of_ble_eq_true rfl, by decide⟩ (Or.inr (x_okt (ok_mo hS))) (k_m_allows hS tl0.1 a (M 163 (11 + 80 * M 163 (1595 + 12 * a) + b))  (by omega) (by omega)) ?_
        rintro v_ h_ ⟨e6, q8⟩
        cases e6
        show x_Ev 162 36 [.inr 162, .inl (a), .inl (b), .inl (M 163 (1595 + 12 * a)), .inl (M 163 (11 + 80 * M 163 (1595 + 12 * a) + b))] [.inl (v_m_allows a (M 163 (11 + 80 * M 163 (1595 + 12 * a) + b)) M)] (0, 0) (z, P, M) _
        refine e_z_ne (k := 36) (xi162 36) (fun c3 => ?_) (fun c3 => ?_)
        · skip
          refine e_aload (k := 39) (xi162 39) rfl (by decide) ?_
          refine e_iload (k := 40) (xi162 40) rfl ?_
          refine e_callR (k := 41) (c1 := 0) (c2 := 0) (rest := []) (as := [.inr 162, .inl (M 163 (11 + 80 * M 163 (1595 + 12 * a) + b))]) (xi162 41) (by decide) xm137 rfl ⟨rfl, Nat.le_of_ble_eq_true rfl, by decide⟩ (Or.inr (x_okt (ok_mo hS))) (k_m_leaves hS tl0.1 (M 163 (11 + 80 * M 163 (1595 + 12 * a) + b))  (by omega)) ?_
          rintro v_ h_ ⟨e9, tl10⟩
          cases e9
          have tl12 := tl_trans tl0 (tl_15 tl10)
          have n13 := tl_n5 tl10
          have f0 := tl10.2 163 (1597 + 12 * a) (Or.inr (Or.inr (Or.inr (by omega))))
          show x_Ev 162 42 [.inr 162, .inl (a), .inl (b), .inl (M 163 (1595 + 12 * a)), .inl (M 163 (11 + 80 * M 163 (1595 + 12 * a) + b))] [] (0, 0) (z, P, (u_m_leaves (M 163 (11 + 80 * M 163 (1595 + 12 * a) + b)) M)) _
          refine e_aload (k := 42) (xi162 42) rfl (by decide) ?_
          refine e_iload (k := 43) (xi162 43) rfl ?_
          refine e_iload (k := 44) (xi162 44) rfl ?_
          have t14 := ty_aG3 tl12.1 (i := 1597 + 12 * a) (c := a) (by omega) (by omega)
          refine e_callR (k := 45) (c1 := 0) (c2 := 0) (rest := []) (as := [.inr 162, .inl (a), .inl (M 163 (11 + 80 * M 163 (1595 + 12 * a) + b))]) (xi162 45) (by decide) xm161 rfl ⟨rfl, Nat.le_of_ble_eq_true rfl, by decide⟩ (Or.inr (x_okt (ok_mo hS))) (k_m_climbs hS tl12.1 a (M 163 (11 + 80 * M 163 (1595 + 12 * a) + b))  (by omega) (by omega) (by omega)) ?_
          rintro v_ h_ ⟨e15, tl16⟩
          cases e15
          have tl18 := tl_trans tl12 (tl16)
          have n19 := tl_a tl16
          show x_Ev 162 46 [.inr 162, .inl (a), .inl (b), .inl (M 163 (1595 + 12 * a)), .inl (M 163 (11 + 80 * M 163 (1595 + 12 * a) + b))] [] (0, 0) (z, P, (u_m_climbs a (M 163 (11 + 80 * M 163 (1595 + 12 * a) + b)) ((u_m_leaves (M 163 (11 + 80 * M 163 (1595 + 12 * a) + b)) M)))) _
          refine e_iload (k := 46) (xi162 46) rfl ?_
          refine e_iret (k := 47) (xi162 47) ?_
          exact y_fW (Q := fun _ => True) (show v_n_pick a b M = M 163 (11 + 80 * M 163 (1595 + 12 * a) + b) from by rw [v_n_pick, if_pos c0, if_pos c1, if_neg c2, if_pos c3]) (show u_n_pick a b M = (u_m_climbs a (M 163 (11 + 80 * M 163 (1595 + 12 * a) + b)) ((u_m_leaves (M 163 (11 + 80 * M 163 (1595 + 12 * a) + b)) M))) from by rw [u_n_pick, if_pos c0, if_pos c1, if_neg c2, if_pos c3]) tl18 trivial
        · skip
          refine e_iconst (k := 37) (xi162 37) ?_
          refine e_iret (k := 38) (xi162 38) ?_
          exact y_fW (Q := fun _ => True) (show v_n_pick a b M = (-1) from by rw [v_n_pick, if_pos c0, if_pos c1, if_neg c2, if_neg c3]) (show u_n_pick a b M = M from by rw [u_n_pick, if_pos c0, if_pos c1, if_neg c2, if_neg c3]) tl0 trivial
    · skip
      refine e_iconst (k := 28) (xi162 28) ?_
      refine e_istore (k := 29) (xi162 29) (Nat.le_of_ble_eq_true rfl) ?_
      show x_Ev 162 30 [.inr 162, .inl (a), .inl (b), .inl (M 163 (1595 + 12 * a)), .inl ((-1))] [] (0, 0) (z, P, M) _
      refine e_iload (k := 30) (xi162 30) rfl ?_
      refine e_z_lt (k := 31) (xi162 31) (fun c4 => ?_) (fun q => absurd (by decide) q)
      refine e_iconst (k := 37) (xi162 37) ?_
      refine e_iret (k := 38) (xi162 38) ?_
      exact y_fW (Q := fun _ => True) (show v_n_pick a b M = (-1) from by rw [v_n_pick, if_pos c0, if_neg c1]) (show u_n_pick a b M = M from by rw [u_n_pick, if_pos c0, if_neg c1]) tl0 trivial
  · skip
    refine e_iconst (k := 4) (xi162 4) ?_
    refine e_iret (k := 5) (xi162 5) ?_
    exact y_fW (Q := fun _ => True) (show v_n_pick a b M = (-1) from by rw [v_n_pick, if_neg c0]) (show u_n_pick a b M = M from by rw [u_n_pick, if_neg c0]) tl0 trivial
def v_n_fetch (a b : Int) (M : Int → Int → Int) : Int := if 0 ≤ a ∧ a < M 163 2 then (if 0 ≤ b ∧ b < M 163 1 then (if ¬ M 163 (1116 + 8 * b) = 3 then 0 else if ¬ M 163 (1117 + 8 * b) = M 163 (1595 + 12 * a) then 0 else if ¬ v_m_allows a b M = 0 then 1 else 0) else 0) else 0
def u_n_fetch (a b : Int) (M : Int → Int → Int) : Int → Int → Int := if 0 ≤ a ∧ a < M 163 2 then (if 0 ≤ b ∧ b < M 163 1 then (if ¬ M 163 (1116 + 8 * b) = 3 then M else if ¬ M 163 (1117 + 8 * b) = M 163 (1595 + 12 * a) then M else if ¬ v_m_allows a b M = 0 then (u_m_climbs a b M) else M) else M) else M
theorem k_n_fetch {z : Int} {P M : Int → Int → Int} (hS : x_Sh z P) (hT : y_TC M) (a : Int) (b : Int)   : x_CallR 163 [.inr 162, .inl (a), .inl (b)] (z, P, M) (fun q => q = (some (.inl (v_n_fetch a b M)), (z, P, u_n_fetch a b M)) ∧ y_TL 1 M (u_n_fetch a b M) ∧ True) := by
  have tl0 : y_TL 1 M M := tl_refl hT
  refine e_body (ls0 := [.inr 162, .inl (a), .inl (b)]) xm163 rfl ?_
  refine e_aload (k := 0) (xi163 0) rfl (by decide) ?_
  refine e_iload (k := 1) (xi163 1) rfl ?_
  have t1 := ty_a2 tl0.1
  refine e_call (k := 2) (v := some (.inl (x_b (0 ≤ a ∧ a < M 163 2)))) (h1 := (z, P, M)) (c1 := 0) (c2 := 0) (rest := []) (as := [.inr 162, .inl (a)]) (xi163 2) (by decide) xm116 rfl ⟨rfl, Nat.le_of_ble_eq_true rfl, by decide⟩ (Or.inr (x_okt (ok_mo hS))) (k_isCart hS tl0.1 a  ) ?_
  refine e_b_eq (k := 3) (xi163 3) (fun c0 => ?_) (fun c0 => ?_)
  · skip
    refine e_aload (k := 4) (xi163 4) rfl (by decide) ?_
    refine e_iload (k := 5) (xi163 5) rfl ?_
    have t2 := ty_a1 tl0.1
    refine e_call (k := 6) (v := some (.inl (x_b (0 ≤ b ∧ b < M 163 1)))) (h1 := (z, P, M)) (c1 := 0) (c2 := 0) (rest := []) (as := [.inr 162, .inl (b)]) (xi163 6) (by decide) xm115 rfl ⟨rfl, Nat.le_of_ble_eq_true rfl, by decide⟩ (Or.inr (x_okt (ok_mo hS))) (k_isWheel hS tl0.1 b  ) ?_
    refine e_b_eq (k := 7) (xi163 7) (fun c1 => ?_) (fun c1 => ?_)
    · skip
      refine e_aload (k := 8) (xi163 8) rfl (by decide) ?_
      refine e_iload (k := 9) (xi163 9) rfl ?_
      refine e_iconst (k := 10) (xi163 10) ?_
      have t3 := ty_aW2 tl0.1 (i := 1116 + 8 * b) (w := b) (by omega) (by omega)
      refine e_call (k := 11) (v := some (.inl (M 163 (1116 + 8 * b)))) (h1 := (z, P, M)) (c1 := 0) (c2 := 0) (rest := []) (as := [.inr 162, .inl (b), .inl 2]) (xi163 11) (by decide) xm129 rfl ⟨rfl, Nat.le_of_ble_eq_true rfl, by decide⟩ (Or.inr (x_okt (ok_mo hS))) (k_mof hS tl0.1 b 2 (1116 + 8 * b) (by omega) (by omega) (by omega)) ?_
      refine e_iconst (k := 12) (xi163 12) ?_
      refine e_c_ne (k := 13) (xi163 13) (fun c2 => ?_) (fun c2 => ?_)
      · skip
        refine e_iconst (k := 32) (xi163 32) ?_
        refine e_zret (k := 33) (xi163 33) (by first | decide | omega) ?_
        exact y_fW (Q := fun _ => True) (show v_n_fetch a b M = 0 from by rw [v_n_fetch, if_pos c0, if_pos c1, if_pos c2]) (show u_n_fetch a b M = M from by rw [u_n_fetch, if_pos c0, if_pos c1, if_pos c2]) tl0 trivial
      · skip
        refine e_aload (k := 14) (xi163 14) rfl (by decide) ?_
        refine e_iload (k := 15) (xi163 15) rfl ?_
        refine e_iconst (k := 16) (xi163 16) ?_
        have t4 := ty_aW3 tl0.1 (i := 1117 + 8 * b) (w := b) (by omega) (by omega)
        refine e_call (k := 17) (v := some (.inl (M 163 (1117 + 8 * b)))) (h1 := (z, P, M)) (c1 := 0) (c2 := 0) (rest := []) (as := [.inr 162, .inl (b), .inl 3]) (xi163 17) (by decide) xm129 rfl ⟨rfl, Nat.le_of_ble_eq_true rfl, by decide⟩ (Or.inr (x_okt (ok_mo hS))) (k_mof hS tl0.1 b 3 (1117 + 8 * b) (by omega) (by omega) (by omega)) ?_
        refine e_aload (k := 18) (xi163 18) rfl (by decide) ?_
        refine e_getR (j := 0) (w := 163) (k := 19) (xi163 19) (ok_mo hS) rfl (sh_all hS) ?_
        refine e_aload (k := 20) (xi163 20) rfl (by decide) ?_
        refine e_iload (k := 21) (xi163 21) rfl ?_
        refine e_call (k := 22) (v := some (.inl (1594 + 12 * a))) (h1 := (z, P, M)) (c1 := 0) (c2 := 0) (rest := [.inr 163, .inl (M 163 (1117 + 8 * b))]) (as := [.inr 162, .inl (a)]) (xi163 22) (by decide) xm156 rfl ⟨rfl, Nat.le_of_ble_eq_true rfl, by decide⟩ (Or.inr (x_okt (ok_mo hS))) (k_mwagonAt hS tl0.1 a (by omega)) ?_
        refine e_iconst (k := 23) (xi163 23) ?_
        refine e_iadd (w := 1595 + 12 * a) (k := 24) (xi163 24) (x_wn (by omega)) ?_
        have t5 := ty_aG1 tl0.1 (i := 1595 + 12 * a) (c := a) (by omega) (by omega)
        refine e_iald (w := M 163 (1595 + 12 * a)) (k := 25) (xi163 25) (ok_all hS) (by rw [ln_all]; omega) rfl ?_
        refine e_c_ne (k := 26) (xi163 26) (fun c3 => ?_) (fun c3 => ?_)
        · skip
          refine e_iconst (k := 32) (xi163 32) ?_
          refine e_zret (k := 33) (xi163 33) (by first | decide | omega) ?_
          exact y_fW (Q := fun _ => True) (show v_n_fetch a b M = 0 from by rw [v_n_fetch, if_pos c0, if_pos c1, if_neg c2, if_pos c3]) (show u_n_fetch a b M = M from by rw [u_n_fetch, if_pos c0, if_pos c1, if_neg c2, if_pos c3]) tl0 trivial
        · skip
          refine e_aload (k := 27) (xi163 27) rfl (by decide) ?_
          refine e_iload (k := 28) (xi163 28) rfl ?_
          refine e_iload (k := 29) (xi163 29) rfl ?_
          refine e_callR (k := 30) (c1 := 0) (c2 := 0) (rest := []) (as := [.inr 162, .inl (a), .inl (b)]) (xi163 30) (by decide) xm160 rfl ⟨rfl, Nat.le_of_ble_eq_true rfl, by decide⟩ (Or.inr (x_okt (ok_mo hS))) (k_m_allows hS tl0.1 a b  (by omega) (by omega)) ?_
          rintro v_ h_ ⟨e6, q8⟩
          cases e6
          show x_Ev 163 31 [.inr 162, .inl (a), .inl (b)] [.inl (v_m_allows a b M)] (0, 0) (z, P, M) _
          refine e_z_ne (k := 31) (xi163 31) (fun c4 => ?_) (fun c4 => ?_)
          · skip
            refine e_aload (k := 34) (xi163 34) rfl (by decide) ?_
            refine e_iload (k := 35) (xi163 35) rfl ?_
            refine e_iload (k := 36) (xi163 36) rfl ?_
            have t9 := ty_aG3 tl0.1 (i := 1597 + 12 * a) (c := a) (by omega) (by omega)
            refine e_callR (k := 37) (c1 := 0) (c2 := 0) (rest := []) (as := [.inr 162, .inl (a), .inl (b)]) (xi163 37) (by decide) xm161 rfl ⟨rfl, Nat.le_of_ble_eq_true rfl, by decide⟩ (Or.inr (x_okt (ok_mo hS))) (k_m_climbs hS tl0.1 a b  (by omega) (by omega) (by omega)) ?_
            rintro v_ h_ ⟨e10, tl11⟩
            cases e10
            have tl13 := tl_trans tl0 (tl11)
            have n14 := tl_a tl11
            show x_Ev 163 38 [.inr 162, .inl (a), .inl (b)] [] (0, 0) (z, P, (u_m_climbs a b M)) _
            refine e_iconst (k := 38) (xi163 38) ?_
            refine e_zret (k := 39) (xi163 39) (by first | decide | omega) ?_
            exact y_fW (Q := fun _ => True) (show v_n_fetch a b M = 1 from by rw [v_n_fetch, if_pos c0, if_pos c1, if_neg c2, if_neg c3, if_pos c4]) (show u_n_fetch a b M = (u_m_climbs a b M) from by rw [u_n_fetch, if_pos c0, if_pos c1, if_neg c2, if_neg c3, if_pos c4]) tl13 trivial
          · skip
            refine e_iconst (k := 32) (xi163 32) ?_
            refine e_zret (k := 33) (xi163 33) (by first | decide | omega) ?_
            exact y_fW (Q := fun _ => True) (show v_n_fetch a b M = 0 from by rw [v_n_fetch, if_pos c0, if_pos c1, if_neg c2, if_neg c3, if_neg c4]) (show u_n_fetch a b M = M from by rw [u_n_fetch, if_pos c0, if_pos c1, if_neg c2, if_neg c3, if_neg c4]) tl0 trivial
    · skip
      refine e_iconst (k := 32) (xi163 32) ?_
      refine e_zret (k := 33) (xi163 33) (by first | decide | omega) ?_
      exact y_fW (Q := fun _ => True) (show v_n_fetch a b M = 0 from by rw [v_n_fetch, if_pos c0, if_neg c1]) (show u_n_fetch a b M = M from by rw [u_n_fetch, if_pos c0, if_neg c1]) tl0 trivial
  · skip
    refine e_iconst (k := 32) (xi163 32) ?_
    refine e_zret (k := 33) (xi163 33) (by first | decide | omega) ?_
    exact y_fW (Q := fun _ => True) (show v_n_fetch a b M = 0 from by rw [v_n_fetch, if_neg c0]) (show u_n_fetch a b M = M from by rw [u_n_fetch, if_neg c0]) tl0 trivial
def l_n_drop_a (a w d : Int) : Nat → (Int → Int → Int) → Int → (Int → Int → Int) × Int
  | 0, M, j => (M, j)
  | k + 1, M, j => if M 163 (1597 + 12 * a) ≤ j then (M, j) else l_n_drop_a a w d k ((x_up M 163 (1598 + 12 * a + j) (M 163 (1599 + 12 * a + j)))) (1 + j)
theorem kl_n_drop_a {z : Int} {P M0 : Int → Int → Int} {r : Option xV × xH → Prop} (hS : x_Sh z P) (a : Int) (w : Int) (d : Int)  (hc : 0 ≤ a ∧ a < 3)  : ∀ k : Nat, ∀ M : (Int → Int → Int), ∀ j : Int, y_TL 1 M0 M → ((0 ≤ j ∧ j ≤ 8) ∧ M 163 (1597 + 12 * a) ≤ 7) → 8 - j < (k : Int) → (y_TL 1 M0 ((l_n_drop_a a w d k M j).1) → True → x_Ev 164 81 [.inr 162, .inl (a), .inl (1594 + 12 * a), .inl (w), .inl (d), .inl ((l_n_drop_a a w d k M j).2)] [] (0, 0) (z, P, (l_n_drop_a a w d k M j).1) r) → x_Ev 164 55 [.inr 162, .inl (a), .inl (1594 + 12 * a), .inl (w), .inl (d), .inl (j)] [] (0, 0) (z, P, M) r := by
  intro k
  induction k with
  | zero => intro M j tl0 hi hm; omega
  | succ k ih =>
    intro M j tl0 hi hm kk
    refine e_iload (k := 55) (xi164 55) rfl ?_
    refine e_aload (k := 56) (xi164 56) rfl (by decide) ?_
    refine e_getR (j := 0) (w := 163) (k := 57) (xi164 57) (ok_mo hS) rfl (sh_all hS) ?_
    refine e_iload (k := 58) (xi164 58) rfl ?_
    refine e_iconst (k := 59) (xi164 59) ?_
    refine e_iadd (w := 1597 + 12 * a) (k := 60) (xi164 60) (x_wn (by omega)) ?_
    have t1 := ty_aG3 tl0.1 (i := 1597 + 12 * a) (c := a) (by omega) (by omega)
    refine e_iald (w := M 163 (1597 + 12 * a)) (k := 61) (xi164 61) (ok_all hS) (by rw [ln_all]; omega) rfl ?_
    refine e_c_ge (k := 62) (xi164 62) (fun c0 => ?_) (fun c0 => ?_)
    · skip
      rw [(show l_n_drop_a a w d (k + 1) M j = (M, j) from by rw [l_n_drop_a, if_pos c0])] at kk
      try dsimp only at kk
      exact kk tl0 (by first | exact trivial | omega)
    · skip
      refine e_aload (k := 63) (xi164 63) rfl (by decide) ?_
      refine e_getR (j := 0) (w := 163) (k := 64) (xi164 64) (ok_mo hS) rfl (sh_all hS) ?_
      refine e_iload (k := 65) (xi164 65) rfl ?_
      refine e_iconst (k := 66) (xi164 66) ?_
      refine e_iadd (w := 1598 + 12 * a) (k := 67) (xi164 67) (x_wn (by omega)) ?_
      refine e_iload (k := 68) (xi164 68) rfl ?_
      refine e_iadd (w := 1598 + 12 * a + j) (k := 69) (xi164 69) (x_wn (by omega)) ?_
      refine e_aload (k := 70) (xi164 70) rfl (by decide) ?_
      refine e_getR (j := 0) (w := 163) (k := 71) (xi164 71) (ok_mo hS) rfl (sh_all hS) ?_
      refine e_iload (k := 72) (xi164 72) rfl ?_
      refine e_iconst (k := 73) (xi164 73) ?_
      refine e_iadd (w := 1599 + 12 * a) (k := 74) (xi164 74) (x_wn (by omega)) ?_
      refine e_iload (k := 75) (xi164 75) rfl ?_
      refine e_iadd (w := 1599 + 12 * a + j) (k := 76) (xi164 76) (x_wn (by omega)) ?_
      have t2 := ty_aR tl0.1 (i := 1599 + 12 * a + j) (c := a) (d := 1 + j) (by omega) (by omega) (by omega)
      refine e_iald (w := M 163 (1599 + 12 * a + j)) (k := 77) (xi164 77) (ok_all hS) (by rw [ln_all]; omega) rfl ?_
      refine e_iast (k := 78) (xi164 78) (ok_all hS) (by rw [ln_all]; omega) ?_
      have tl3 : y_TL 1 M0 (x_up M 163 (1598 + 12 * a + j) (M 163 (1599 + 12 * a + j))) := tl_up tl0 (sl_aR (i := 1598 + 12 * a + j) (c := a) (d := j) (by omega) (by omega) (by omega) (by omega)) (nf_aR (i := 1598 + 12 * a + j) (c := a) (d := j) (by omega) (by omega) (by omega))
      refine e_iinc (w := 1 + j) (k := 79) (xi164 79) rfl (x_wn (by omega)) ?_
      show x_Ev 164 80 [.inr 162, .inl (a), .inl (1594 + 12 * a), .inl (w), .inl (d), .inl (1 + j)] [] (0, 0) (z, P, (x_up M 163 (1598 + 12 * a + j) (M 163 (1599 + 12 * a + j)))) _
      refine e_goto (k := 80) (xi164 80) ?_
      have t4 := ty_aG3 tl3.1 (i := 1597 + 12 * a) (c := a) (by omega) (by omega)
      have t5 : ((x_up M 163 (1598 + 12 * a + j) (M 163 (1599 + 12 * a + j)))) 163 (1597 + 12 * a) = M 163 (1597 + 12 * a) := ((x_up_nk (by omega)).trans rfl)
      rw [(show l_n_drop_a a w d (k + 1) M j = l_n_drop_a a w d k ((x_up M 163 (1598 + 12 * a + j) (M 163 (1599 + 12 * a + j)))) (1 + j) from by rw [l_n_drop_a, if_neg c0])] at kk
      exact ih ((x_up M 163 (1598 + 12 * a + j) (M 163 (1599 + 12 * a + j)))) (1 + j) tl3 (by omega) (by omega) kk
def v_n_drop (a : Int) (M : Int → Int → Int) : Int := if 0 ≤ a ∧ a < M 163 2 then (if ¬ M 163 (1597 + 12 * a) = 0 then (if 0 ≤ v_m_room (M 163 (1114 + 8 * M 163 (1598 + 12 * a))) (M 163 (1595 + 12 * a)) M then v_m_room (M 163 (1114 + 8 * M 163 (1598 + 12 * a))) (M 163 (1595 + 12 * a)) M else (-1)) else (-1)) else (-1)
def u_n_drop (a : Int) (M : Int → Int → Int) : Int → Int → Int := if 0 ≤ a ∧ a < M 163 2 then (if ¬ M 163 (1597 + 12 * a) = 0 then (if 0 ≤ v_m_room (M 163 (1114 + 8 * M 163 (1598 + 12 * a))) (M 163 (1595 + 12 * a)) M then (x_up ((u_m_comes (M 163 (1598 + 12 * a)) (((l_n_drop_a a (M 163 (1598 + 12 * a)) (v_m_room (M 163 (1114 + 8 * M 163 (1598 + 12 * a))) (M 163 (1595 + 12 * a)) M) 9 ((x_up M 163 (1597 + 12 * a) ((-1) + M 163 (1597 + 12 * a)))) 0).1) 163 (1595 + 12 * a)) (v_m_room (M 163 (1114 + 8 * M 163 (1598 + 12 * a))) (M 163 (1595 + 12 * a)) M) ((l_n_drop_a a (M 163 (1598 + 12 * a)) (v_m_room (M 163 (1114 + 8 * M 163 (1598 + 12 * a))) (M 163 (1595 + 12 * a)) M) 9 ((x_up M 163 (1597 + 12 * a) ((-1) + M 163 (1597 + 12 * a)))) 0).1))) 163 (1119 + 8 * M 163 (1598 + 12 * a)) 0) else M) else M) else M
theorem k_n_drop {z : Int} {P M : Int → Int → Int} (hS : x_Sh z P) (hT : y_TC M) (a : Int)   : x_CallR 164 [.inr 162, .inl (a)] (z, P, M) (fun q => q = (some (.inl (v_n_drop a M)), (z, P, u_n_drop a M)) ∧ y_TL 1 M (u_n_drop a M) ∧ True) := by
  have tl0 : y_TL 1 M M := tl_refl hT
  refine e_body (ls0 := [.inr 162, .inl (a), x_un, x_un, x_un, x_un]) xm164 rfl ?_
  refine e_aload (k := 0) (xi164 0) rfl (by decide) ?_
  refine e_iload (k := 1) (xi164 1) rfl ?_
  have t1 := ty_a2 tl0.1
  refine e_call (k := 2) (v := some (.inl (x_b (0 ≤ a ∧ a < M 163 2)))) (h1 := (z, P, M)) (c1 := 0) (c2 := 0) (rest := []) (as := [.inr 162, .inl (a)]) (xi164 2) (by decide) xm116 rfl ⟨rfl, Nat.le_of_ble_eq_true rfl, by decide⟩ (Or.inr (x_okt (ok_mo hS))) (k_isCart hS tl0.1 a  ) ?_
  refine e_b_ne (k := 3) (xi164 3) (fun c0 => ?_) (fun c0 => ?_)
  · skip
    refine e_aload (k := 6) (xi164 6) rfl (by decide) ?_
    refine e_iload (k := 7) (xi164 7) rfl ?_
    refine e_call (k := 8) (v := some (.inl (1594 + 12 * a))) (h1 := (z, P, M)) (c1 := 0) (c2 := 0) (rest := []) (as := [.inr 162, .inl (a)]) (xi164 8) (by decide) xm156 rfl ⟨rfl, Nat.le_of_ble_eq_true rfl, by decide⟩ (Or.inr (x_okt (ok_mo hS))) (k_mwagonAt hS tl0.1 a (by omega)) ?_
    refine e_istore (k := 9) (xi164 9) (Nat.le_of_ble_eq_true rfl) ?_
    show x_Ev 164 10 [.inr 162, .inl (a), .inl (1594 + 12 * a), x_un, x_un, x_un] [] (0, 0) (z, P, M) _
    refine e_aload (k := 10) (xi164 10) rfl (by decide) ?_
    refine e_getR (j := 0) (w := 163) (k := 11) (xi164 11) (ok_mo hS) rfl (sh_all hS) ?_
    refine e_iload (k := 12) (xi164 12) rfl ?_
    refine e_iconst (k := 13) (xi164 13) ?_
    refine e_iadd (w := 1597 + 12 * a) (k := 14) (xi164 14) (x_wn (by omega)) ?_
    have t2 := ty_aG3 tl0.1 (i := 1597 + 12 * a) (c := a) (by omega) (by omega)
    refine e_iald (w := M 163 (1597 + 12 * a)) (k := 15) (xi164 15) (ok_all hS) (by rw [ln_all]; omega) rfl ?_
    refine e_z_ne (k := 16) (xi164 16) (fun c1 => ?_) (fun c1 => ?_)
    · skip
      refine e_aload (k := 19) (xi164 19) rfl (by decide) ?_
      refine e_getR (j := 0) (w := 163) (k := 20) (xi164 20) (ok_mo hS) rfl (sh_all hS) ?_
      refine e_iload (k := 21) (xi164 21) rfl ?_
      refine e_iconst (k := 22) (xi164 22) ?_
      refine e_iadd (w := 1598 + 12 * a) (k := 23) (xi164 23) (x_wn (by omega)) ?_
      have t3 := ty_aR tl0.1 (i := 1598 + 12 * a) (c := a) (d := 0) (by omega) (by omega) (by omega)
      refine e_iald (w := M 163 (1598 + 12 * a)) (k := 24) (xi164 24) (ok_all hS) (by rw [ln_all]; omega) rfl ?_
      refine e_istore (k := 25) (xi164 25) (Nat.le_of_ble_eq_true rfl) ?_
      show x_Ev 164 26 [.inr 162, .inl (a), .inl (1594 + 12 * a), .inl (M 163 (1598 + 12 * a)), x_un, x_un] [] (0, 0) (z, P, M) _
      refine e_aload (k := 26) (xi164 26) rfl (by decide) ?_
      refine e_aload (k := 27) (xi164 27) rfl (by decide) ?_
      refine e_iload (k := 28) (xi164 28) rfl ?_
      refine e_iconst (k := 29) (xi164 29) ?_
      have t4 := ty_aW0 tl0.1 (i := 1114 + 8 * M 163 (1598 + 12 * a)) (w := M 163 (1598 + 12 * a)) (by omega) (by omega)
      refine e_call (k := 30) (v := some (.inl (M 163 (1114 + 8 * M 163 (1598 + 12 * a))))) (h1 := (z, P, M)) (c1 := 0) (c2 := 0) (rest := [.inr 162]) (as := [.inr 162, .inl (M 163 (1598 + 12 * a)), .inl 0]) (xi164 30) (by decide) xm129 rfl ⟨rfl, Nat.le_of_ble_eq_true rfl, by decide⟩ (Or.inr (x_okt (ok_mo hS))) (k_mof hS tl0.1 (M 163 (1598 + 12 * a)) 0 (1114 + 8 * M 163 (1598 + 12 * a)) (by omega) (by omega) (by omega)) ?_
      refine e_aload (k := 31) (xi164 31) rfl (by decide) ?_
      refine e_getR (j := 0) (w := 163) (k := 32) (xi164 32) (ok_mo hS) rfl (sh_all hS) ?_
      refine e_iload (k := 33) (xi164 33) rfl ?_
      refine e_iconst (k := 34) (xi164 34) ?_
      refine e_iadd (w := 1595 + 12 * a) (k := 35) (xi164 35) (x_wn (by omega)) ?_
      have t5 := ty_aG1 tl0.1 (i := 1595 + 12 * a) (c := a) (by omega) (by omega)
      refine e_iald (w := M 163 (1595 + 12 * a)) (k := 36) (xi164 36) (ok_all hS) (by rw [ln_all]; omega) rfl ?_
      refine e_callR (k := 37) (c1 := 0) (c2 := 0) (rest := []) (as := [.inr 162, .inl (M 163 (1114 + 8 * M 163 (1598 + 12 * a))), .inl (M 163 (1595 + 12 * a))]) (xi164 37) (by decide) xm135 rfl ⟨rfl, Nat.le_of_ble_eq_true rfl, by decide⟩ (Or.inr (x_okt (ok_mo hS))) (k_m_room hS tl0.1 (M 163 (1114 + 8 * M 163 (1598 + 12 * a))) (M 163 (1595 + 12 * a))  (by omega)) ?_
      rintro v_ h_ ⟨e6, q8⟩
      cases e6
      show x_Ev 164 38 [.inr 162, .inl (a), .inl (1594 + 12 * a), .inl (M 163 (1598 + 12 * a)), x_un, x_un] [.inl (v_m_room (M 163 (1114 + 8 * M 163 (1598 + 12 * a))) (M 163 (1595 + 12 * a)) M)] (0, 0) (z, P, M) _
      refine e_istore (k := 38) (xi164 38) (Nat.le_of_ble_eq_true rfl) ?_
      show x_Ev 164 39 [.inr 162, .inl (a), .inl (1594 + 12 * a), .inl (M 163 (1598 + 12 * a)), .inl (v_m_room (M 163 (1114 + 8 * M 163 (1598 + 12 * a))) (M 163 (1595 + 12 * a)) M), x_un] [] (0, 0) (z, P, M) _
      refine e_iload (k := 39) (xi164 39) rfl ?_
      refine e_z_ge (k := 40) (xi164 40) (fun c2 => ?_) (fun c2 => ?_)
      · skip
        refine e_aload (k := 43) (xi164 43) rfl (by decide) ?_
        refine e_getR (j := 0) (w := 163) (k := 44) (xi164 44) (ok_mo hS) rfl (sh_all hS) ?_
        refine e_iload (k := 45) (xi164 45) rfl ?_
        refine e_iconst (k := 46) (xi164 46) ?_
        refine e_iadd (w := 1597 + 12 * a) (k := 47) (xi164 47) (x_wn (by omega)) ?_
        refine e_dup2 (k := 48) (xi164 48) ?_
        refine e_iald (w := M 163 (1597 + 12 * a)) (k := 49) (xi164 49) (ok_all hS) (by rw [ln_all]; omega) rfl ?_
        refine e_iconst (k := 50) (xi164 50) ?_
        refine e_isub (w := (-1) + M 163 (1597 + 12 * a)) (k := 51) (xi164 51) (x_wn (by omega)) ?_
        refine e_iast (k := 52) (xi164 52) (ok_all hS) (by rw [ln_all]; omega) ?_
        have tl9 : y_TL 1 M (x_up M 163 (1597 + 12 * a) ((-1) + M 163 (1597 + 12 * a))) := tl_up tl0 (sl_aG3 (i := 1597 + 12 * a) (c := a) (by omega) (by omega) (by omega)) (nf_aG3 (i := 1597 + 12 * a) (c := a) (by omega) (by omega))
        refine e_iconst (k := 53) (xi164 53) ?_
        refine e_istore (k := 54) (xi164 54) (Nat.le_of_ble_eq_true rfl) ?_
        show x_Ev 164 55 [.inr 162, .inl (a), .inl (1594 + 12 * a), .inl (M 163 (1598 + 12 * a)), .inl (v_m_room (M 163 (1114 + 8 * M 163 (1598 + 12 * a))) (M 163 (1595 + 12 * a)) M), .inl 0] [] (0, 0) (z, P, (x_up M 163 (1597 + 12 * a) ((-1) + M 163 (1597 + 12 * a)))) _
        have t10 := ty_aG3 tl9.1 (i := 1597 + 12 * a) (c := a) (by omega) (by omega)
        have t11 : ((x_up M 163 (1597 + 12 * a) ((-1) + M 163 (1597 + 12 * a)))) 163 (1597 + 12 * a) = (-1) + M 163 (1597 + 12 * a) := x_up_self
        refine kl_n_drop_a hS a (M 163 (1598 + 12 * a)) (v_m_room (M 163 (1114 + 8 * M 163 (1598 + 12 * a))) (M 163 (1595 + 12 * a)) M)   (by omega) 9 ((x_up M 163 (1597 + 12 * a) ((-1) + M 163 (1597 + 12 * a)))) 0 tl9 (by omega) (by omega) ?_
        intro tl12 q13
        show x_Ev 164 81 [.inr 162, .inl (a), .inl (1594 + 12 * a), .inl (M 163 (1598 + 12 * a)), .inl (v_m_room (M 163 (1114 + 8 * M 163 (1598 + 12 * a))) (M 163 (1595 + 12 * a)) M), .inl ((l_n_drop_a a (M 163 (1598 + 12 * a)) (v_m_room (M 163 (1114 + 8 * M 163 (1598 + 12 * a))) (M 163 (1595 + 12 * a)) M) 9 ((x_up M 163 (1597 + 12 * a) ((-1) + M 163 (1597 + 12 * a)))) 0).2)] [] (0, 0) (z, P, (l_n_drop_a a (M 163 (1598 + 12 * a)) (v_m_room (M 163 (1114 + 8 * M 163 (1598 + 12 * a))) (M 163 (1595 + 12 * a)) M) 9 ((x_up M 163 (1597 + 12 * a) ((-1) + M 163 (1597 + 12 * a)))) 0).1) _
        refine e_aload (k := 81) (xi164 81) rfl (by decide) ?_
        refine e_iload (k := 82) (xi164 82) rfl ?_
        refine e_aload (k := 83) (xi164 83) rfl (by decide) ?_
        refine e_getR (j := 0) (w := 163) (k := 84) (xi164 84) (ok_mo hS) rfl (sh_all hS) ?_
        refine e_iload (k := 85) (xi164 85) rfl ?_
        refine e_iconst (k := 86) (xi164 86) ?_
        refine e_iadd (w := 1595 + 12 * a) (k := 87) (xi164 87) (x_wn (by omega)) ?_
        have t14 := ty_aG1 tl12.1 (i := 1595 + 12 * a) (c := a) (by omega) (by omega)
        refine e_iald (w := ((l_n_drop_a a (M 163 (1598 + 12 * a)) (v_m_room (M 163 (1114 + 8 * M 163 (1598 + 12 * a))) (M 163 (1595 + 12 * a)) M) 9 ((x_up M 163 (1597 + 12 * a) ((-1) + M 163 (1597 + 12 * a)))) 0).1) 163 (1595 + 12 * a)) (k := 88) (xi164 88) (ok_all hS) (by rw [ln_all]; omega) rfl ?_
        refine e_iload (k := 89) (xi164 89) rfl ?_
        refine e_callR (k := 90) (c1 := 0) (c2 := 0) (rest := []) (as := [.inr 162, .inl (M 163 (1598 + 12 * a)), .inl (((l_n_drop_a a (M 163 (1598 + 12 * a)) (v_m_room (M 163 (1114 + 8 * M 163 (1598 + 12 * a))) (M 163 (1595 + 12 * a)) M) 9 ((x_up M 163 (1597 + 12 * a) ((-1) + M 163 (1597 + 12 * a)))) 0).1) 163 (1595 + 12 * a)), .inl (v_m_room (M 163 (1114 + 8 * M 163 (1598 + 12 * a))) (M 163 (1595 + 12 * a)) M)]) (xi164 90) (by decide) xm136 rfl ⟨rfl, Nat.le_of_ble_eq_true rfl, by decide⟩ (Or.inr (x_okt (ok_mo hS))) (k_m_comes hS tl12.1 (M 163 (1598 + 12 * a)) (((l_n_drop_a a (M 163 (1598 + 12 * a)) (v_m_room (M 163 (1114 + 8 * M 163 (1598 + 12 * a))) (M 163 (1595 + 12 * a)) M) 9 ((x_up M 163 (1597 + 12 * a) ((-1) + M 163 (1597 + 12 * a)))) 0).1) 163 (1595 + 12 * a)) (v_m_room (M 163 (1114 + 8 * M 163 (1598 + 12 * a))) (M 163 (1595 + 12 * a)) M)  (by omega) (by omega) (by omega)) ?_
        rintro v_ h_ ⟨e15, tl16⟩
        cases e15
        have tl18 := tl_trans tl12 (tl_15 tl16)
        have n19 := tl_n5 tl16
        show x_Ev 164 91 [.inr 162, .inl (a), .inl (1594 + 12 * a), .inl (M 163 (1598 + 12 * a)), .inl (v_m_room (M 163 (1114 + 8 * M 163 (1598 + 12 * a))) (M 163 (1595 + 12 * a)) M), .inl ((l_n_drop_a a (M 163 (1598 + 12 * a)) (v_m_room (M 163 (1114 + 8 * M 163 (1598 + 12 * a))) (M 163 (1595 + 12 * a)) M) 9 ((x_up M 163 (1597 + 12 * a) ((-1) + M 163 (1597 + 12 * a)))) 0).2)] [] (0, 0) (z, P, (u_m_comes (M 163 (1598 + 12 * a)) (((l_n_drop_a a (M 163 (1598 + 12 * a)) (v_m_room (M 163 (1114 + 8 * M 163 (1598 + 12 * a))) (M 163 (1595 + 12 * a)) M) 9 ((x_up M 163 (1597 + 12 * a) ((-1) + M 163 (1597 + 12 * a)))) 0).1) 163 (1595 + 12 * a)) (v_m_room (M 163 (1114 + 8 * M 163 (1598 + 12 * a))) (M 163 (1595 + 12 * a)) M) ((l_n_drop_a a (M 163 (1598 + 12 * a)) (v_m_room (M 163 (1114 + 8 * M 163 (1598 + 12 * a))) (M 163 (1595 + 12 * a)) M) 9 ((x_up M 163 (1597 + 12 * a) ((-1) + M 163 (1597 + 12 * a)))) 0).1))) _
        refine e_aload (k := 91) (xi164 91) rfl (by decide) ?_
        refine e_iload (k := 92) (xi164 92) rfl ?_
        refine e_iconst (k := 93) (xi164 93) ?_
        refine e_iconst (k := 94) (xi164 94) ?_
        have tl20 : y_TL 1 M (x_up ((u_m_comes (M 163 (1598 + 12 * a)) (((l_n_drop_a a (M 163 (1598 + 12 * a)) (v_m_room (M 163 (1114 + 8 * M 163 (1598 + 12 * a))) (M 163 (1595 + 12 * a)) M) 9 ((x_up M 163 (1597 + 12 * a) ((-1) + M 163 (1597 + 12 * a)))) 0).1) 163 (1595 + 12 * a)) (v_m_room (M 163 (1114 + 8 * M 163 (1598 + 12 * a))) (M 163 (1595 + 12 * a)) M) ((l_n_drop_a a (M 163 (1598 + 12 * a)) (v_m_room (M 163 (1114 + 8 * M 163 (1598 + 12 * a))) (M 163 (1595 + 12 * a)) M) 9 ((x_up M 163 (1597 + 12 * a) ((-1) + M 163 (1597 + 12 * a)))) 0).1))) 163 (1119 + 8 * M 163 (1598 + 12 * a)) 0) := tl_up tl18 (sl_aW5 (i := 1119 + 8 * M 163 (1598 + 12 * a)) (w := M 163 (1598 + 12 * a)) (by omega) (by omega)) (nf_aW5 (i := 1119 + 8 * M 163 (1598 + 12 * a)) (w := M 163 (1598 + 12 * a)) (by omega) (by omega))
        refine e_call (k := 95) (v := none) (h1 := (z, P, (x_up ((u_m_comes (M 163 (1598 + 12 * a)) (((l_n_drop_a a (M 163 (1598 + 12 * a)) (v_m_room (M 163 (1114 + 8 * M 163 (1598 + 12 * a))) (M 163 (1595 + 12 * a)) M) 9 ((x_up M 163 (1597 + 12 * a) ((-1) + M 163 (1597 + 12 * a)))) 0).1) 163 (1595 + 12 * a)) (v_m_room (M 163 (1114 + 8 * M 163 (1598 + 12 * a))) (M 163 (1595 + 12 * a)) M) ((l_n_drop_a a (M 163 (1598 + 12 * a)) (v_m_room (M 163 (1114 + 8 * M 163 (1598 + 12 * a))) (M 163 (1595 + 12 * a)) M) 9 ((x_up M 163 (1597 + 12 * a) ((-1) + M 163 (1597 + 12 * a)))) 0).1))) 163 (1119 + 8 * M 163 (1598 + 12 * a)) 0))) (c1 := 0) (c2 := 0) (rest := []) (as := [.inr 162, .inl (M 163 (1598 + 12 * a)), .inl 5, .inl 0]) (xi164 95) (by decide) xm130 rfl ⟨rfl, Nat.le_of_ble_eq_true rfl, by decide⟩ (Or.inr (x_okt (ok_mo hS))) (k_msets hS (M 163 (1598 + 12 * a)) 5 0 (1119 + 8 * M 163 (1598 + 12 * a)) (by omega) (by omega) (by omega)) ?_
        refine e_iload (k := 96) (xi164 96) rfl ?_
        refine e_iret (k := 97) (xi164 97) ?_
        exact y_fW (Q := fun _ => True) (show v_n_drop a M = v_m_room (M 163 (1114 + 8 * M 163 (1598 + 12 * a))) (M 163 (1595 + 12 * a)) M from by rw [v_n_drop, if_pos c0, if_pos c1, if_pos c2]) (show u_n_drop a M = (x_up ((u_m_comes (M 163 (1598 + 12 * a)) (((l_n_drop_a a (M 163 (1598 + 12 * a)) (v_m_room (M 163 (1114 + 8 * M 163 (1598 + 12 * a))) (M 163 (1595 + 12 * a)) M) 9 ((x_up M 163 (1597 + 12 * a) ((-1) + M 163 (1597 + 12 * a)))) 0).1) 163 (1595 + 12 * a)) (v_m_room (M 163 (1114 + 8 * M 163 (1598 + 12 * a))) (M 163 (1595 + 12 * a)) M) ((l_n_drop_a a (M 163 (1598 + 12 * a)) (v_m_room (M 163 (1114 + 8 * M 163 (1598 + 12 * a))) (M 163 (1595 + 12 * a)) M) 9 ((x_up M 163 (1597 + 12 * a) ((-1) + M 163 (1597 + 12 * a)))) 0).1))) 163 (1119 + 8 * M 163 (1598 + 12 * a)) 0) from by rw [u_n_drop, if_pos c0, if_pos c1, if_pos c2]) tl20 trivial
      · skip
        refine e_iconst (k := 41) (xi164 41) ?_
        refine e_iret (k := 42) (xi164 42) ?_
        exact y_fW (Q := fun _ => True) (show v_n_drop a M = (-1) from by rw [v_n_drop, if_pos c0, if_pos c1, if_neg c2]) (show u_n_drop a M = M from by rw [u_n_drop, if_pos c0, if_pos c1, if_neg c2]) tl0 trivial
    · skip
      refine e_iconst (k := 17) (xi164 17) ?_
      refine e_iret (k := 18) (xi164 18) ?_
      exact y_fW (Q := fun _ => True) (show v_n_drop a M = (-1) from by rw [v_n_drop, if_pos c0, if_neg c1]) (show u_n_drop a M = M from by rw [u_n_drop, if_pos c0, if_neg c1]) tl0 trivial
  · skip
    refine e_iconst (k := 4) (xi164 4) ?_
    refine e_iret (k := 5) (xi164 5) ?_
    exact y_fW (Q := fun _ => True) (show v_n_drop a M = (-1) from by rw [v_n_drop, if_neg c0]) (show u_n_drop a M = M from by rw [u_n_drop, if_neg c0]) tl0 trivial
def v_n_load (a b : Int) (M : Int → Int → Int) : Int := if 0 ≤ a ∧ a < M 163 2 then (if 0 ≤ b then (if b = 0 then M 163 (1594 + 12 * a + b) else if b = 1 then M 163 (1594 + 12 * a + b) else if b = 2 then v_m_taken a M else if b = 3 then M 163 (1596 + 12 * a) else if M 163 (1597 + 12 * a) ≤ (-4) + b then (-1) else M 163 (1594 + 12 * a + b)) else (-3)) else (-3)
theorem k_n_load {z : Int} {P M : Int → Int → Int} (hS : x_Sh z P) (hT : y_TC M) (a : Int) (b : Int)  (hb : b < 2147483648) : x_CallR 165 [.inr 162, .inl (a), .inl (b)] (z, P, M) (fun q => q = (some (.inl (v_n_load a b M)), (z, P, M)) ∧ True) := by
  refine e_body (ls0 := [.inr 162, .inl (a), .inl (b), x_un]) xm165 rfl ?_
  refine e_aload (k := 0) (xi165 0) rfl (by decide) ?_
  refine e_iload (k := 1) (xi165 1) rfl ?_
  have t1 := ty_a2 hT
  refine e_call (k := 2) (v := some (.inl (x_b (0 ≤ a ∧ a < M 163 2)))) (h1 := (z, P, M)) (c1 := 0) (c2 := 0) (rest := []) (as := [.inr 162, .inl (a)]) (xi165 2) (by decide) xm116 rfl ⟨rfl, Nat.le_of_ble_eq_true rfl, by decide⟩ (Or.inr (x_okt (ok_mo hS))) (k_isCart hS hT a  ) ?_
  refine e_b_eq (k := 3) (xi165 3) (fun c0 => ?_) (fun c0 => ?_)
  · skip
    refine e_iload (k := 4) (xi165 4) rfl ?_
    refine e_z_ge (k := 5) (xi165 5) (fun c1 => ?_) (fun c1 => ?_)
    · skip
      refine e_aload (k := 8) (xi165 8) rfl (by decide) ?_
      refine e_iload (k := 9) (xi165 9) rfl ?_
      refine e_call (k := 10) (v := some (.inl (1594 + 12 * a))) (h1 := (z, P, M)) (c1 := 0) (c2 := 0) (rest := []) (as := [.inr 162, .inl (a)]) (xi165 10) (by decide) xm156 rfl ⟨rfl, Nat.le_of_ble_eq_true rfl, by decide⟩ (Or.inr (x_okt (ok_mo hS))) (k_mwagonAt hS hT a (by omega)) ?_
      refine e_istore (k := 11) (xi165 11) (Nat.le_of_ble_eq_true rfl) ?_
      show x_Ev 165 12 [.inr 162, .inl (a), .inl (b), .inl (1594 + 12 * a)] [] (0, 0) (z, P, M) _
      refine e_iload (k := 12) (xi165 12) rfl ?_
      by_cases c2 : b = 0
      · skip
        refine e_sw (t2 := 14) (k := 13) (xi165 13) (by rw [c2]; decide +kernel) ?_
        refine e_aload (k := 14) (xi165 14) rfl (by decide) ?_
        refine e_getR (j := 0) (w := 163) (k := 15) (xi165 15) (ok_mo hS) rfl (sh_all hS) ?_
        refine e_iload (k := 16) (xi165 16) rfl ?_
        refine e_iload (k := 17) (xi165 17) rfl ?_
        refine e_iadd (w := 1594 + 12 * a + b) (k := 18) (xi165 18) (x_wn (by omega)) ?_
        refine e_iald (w := M 163 (1594 + 12 * a + b)) (k := 19) (xi165 19) (ok_all hS) (by rw [ln_all]; omega) rfl ?_
        refine e_iret (k := 20) (xi165 20) ?_
        exact y_fV (Q := fun _ => True) (show v_n_load a b M = M 163 (1594 + 12 * a + b) from by rw [v_n_load, if_pos c0, if_pos c1, if_pos c2]) trivial
      by_cases c3 : b = 1
      · skip
        refine e_sw (t2 := 14) (k := 13) (xi165 13) (by rw [c3]; decide +kernel) ?_
        refine e_aload (k := 14) (xi165 14) rfl (by decide) ?_
        refine e_getR (j := 0) (w := 163) (k := 15) (xi165 15) (ok_mo hS) rfl (sh_all hS) ?_
        refine e_iload (k := 16) (xi165 16) rfl ?_
        refine e_iload (k := 17) (xi165 17) rfl ?_
        refine e_iadd (w := 1594 + 12 * a + b) (k := 18) (xi165 18) (x_wn (by omega)) ?_
        refine e_iald (w := M 163 (1594 + 12 * a + b)) (k := 19) (xi165 19) (ok_all hS) (by rw [ln_all]; omega) rfl ?_
        refine e_iret (k := 20) (xi165 20) ?_
        exact y_fV (Q := fun _ => True) (show v_n_load a b M = M 163 (1594 + 12 * a + b) from by rw [v_n_load, if_pos c0, if_pos c1, if_neg c2, if_pos c3]) trivial
      by_cases c4 : b = 2
      · skip
        refine e_sw (t2 := 21) (k := 13) (xi165 13) (by rw [c4]; decide +kernel) ?_
        refine e_aload (k := 21) (xi165 21) rfl (by decide) ?_
        refine e_iload (k := 22) (xi165 22) rfl ?_
        refine e_callR (k := 23) (c1 := 0) (c2 := 0) (rest := []) (as := [.inr 162, .inl (a)]) (xi165 23) (by decide) xm159 rfl ⟨rfl, Nat.le_of_ble_eq_true rfl, by decide⟩ (Or.inr (x_okt (ok_mo hS))) (k_m_taken hS hT a  (by omega)) ?_
        rintro v_ h_ ⟨e2, q4⟩
        cases e2
        show x_Ev 165 24 [.inr 162, .inl (a), .inl (b), .inl (1594 + 12 * a)] [.inl (v_m_taken a M)] (0, 0) (z, P, M) _
        refine e_iret (k := 24) (xi165 24) ?_
        exact y_fV (Q := fun _ => True) (show v_n_load a b M = v_m_taken a M from by rw [v_n_load, if_pos c0, if_pos c1, if_neg c2, if_neg c3, if_pos c4]) trivial
      by_cases c5 : b = 3
      · skip
        refine e_sw (t2 := 25) (k := 13) (xi165 13) (by rw [c5]; decide +kernel) ?_
        refine e_aload (k := 25) (xi165 25) rfl (by decide) ?_
        refine e_getR (j := 0) (w := 163) (k := 26) (xi165 26) (ok_mo hS) rfl (sh_all hS) ?_
        refine e_iload (k := 27) (xi165 27) rfl ?_
        refine e_iconst (k := 28) (xi165 28) ?_
        refine e_iadd (w := 1596 + 12 * a) (k := 29) (xi165 29) (x_wn (by omega)) ?_
        refine e_iald (w := M 163 (1596 + 12 * a)) (k := 30) (xi165 30) (ok_all hS) (by rw [ln_all]; omega) rfl ?_
        refine e_iret (k := 31) (xi165 31) ?_
        exact y_fV (Q := fun _ => True) (show v_n_load a b M = M 163 (1596 + 12 * a) from by rw [v_n_load, if_pos c0, if_pos c1, if_neg c2, if_neg c3, if_neg c4, if_pos c5]) trivial
      refine e_sw (k := 13) (t2 := 32) (xi165 13) (if_pos (by omega)) ?_
      refine e_iload (k := 32) (xi165 32) rfl ?_
      refine e_iconst (k := 33) (xi165 33) ?_
      refine e_isub (w := (-4) + b) (k := 34) (xi165 34) (x_wn (by omega)) ?_
      refine e_aload (k := 35) (xi165 35) rfl (by decide) ?_
      refine e_getR (j := 0) (w := 163) (k := 36) (xi165 36) (ok_mo hS) rfl (sh_all hS) ?_
      refine e_iload (k := 37) (xi165 37) rfl ?_
      refine e_iconst (k := 38) (xi165 38) ?_
      refine e_iadd (w := 1597 + 12 * a) (k := 39) (xi165 39) (x_wn (by omega)) ?_
      have t5 := ty_aG3 hT (i := 1597 + 12 * a) (c := a) (by omega) (by omega)
      refine e_iald (w := M 163 (1597 + 12 * a)) (k := 40) (xi165 40) (ok_all hS) (by rw [ln_all]; omega) rfl ?_
      refine e_c_ge (k := 41) (xi165 41) (fun c6 => ?_) (fun c6 => ?_)
      · skip
        refine e_iconst (k := 49) (xi165 49) ?_
        refine e_iret (k := 50) (xi165 50) ?_
        exact y_fV (Q := fun _ => True) (show v_n_load a b M = (-1) from by rw [v_n_load, if_pos c0, if_pos c1, if_neg c2, if_neg c3, if_neg c4, if_neg c5, if_pos c6]) trivial
      · skip
        refine e_aload (k := 42) (xi165 42) rfl (by decide) ?_
        refine e_getR (j := 0) (w := 163) (k := 43) (xi165 43) (ok_mo hS) rfl (sh_all hS) ?_
        refine e_iload (k := 44) (xi165 44) rfl ?_
        refine e_iload (k := 45) (xi165 45) rfl ?_
        refine e_iadd (w := 1594 + 12 * a + b) (k := 46) (xi165 46) (x_wn (by omega)) ?_
        refine e_iald (w := M 163 (1594 + 12 * a + b)) (k := 47) (xi165 47) (ok_all hS) (by rw [ln_all]; omega) rfl ?_
        refine e_goto (k := 48) (xi165 48) ?_
        refine e_iret (k := 50) (xi165 50) ?_
        exact y_fV (Q := fun _ => True) (show v_n_load a b M = M 163 (1594 + 12 * a + b) from by rw [v_n_load, if_pos c0, if_pos c1, if_neg c2, if_neg c3, if_neg c4, if_neg c5, if_neg c6]) trivial
    · skip
      refine e_iconst (k := 6) (xi165 6) ?_
      refine e_iret (k := 7) (xi165 7) ?_
      exact y_fV (Q := fun _ => True) (show v_n_load a b M = (-3) from by rw [v_n_load, if_pos c0, if_neg c1]) trivial
  · skip
    refine e_iconst (k := 6) (xi165 6) ?_
    refine e_iret (k := 7) (xi165 7) ?_
    exact y_fV (Q := fun _ => True) (show v_n_load a b M = (-3) from by rw [v_n_load, if_neg c0]) trivial
def l_n_demand_a (a b d e : Int) : Nat → (Int → Int → Int) → Int → (Int → Int → Int) × Int
  | 0, M, h => (M, h)
  | k + 1, M, h => if 48 < h then (M, h) else l_n_demand_a a b d e k ((x_up M 163 (34 + 80 * a + h) 0)) (1 + h)
theorem kl_n_demand_a {z : Int} {P M0 : Int → Int → Int} {r : Option xV × xH → Prop} (hS : x_Sh z P) (a : Int) (b : Int) (d : Int) (e : Int)  (ha : 0 ≤ a ∧ a < 12)  : ∀ k : Nat, ∀ M : (Int → Int → Int), ∀ h : Int, y_TL 1 M0 M → (1 ≤ h ∧ h ≤ 49) → 49 - h < (k : Int) → (y_TL 1 M0 ((l_n_demand_a a b d e k M h).1) → True → x_Ev 166 48 [.inr 162, .inl (a), .inl (b), .inl (d), .inl (e), .inl (34 + 80 * a), .inl ((l_n_demand_a a b d e k M h).2)] [] (0, 0) (z, P, (l_n_demand_a a b d e k M h).1) r) → x_Ev 166 36 [.inr 162, .inl (a), .inl (b), .inl (d), .inl (e), .inl (34 + 80 * a), .inl (h)] [] (0, 0) (z, P, M) r := by
  intro k
  induction k with
  | zero => intro M h tl0 hi hm; omega
  | succ k ih =>
    intro M h tl0 hi hm kk
    refine e_iload (k := 36) (xi166 36) rfl ?_
    refine e_iconst (k := 37) (xi166 37) ?_
    refine e_c_gt (k := 38) (xi166 38) (fun c0 => ?_) (fun c0 => ?_)
    · skip
      rw [(show l_n_demand_a a b d e (k + 1) M h = (M, h) from by rw [l_n_demand_a, if_pos c0])] at kk
      try dsimp only at kk
      exact kk tl0 (by first | exact trivial | omega)
    · skip
      refine e_aload (k := 39) (xi166 39) rfl (by decide) ?_
      refine e_getR (j := 0) (w := 163) (k := 40) (xi166 40) (ok_mo hS) rfl (sh_all hS) ?_
      refine e_iload (k := 41) (xi166 41) rfl ?_
      refine e_iload (k := 42) (xi166 42) rfl ?_
      refine e_iadd (w := 34 + 80 * a + h) (k := 43) (xi166 43) (x_wn (by omega)) ?_
      refine e_iconst (k := 44) (xi166 44) ?_
      refine e_iast (k := 45) (xi166 45) (ok_all hS) (by rw [ln_all]; omega) ?_
      have tl1 : y_TL 1 M0 (x_up M 163 (34 + 80 * a + h) 0) := tl_up tl0 (sl_aB (i := 34 + 80 * a + h) (s := a) (d := (-1) + h) (by omega) (by omega) (by omega) (by omega)) (nf_aB (i := 34 + 80 * a + h) (s := a) (d := (-1) + h) (by omega) (by omega) (by omega))
      refine e_iinc (w := 1 + h) (k := 46) (xi166 46) rfl (x_wn (by omega)) ?_
      show x_Ev 166 47 [.inr 162, .inl (a), .inl (b), .inl (d), .inl (e), .inl (34 + 80 * a), .inl (1 + h)] [] (0, 0) (z, P, (x_up M 163 (34 + 80 * a + h) 0)) _
      refine e_goto (k := 47) (xi166 47) ?_
      rw [(show l_n_demand_a a b d e (k + 1) M h = l_n_demand_a a b d e k ((x_up M 163 (34 + 80 * a + h) 0)) (1 + h) from by rw [l_n_demand_a, if_neg c0])] at kk
      exact ih ((x_up M 163 (34 + 80 * a + h) 0)) (1 + h) tl1 (by omega) (by omega) kk
def v_n_demand (a b d e : Int) (M : Int → Int → Int) : Int := if 0 ≤ a ∧ a < M 163 0 then (if 0 ≤ b ∧ b < 24 then (if 0 ≤ d ∧ d < 100 then (if 0 ≤ e ∧ e < 100 then (if ¬ M 163 (34 + 80 * a) = 0 then 1 else 1) else 0) else 0) else 0) else 0
def u_n_demand (a b d e : Int) (M : Int → Int → Int) : Int → Int → Int := if 0 ≤ a ∧ a < M 163 0 then (if 0 ≤ b ∧ b < 24 then (if 0 ≤ d ∧ d < 100 then (if 0 ≤ e ∧ e < 100 then (if ¬ M 163 (34 + 80 * a) = 0 then (x_up ((x_up M 163 (35 + 80 * a + b) d)) 163 (59 + 80 * a + b) e) else (x_up ((x_up ((l_n_demand_a a b d e 50 ((x_up M 163 (34 + 80 * a) 1)) 1).1) 163 (35 + 80 * a + b) d)) 163 (59 + 80 * a + b) e)) else M) else M) else M) else M
theorem k_n_demand {z : Int} {P M : Int → Int → Int} (hS : x_Sh z P) (hT : y_TC M) (a : Int) (b : Int) (d : Int) (e : Int)   : x_CallR 166 [.inr 162, .inl (a), .inl (b), .inl (d), .inl (e)] (z, P, M) (fun q => q = (some (.inl (v_n_demand a b d e M)), (z, P, u_n_demand a b d e M)) ∧ y_TL 8 M (u_n_demand a b d e M) ∧ True) := by
  have tl0 : y_TL 8 M M := tl_refl hT
  refine e_body (ls0 := [.inr 162, .inl (a), .inl (b), .inl (d), .inl (e), x_un, x_un]) xm166 rfl ?_
  refine e_aload (k := 0) (xi166 0) rfl (by decide) ?_
  refine e_iload (k := 1) (xi166 1) rfl ?_
  have t1 := ty_a0 tl0.1
  refine e_call (k := 2) (v := some (.inl (x_b (0 ≤ a ∧ a < M 163 0)))) (h1 := (z, P, M)) (c1 := 0) (c2 := 0) (rest := []) (as := [.inr 162, .inl (a)]) (xi166 2) (by decide) xm114 rfl ⟨rfl, Nat.le_of_ble_eq_true rfl, by decide⟩ (Or.inr (x_okt (ok_mo hS))) (k_isStand hS tl0.1 a  ) ?_
  refine e_b_eq (k := 3) (xi166 3) (fun c0 => ?_) (fun c0 => ?_)
  · skip
    refine e_iload (k := 4) (xi166 4) rfl ?_
    refine e_iconst (k := 5) (xi166 5) ?_
    refine e_call (k := 6) (v := some (.inl (x_b (0 ≤ b ∧ b < 24)))) (h1 := (z, P, M)) (c1 := 0) (c2 := 0) (rest := []) (as := [.inl (b), .inl 24]) (xi166 6) (by decide) xm113 rfl ⟨rfl, Nat.le_of_ble_eq_true rfl, by decide⟩ (Or.inl rfl) (k_isIn hS tl0.1 b 24  ) ?_
    refine e_b_eq (k := 7) (xi166 7) (fun c1 => ?_) (fun c1 => ?_)
    · skip
      refine e_iload (k := 8) (xi166 8) rfl ?_
      refine e_iconst (k := 9) (xi166 9) ?_
      refine e_call (k := 10) (v := some (.inl (x_b (0 ≤ d ∧ d < 100)))) (h1 := (z, P, M)) (c1 := 0) (c2 := 0) (rest := []) (as := [.inl (d), .inl 100]) (xi166 10) (by decide) xm113 rfl ⟨rfl, Nat.le_of_ble_eq_true rfl, by decide⟩ (Or.inl rfl) (k_isIn hS tl0.1 d 100  ) ?_
      refine e_b_eq (k := 11) (xi166 11) (fun c2 => ?_) (fun c2 => ?_)
      · skip
        refine e_iload (k := 12) (xi166 12) rfl ?_
        refine e_iconst (k := 13) (xi166 13) ?_
        refine e_call (k := 14) (v := some (.inl (x_b (0 ≤ e ∧ e < 100)))) (h1 := (z, P, M)) (c1 := 0) (c2 := 0) (rest := []) (as := [.inl (e), .inl 100]) (xi166 14) (by decide) xm113 rfl ⟨rfl, Nat.le_of_ble_eq_true rfl, by decide⟩ (Or.inl rfl) (k_isIn hS tl0.1 e 100  ) ?_
        refine e_b_ne (k := 15) (xi166 15) (fun c3 => ?_) (fun c3 => ?_)
        · skip
          refine e_aload (k := 18) (xi166 18) rfl (by decide) ?_
          refine e_iload (k := 19) (xi166 19) rfl ?_
          refine e_call (k := 20) (v := some (.inl (10 + 80 * a))) (h1 := (z, P, M)) (c1 := 0) (c2 := 0) (rest := []) (as := [.inr 162, .inl (a)]) (xi166 20) (by decide) xm117 rfl ⟨rfl, Nat.le_of_ble_eq_true rfl, by decide⟩ (Or.inr (x_okt (ok_mo hS))) (k_mstandAt hS tl0.1 a (by omega)) ?_
          refine e_iconst (k := 21) (xi166 21) ?_
          refine e_iadd (w := 34 + 80 * a) (k := 22) (xi166 22) (x_wn (by omega)) ?_
          refine e_istore (k := 23) (xi166 23) (Nat.le_of_ble_eq_true rfl) ?_
          show x_Ev 166 24 [.inr 162, .inl (a), .inl (b), .inl (d), .inl (e), .inl (34 + 80 * a), x_un] [] (0, 0) (z, P, M) _
          refine e_aload (k := 24) (xi166 24) rfl (by decide) ?_
          refine e_getR (j := 0) (w := 163) (k := 25) (xi166 25) (ok_mo hS) rfl (sh_all hS) ?_
          refine e_iload (k := 26) (xi166 26) rfl ?_
          have t2 := ty_aFl tl0.1 (i := 34 + 80 * a) (s := a) (by omega) (by omega)
          refine e_iald (w := M 163 (34 + 80 * a)) (k := 27) (xi166 27) (ok_all hS) (by rw [ln_all]; omega) rfl ?_
          refine e_z_ne (k := 28) (xi166 28) (fun c4 => ?_) (fun c4 => ?_)
          · skip
            refine e_aload (k := 48) (xi166 48) rfl (by decide) ?_
            refine e_getR (j := 0) (w := 163) (k := 49) (xi166 49) (ok_mo hS) rfl (sh_all hS) ?_
            refine e_iload (k := 50) (xi166 50) rfl ?_
            refine e_iconst (k := 51) (xi166 51) ?_
            refine e_iadd (w := 35 + 80 * a) (k := 52) (xi166 52) (x_wn (by omega)) ?_
            refine e_iload (k := 53) (xi166 53) rfl ?_
            refine e_iadd (w := 35 + 80 * a + b) (k := 54) (xi166 54) (x_wn (by omega)) ?_
            refine e_iload (k := 55) (xi166 55) rfl ?_
            refine e_iast (k := 56) (xi166 56) (ok_all hS) (by rw [ln_all]; omega) ?_
            have tl3 : y_TL 8 M (x_up M 163 (35 + 80 * a + b) d) := tl_up tl0 (sl_aB (i := 35 + 80 * a + b) (s := a) (d := b) (by omega) (by omega) (by omega) (by omega)) (nf8 (by omega))
            refine e_aload (k := 57) (xi166 57) rfl (by decide) ?_
            refine e_getR (j := 0) (w := 163) (k := 58) (xi166 58) (ok_mo hS) rfl (sh_all hS) ?_
            refine e_iload (k := 59) (xi166 59) rfl ?_
            refine e_iconst (k := 60) (xi166 60) ?_
            refine e_iadd (w := 59 + 80 * a) (k := 61) (xi166 61) (x_wn (by omega)) ?_
            refine e_iload (k := 62) (xi166 62) rfl ?_
            refine e_iadd (w := 59 + 80 * a + b) (k := 63) (xi166 63) (x_wn (by omega)) ?_
            refine e_iload (k := 64) (xi166 64) rfl ?_
            refine e_iast (k := 65) (xi166 65) (ok_all hS) (by rw [ln_all]; omega) ?_
            have tl4 : y_TL 8 M (x_up ((x_up M 163 (35 + 80 * a + b) d)) 163 (59 + 80 * a + b) e) := tl_up tl3 (sl_aB (i := 59 + 80 * a + b) (s := a) (d := 24 + b) (by omega) (by omega) (by omega) (by omega)) (nf8 (by omega))
            refine e_iconst (k := 66) (xi166 66) ?_
            refine e_zret (k := 67) (xi166 67) (by first | decide | omega) ?_
            exact y_fW (Q := fun _ => True) (show v_n_demand a b d e M = 1 from by rw [v_n_demand, if_pos c0, if_pos c1, if_pos c2, if_pos c3, if_pos c4]) (show u_n_demand a b d e M = (x_up ((x_up M 163 (35 + 80 * a + b) d)) 163 (59 + 80 * a + b) e) from by rw [u_n_demand, if_pos c0, if_pos c1, if_pos c2, if_pos c3, if_pos c4]) tl4 trivial
          · skip
            refine e_aload (k := 29) (xi166 29) rfl (by decide) ?_
            refine e_getR (j := 0) (w := 163) (k := 30) (xi166 30) (ok_mo hS) rfl (sh_all hS) ?_
            refine e_iload (k := 31) (xi166 31) rfl ?_
            refine e_iconst (k := 32) (xi166 32) ?_
            refine e_iast (k := 33) (xi166 33) (ok_all hS) (by rw [ln_all]; omega) ?_
            have tl5 : y_TL 8 M (x_up M 163 (34 + 80 * a) 1) := tl_up tl0 (sl_aFl (i := 34 + 80 * a) (s := a) (by omega) (by omega) (by omega)) (nf8 (by omega))
            refine e_iconst (k := 34) (xi166 34) ?_
            refine e_istore (k := 35) (xi166 35) (Nat.le_of_ble_eq_true rfl) ?_
            show x_Ev 166 36 [.inr 162, .inl (a), .inl (b), .inl (d), .inl (e), .inl (34 + 80 * a), .inl 1] [] (0, 0) (z, P, (x_up M 163 (34 + 80 * a) 1)) _
            refine kl_n_demand_a hS a b d e    (by omega) 50 ((x_up M 163 (34 + 80 * a) 1)) 1 (tl_refl tl5.1) (by omega) (by omega) ?_
            intro tl6 q7
            have tl8 := tl_trans tl5 (tl_81 tl6)
            have n9 := tl_a tl6
            show x_Ev 166 48 [.inr 162, .inl (a), .inl (b), .inl (d), .inl (e), .inl (34 + 80 * a), .inl ((l_n_demand_a a b d e 50 ((x_up M 163 (34 + 80 * a) 1)) 1).2)] [] (0, 0) (z, P, (l_n_demand_a a b d e 50 ((x_up M 163 (34 + 80 * a) 1)) 1).1) _
            refine e_aload (k := 48) (xi166 48) rfl (by decide) ?_
            refine e_getR (j := 0) (w := 163) (k := 49) (xi166 49) (ok_mo hS) rfl (sh_all hS) ?_
            refine e_iload (k := 50) (xi166 50) rfl ?_
            refine e_iconst (k := 51) (xi166 51) ?_
            refine e_iadd (w := 35 + 80 * a) (k := 52) (xi166 52) (x_wn (by omega)) ?_
            refine e_iload (k := 53) (xi166 53) rfl ?_
            refine e_iadd (w := 35 + 80 * a + b) (k := 54) (xi166 54) (x_wn (by omega)) ?_
            refine e_iload (k := 55) (xi166 55) rfl ?_
            refine e_iast (k := 56) (xi166 56) (ok_all hS) (by rw [ln_all]; omega) ?_
            have tl10 : y_TL 8 M (x_up ((l_n_demand_a a b d e 50 ((x_up M 163 (34 + 80 * a) 1)) 1).1) 163 (35 + 80 * a + b) d) := tl_up tl8 (sl_aB (i := 35 + 80 * a + b) (s := a) (d := b) (by omega) (by omega) (by omega) (by omega)) (nf8 (by omega))
            refine e_aload (k := 57) (xi166 57) rfl (by decide) ?_
            refine e_getR (j := 0) (w := 163) (k := 58) (xi166 58) (ok_mo hS) rfl (sh_all hS) ?_
            refine e_iload (k := 59) (xi166 59) rfl ?_
            refine e_iconst (k := 60) (xi166 60) ?_
            refine e_iadd (w := 59 + 80 * a) (k := 61) (xi166 61) (x_wn (by omega)) ?_
            refine e_iload (k := 62) (xi166 62) rfl ?_
            refine e_iadd (w := 59 + 80 * a + b) (k := 63) (xi166 63) (x_wn (by omega)) ?_
            refine e_iload (k := 64) (xi166 64) rfl ?_
            refine e_iast (k := 65) (xi166 65) (ok_all hS) (by rw [ln_all]; omega) ?_
            have tl11 : y_TL 8 M (x_up ((x_up ((l_n_demand_a a b d e 50 ((x_up M 163 (34 + 80 * a) 1)) 1).1) 163 (35 + 80 * a + b) d)) 163 (59 + 80 * a + b) e) := tl_up tl10 (sl_aB (i := 59 + 80 * a + b) (s := a) (d := 24 + b) (by omega) (by omega) (by omega) (by omega)) (nf8 (by omega))
            refine e_iconst (k := 66) (xi166 66) ?_
            refine e_zret (k := 67) (xi166 67) (by first | decide | omega) ?_
            exact y_fW (Q := fun _ => True) (show v_n_demand a b d e M = 1 from by rw [v_n_demand, if_pos c0, if_pos c1, if_pos c2, if_pos c3, if_neg c4]) (show u_n_demand a b d e M = (x_up ((x_up ((l_n_demand_a a b d e 50 ((x_up M 163 (34 + 80 * a) 1)) 1).1) 163 (35 + 80 * a + b) d)) 163 (59 + 80 * a + b) e) from by rw [u_n_demand, if_pos c0, if_pos c1, if_pos c2, if_pos c3, if_neg c4]) tl11 trivial
        · skip
          refine e_iconst (k := 16) (xi166 16) ?_
          refine e_zret (k := 17) (xi166 17) (by first | decide | omega) ?_
          exact y_fW (Q := fun _ => True) (show v_n_demand a b d e M = 0 from by rw [v_n_demand, if_pos c0, if_pos c1, if_pos c2, if_neg c3]) (show u_n_demand a b d e M = M from by rw [u_n_demand, if_pos c0, if_pos c1, if_pos c2, if_neg c3]) tl0 trivial
      · skip
        refine e_iconst (k := 16) (xi166 16) ?_
        refine e_zret (k := 17) (xi166 17) (by first | decide | omega) ?_
        exact y_fW (Q := fun _ => True) (show v_n_demand a b d e M = 0 from by rw [v_n_demand, if_pos c0, if_pos c1, if_neg c2]) (show u_n_demand a b d e M = M from by rw [u_n_demand, if_pos c0, if_pos c1, if_neg c2]) tl0 trivial
    · skip
      refine e_iconst (k := 16) (xi166 16) ?_
      refine e_zret (k := 17) (xi166 17) (by first | decide | omega) ?_
      exact y_fW (Q := fun _ => True) (show v_n_demand a b d e M = 0 from by rw [v_n_demand, if_pos c0, if_neg c1]) (show u_n_demand a b d e M = M from by rw [u_n_demand, if_pos c0, if_neg c1]) tl0 trivial
  · skip
    refine e_iconst (k := 16) (xi166 16) ?_
    refine e_zret (k := 17) (xi166 17) (by first | decide | omega) ?_
    exact y_fW (Q := fun _ => True) (show v_n_demand a b d e M = 0 from by rw [v_n_demand, if_neg c0]) (show u_n_demand a b d e M = M from by rw [u_n_demand, if_neg c0]) tl0 trivial
def l_m_through_b (s w c h hd : Int) : Nat → (Int → Int → Int) → Int → Int → (Int → Int → Int) × Int × Int
  | 0, M, br, wn => (M, br, wn)
  | k + 1, M, br, wn => if 0 < br then (if br ≤ 0 then (if wn ≤ 0 then l_m_through_b s w c h hd k M br wn else if ¬ M 162 4 = 0 then l_m_through_b s w c h hd k ((x_up M 162 4 (x_w ((-1) + M 162 4)))) br ((-1) + wn) else l_m_through_b s w c h hd k ((x_up M 162 2 (x_w (1 + M 162 2)))) br ((-1) + wn)) else if ¬ M 162 4 = c then (if wn ≤ 0 then l_m_through_b s w c h hd k ((x_up M 162 4 (x_w (1 + M 162 4)))) ((-1) + br) wn else if ¬ x_w (1 + M 162 4) = 0 then l_m_through_b s w c h hd k ((x_up ((x_up M 162 4 (x_w (1 + M 162 4)))) 162 4 (x_w ((-1) + x_w (1 + M 162 4))))) ((-1) + br) ((-1) + wn) else l_m_through_b s w c h hd k ((x_up ((x_up M 162 4 (x_w (1 + M 162 4)))) 162 2 (x_w (1 + M 162 2)))) ((-1) + br) ((-1) + wn)) else if wn ≤ 0 then l_m_through_b s w c h hd k ((x_up M 162 2 (x_w (1 + M 162 2)))) ((-1) + br) wn else if ¬ M 162 4 = 0 then l_m_through_b s w c h hd k ((x_up ((x_up M 162 2 (x_w (1 + M 162 2)))) 162 4 (x_w ((-1) + M 162 4)))) ((-1) + br) ((-1) + wn) else l_m_through_b s w c h hd k ((x_up ((x_up M 162 2 (x_w (1 + M 162 2)))) 162 2 (x_w (1 + x_w (1 + M 162 2))))) ((-1) + br) ((-1) + wn)) else if wn ≤ 0 then (M, br, wn) else if br ≤ 0 then (if wn ≤ 0 then l_m_through_b s w c h hd k M br wn else if ¬ M 162 4 = 0 then l_m_through_b s w c h hd k ((x_up M 162 4 (x_w ((-1) + M 162 4)))) br ((-1) + wn) else l_m_through_b s w c h hd k ((x_up M 162 2 (x_w (1 + M 162 2)))) br ((-1) + wn)) else if ¬ M 162 4 = c then (if wn ≤ 0 then l_m_through_b s w c h hd k ((x_up M 162 4 (x_w (1 + M 162 4)))) ((-1) + br) wn else if ¬ x_w (1 + M 162 4) = 0 then l_m_through_b s w c h hd k ((x_up ((x_up M 162 4 (x_w (1 + M 162 4)))) 162 4 (x_w ((-1) + x_w (1 + M 162 4))))) ((-1) + br) ((-1) + wn) else l_m_through_b s w c h hd k ((x_up ((x_up M 162 4 (x_w (1 + M 162 4)))) 162 2 (x_w (1 + M 162 2)))) ((-1) + br) ((-1) + wn)) else if wn ≤ 0 then l_m_through_b s w c h hd k ((x_up M 162 2 (x_w (1 + M 162 2)))) ((-1) + br) wn else if ¬ M 162 4 = 0 then l_m_through_b s w c h hd k ((x_up ((x_up M 162 2 (x_w (1 + M 162 2)))) 162 4 (x_w ((-1) + M 162 4)))) ((-1) + br) ((-1) + wn) else l_m_through_b s w c h hd k ((x_up ((x_up M 162 2 (x_w (1 + M 162 2)))) 162 2 (x_w (1 + x_w (1 + M 162 2))))) ((-1) + br) ((-1) + wn)
theorem kl_m_through_b {z : Int} {P M0 : Int → Int → Int} {r : Option xV × xH → Prop} (hS : x_Sh z P) (s : Int) (w : Int) (c : Int) (h : Int) (hd : Int)   (hs : 0 ≤ s ∧ s < 12) : ∀ k : Nat, ∀ M : (Int → Int → Int), ∀ br : Int, ∀ wn : Int, y_TL 1 M0 M → ((0 ≤ br ∧ br ≤ 99) ∧ 0 ≤ wn ∧ wn ≤ 99) → br + wn < (k : Int) → (y_TL 1 M0 ((l_m_through_b s w c h hd k M br wn).1) → True → x_Ev 167 96 [.inr 162, .inl (s), .inl (w), .inl (34 + 80 * s), .inl (c), .inl (h), .inl ((l_m_through_b s w c h hd k M br wn).2.1), .inl ((l_m_through_b s w c h hd k M br wn).2.2), .inl (hd)] [] (0, 0) (z, P, (l_m_through_b s w c h hd k M br wn).1) r) → x_Ev 167 52 [.inr 162, .inl (s), .inl (w), .inl (34 + 80 * s), .inl (c), .inl (h), .inl (br), .inl (wn), .inl (hd)] [] (0, 0) (z, P, M) r := by
  intro k
  induction k with
  | zero => intro M br wn tl0 hi hm; omega
  | succ k ih =>
    intro M br wn tl0 hi hm kk
    refine e_iload (k := 52) (xi167 52) rfl ?_
    refine e_z_gt (k := 53) (xi167 53) (fun c0 => ?_) (fun c0 => ?_)
    · skip
      refine e_iload (k := 56) (xi167 56) rfl ?_
      refine e_z_le (k := 57) (xi167 57) (fun c1 => ?_) (fun c1 => ?_)
      · skip
        refine e_iload (k := 76) (xi167 76) rfl ?_
        refine e_z_le (k := 77) (xi167 77) (fun c2 => ?_) (fun c2 => ?_)
        · skip
          rw [(show l_m_through_b s w c h hd (k + 1) M br wn = l_m_through_b s w c h hd k M br wn from by rw [l_m_through_b, if_pos c0, if_pos c1, if_pos c2])] at kk
          exact ih M br wn tl0 (by omega) (by omega) kk
        · skip
          refine e_iinc (w := (-1) + wn) (k := 78) (xi167 78) rfl (x_wn (by omega)) ?_
          show x_Ev 167 79 [.inr 162, .inl (s), .inl (w), .inl (34 + 80 * s), .inl (c), .inl (h), .inl (br), .inl ((-1) + wn), .inl (hd)] [] (0, 0) (z, P, M) _
          refine e_aload (k := 79) (xi167 79) rfl (by decide) ?_
          refine e_getI (j := 4) (w := M 162 4) (k := 80) (xi167 80) (ok_mo hS) rfl rfl ?_
          refine e_z_ne (k := 81) (xi167 81) (fun c3 => ?_) (fun c3 => ?_)
          · skip
            refine e_aload (k := 89) (xi167 89) rfl (by decide) ?_
            refine e_dup (k := 90) (xi167 90) ?_
            refine e_getI (j := 4) (w := M 162 4) (k := 91) (xi167 91) (ok_mo hS) rfl rfl ?_
            refine e_iconst (k := 92) (xi167 92) ?_
            refine e_isub (w := x_w ((-1) + M 162 4)) (k := 93) (xi167 93) (x_wr (by omega)) ?_
            refine e_putI (j := 4) (k := 94) (xi167 94) (ok_mo hS) rfl ?_
            have tl1 : y_TL 1 M0 (x_up M 162 4 (x_w ((-1) + M 162 4))) := tl_up tl0 (sl_mo4  ) (nf_mo4 )
            refine e_goto (k := 95) (xi167 95) ?_
            rw [(show l_m_through_b s w c h hd (k + 1) M br wn = l_m_through_b s w c h hd k ((x_up M 162 4 (x_w ((-1) + M 162 4)))) br ((-1) + wn) from by rw [l_m_through_b, if_pos c0, if_pos c1, if_neg c2, if_pos c3])] at kk
            exact ih ((x_up M 162 4 (x_w ((-1) + M 162 4)))) br ((-1) + wn) tl1 (by omega) (by omega) kk
          · skip
            refine e_aload (k := 82) (xi167 82) rfl (by decide) ?_
            refine e_dup (k := 83) (xi167 83) ?_
            refine e_getI (j := 2) (w := M 162 2) (k := 84) (xi167 84) (ok_mo hS) rfl rfl ?_
            refine e_iconst (k := 85) (xi167 85) ?_
            refine e_iadd (w := x_w (1 + M 162 2)) (k := 86) (xi167 86) (x_wr (by omega)) ?_
            refine e_putI (j := 2) (k := 87) (xi167 87) (ok_mo hS) rfl ?_
            have tl2 : y_TL 1 M0 (x_up M 162 2 (x_w (1 + M 162 2))) := tl_up tl0 (sl_mo2  ) (nf_mo2 )
            refine e_goto (k := 88) (xi167 88) ?_
            rw [(show l_m_through_b s w c h hd (k + 1) M br wn = l_m_through_b s w c h hd k ((x_up M 162 2 (x_w (1 + M 162 2)))) br ((-1) + wn) from by rw [l_m_through_b, if_pos c0, if_pos c1, if_neg c2, if_neg c3])] at kk
            exact ih ((x_up M 162 2 (x_w (1 + M 162 2)))) br ((-1) + wn) tl2 (by omega) (by omega) kk
      · skip
        refine e_iinc (w := (-1) + br) (k := 58) (xi167 58) rfl (x_wn (by omega)) ?_
        show x_Ev 167 59 [.inr 162, .inl (s), .inl (w), .inl (34 + 80 * s), .inl (c), .inl (h), .inl ((-1) + br), .inl (wn), .inl (hd)] [] (0, 0) (z, P, M) _
        refine e_aload (k := 59) (xi167 59) rfl (by decide) ?_
        refine e_getI (j := 4) (w := M 162 4) (k := 60) (xi167 60) (ok_mo hS) rfl rfl ?_
        refine e_iload (k := 61) (xi167 61) rfl ?_
        refine e_c_ne (k := 62) (xi167 62) (fun c4 => ?_) (fun c4 => ?_)
        · skip
          refine e_aload (k := 70) (xi167 70) rfl (by decide) ?_
          refine e_dup (k := 71) (xi167 71) ?_
          refine e_getI (j := 4) (w := M 162 4) (k := 72) (xi167 72) (ok_mo hS) rfl rfl ?_
          refine e_iconst (k := 73) (xi167 73) ?_
          refine e_iadd (w := x_w (1 + M 162 4)) (k := 74) (xi167 74) (x_wr (by omega)) ?_
          refine e_putI (j := 4) (k := 75) (xi167 75) (ok_mo hS) rfl ?_
          have tl3 : y_TL 1 M0 (x_up M 162 4 (x_w (1 + M 162 4))) := tl_up tl0 (sl_mo4  ) (nf_mo4 )
          refine e_iload (k := 76) (xi167 76) rfl ?_
          refine e_z_le (k := 77) (xi167 77) (fun c5 => ?_) (fun c5 => ?_)
          · skip
            rw [(show l_m_through_b s w c h hd (k + 1) M br wn = l_m_through_b s w c h hd k ((x_up M 162 4 (x_w (1 + M 162 4)))) ((-1) + br) wn from by rw [l_m_through_b, if_pos c0, if_neg c1, if_pos c4, if_pos c5])] at kk
            exact ih ((x_up M 162 4 (x_w (1 + M 162 4)))) ((-1) + br) wn tl3 (by omega) (by omega) kk
          · skip
            refine e_iinc (w := (-1) + wn) (k := 78) (xi167 78) rfl (x_wn (by omega)) ?_
            show x_Ev 167 79 [.inr 162, .inl (s), .inl (w), .inl (34 + 80 * s), .inl (c), .inl (h), .inl ((-1) + br), .inl ((-1) + wn), .inl (hd)] [] (0, 0) (z, P, (x_up M 162 4 (x_w (1 + M 162 4)))) _
            refine e_aload (k := 79) (xi167 79) rfl (by decide) ?_
            refine e_getI (j := 4) (w := x_w (1 + M 162 4)) (k := 80) (xi167 80) (ok_mo hS) rfl x_up_self ?_
            refine e_z_ne (k := 81) (xi167 81) (fun c6 => ?_) (fun c6 => ?_)
            · skip
              refine e_aload (k := 89) (xi167 89) rfl (by decide) ?_
              refine e_dup (k := 90) (xi167 90) ?_
              refine e_getI (j := 4) (w := x_w (1 + M 162 4)) (k := 91) (xi167 91) (ok_mo hS) rfl x_up_self ?_
              refine e_iconst (k := 92) (xi167 92) ?_
              refine e_isub (w := x_w ((-1) + x_w (1 + M 162 4))) (k := 93) (xi167 93) (x_wr (by omega)) ?_
              refine e_putI (j := 4) (k := 94) (xi167 94) (ok_mo hS) rfl ?_
              have tl4 : y_TL 1 M0 (x_up ((x_up M 162 4 (x_w (1 + M 162 4)))) 162 4 (x_w ((-1) + x_w (1 + M 162 4)))) := tl_up tl3 (sl_mo4  ) (nf_mo4 )
              refine e_goto (k := 95) (xi167 95) ?_
              rw [(show l_m_through_b s w c h hd (k + 1) M br wn = l_m_through_b s w c h hd k ((x_up ((x_up M 162 4 (x_w (1 + M 162 4)))) 162 4 (x_w ((-1) + x_w (1 + M 162 4))))) ((-1) + br) ((-1) + wn) from by rw [l_m_through_b, if_pos c0, if_neg c1, if_pos c4, if_neg c5, if_pos c6])] at kk
              exact ih ((x_up ((x_up M 162 4 (x_w (1 + M 162 4)))) 162 4 (x_w ((-1) + x_w (1 + M 162 4))))) ((-1) + br) ((-1) + wn) tl4 (by omega) (by omega) kk
            · skip
              refine e_aload (k := 82) (xi167 82) rfl (by decide) ?_
              refine e_dup (k := 83) (xi167 83) ?_
              refine e_getI (j := 2) (w := M 162 2) (k := 84) (xi167 84) (ok_mo hS) rfl (((x_up_nk (by omega)).trans rfl)) ?_
              refine e_iconst (k := 85) (xi167 85) ?_
              refine e_iadd (w := x_w (1 + M 162 2)) (k := 86) (xi167 86) (x_wr (by omega)) ?_
              refine e_putI (j := 2) (k := 87) (xi167 87) (ok_mo hS) rfl ?_
              have tl5 : y_TL 1 M0 (x_up ((x_up M 162 4 (x_w (1 + M 162 4)))) 162 2 (x_w (1 + M 162 2))) := tl_up tl3 (sl_mo2  ) (nf_mo2 )
              refine e_goto (k := 88) (xi167 88) ?_
              rw [(show l_m_through_b s w c h hd (k + 1) M br wn = l_m_through_b s w c h hd k ((x_up ((x_up M 162 4 (x_w (1 + M 162 4)))) 162 2 (x_w (1 + M 162 2)))) ((-1) + br) ((-1) + wn) from by rw [l_m_through_b, if_pos c0, if_neg c1, if_pos c4, if_neg c5, if_neg c6])] at kk
              exact ih ((x_up ((x_up M 162 4 (x_w (1 + M 162 4)))) 162 2 (x_w (1 + M 162 2)))) ((-1) + br) ((-1) + wn) tl5 (by omega) (by omega) kk
        · skip
          refine e_aload (k := 63) (xi167 63) rfl (by decide) ?_
          refine e_dup (k := 64) (xi167 64) ?_
          refine e_getI (j := 2) (w := M 162 2) (k := 65) (xi167 65) (ok_mo hS) rfl rfl ?_
          refine e_iconst (k := 66) (xi167 66) ?_
          refine e_iadd (w := x_w (1 + M 162 2)) (k := 67) (xi167 67) (x_wr (by omega)) ?_
          refine e_putI (j := 2) (k := 68) (xi167 68) (ok_mo hS) rfl ?_
          have tl6 : y_TL 1 M0 (x_up M 162 2 (x_w (1 + M 162 2))) := tl_up tl0 (sl_mo2  ) (nf_mo2 )
          refine e_goto (k := 69) (xi167 69) ?_
          refine e_iload (k := 76) (xi167 76) rfl ?_
          refine e_z_le (k := 77) (xi167 77) (fun c7 => ?_) (fun c7 => ?_)
          · skip
            rw [(show l_m_through_b s w c h hd (k + 1) M br wn = l_m_through_b s w c h hd k ((x_up M 162 2 (x_w (1 + M 162 2)))) ((-1) + br) wn from by rw [l_m_through_b, if_pos c0, if_neg c1, if_neg c4, if_pos c7])] at kk
            exact ih ((x_up M 162 2 (x_w (1 + M 162 2)))) ((-1) + br) wn tl6 (by omega) (by omega) kk
          · skip
            refine e_iinc (w := (-1) + wn) (k := 78) (xi167 78) rfl (x_wn (by omega)) ?_
            show x_Ev 167 79 [.inr 162, .inl (s), .inl (w), .inl (34 + 80 * s), .inl (c), .inl (h), .inl ((-1) + br), .inl ((-1) + wn), .inl (hd)] [] (0, 0) (z, P, (x_up M 162 2 (x_w (1 + M 162 2)))) _
            refine e_aload (k := 79) (xi167 79) rfl (by decide) ?_
            refine e_getI (j := 4) (w := M 162 4) (k := 80) (xi167 80) (ok_mo hS) rfl (((x_up_nk (by omega)).trans rfl)) ?_
            refine e_z_ne (k := 81) (xi167 81) (fun c8 => ?_) (fun c8 => ?_)
            · skip
              refine e_aload (k := 89) (xi167 89) rfl (by decide) ?_
              refine e_dup (k := 90) (xi167 90) ?_
              refine e_getI (j := 4) (w := M 162 4) (k := 91) (xi167 91) (ok_mo hS) rfl (((x_up_nk (by omega)).trans rfl)) ?_
              refine e_iconst (k := 92) (xi167 92) ?_
              refine e_isub (w := x_w ((-1) + M 162 4)) (k := 93) (xi167 93) (x_wr (by omega)) ?_
              refine e_putI (j := 4) (k := 94) (xi167 94) (ok_mo hS) rfl ?_
              have tl7 : y_TL 1 M0 (x_up ((x_up M 162 2 (x_w (1 + M 162 2)))) 162 4 (x_w ((-1) + M 162 4))) := tl_up tl6 (sl_mo4  ) (nf_mo4 )
              refine e_goto (k := 95) (xi167 95) ?_
              rw [(show l_m_through_b s w c h hd (k + 1) M br wn = l_m_through_b s w c h hd k ((x_up ((x_up M 162 2 (x_w (1 + M 162 2)))) 162 4 (x_w ((-1) + M 162 4)))) ((-1) + br) ((-1) + wn) from by rw [l_m_through_b, if_pos c0, if_neg c1, if_neg c4, if_neg c7, if_pos c8])] at kk
              exact ih ((x_up ((x_up M 162 2 (x_w (1 + M 162 2)))) 162 4 (x_w ((-1) + M 162 4)))) ((-1) + br) ((-1) + wn) tl7 (by omega) (by omega) kk
            · skip
              refine e_aload (k := 82) (xi167 82) rfl (by decide) ?_
              refine e_dup (k := 83) (xi167 83) ?_
              refine e_getI (j := 2) (w := x_w (1 + M 162 2)) (k := 84) (xi167 84) (ok_mo hS) rfl x_up_self ?_
              refine e_iconst (k := 85) (xi167 85) ?_
              refine e_iadd (w := x_w (1 + x_w (1 + M 162 2))) (k := 86) (xi167 86) (x_wr (by omega)) ?_
              refine e_putI (j := 2) (k := 87) (xi167 87) (ok_mo hS) rfl ?_
              have tl8 : y_TL 1 M0 (x_up ((x_up M 162 2 (x_w (1 + M 162 2)))) 162 2 (x_w (1 + x_w (1 + M 162 2)))) := tl_up tl6 (sl_mo2  ) (nf_mo2 )
              refine e_goto (k := 88) (xi167 88) ?_
              rw [(show l_m_through_b s w c h hd (k + 1) M br wn = l_m_through_b s w c h hd k ((x_up ((x_up M 162 2 (x_w (1 + M 162 2)))) 162 2 (x_w (1 + x_w (1 + M 162 2))))) ((-1) + br) ((-1) + wn) from by rw [l_m_through_b, if_pos c0, if_neg c1, if_neg c4, if_neg c7, if_neg c8])] at kk
              exact ih ((x_up ((x_up M 162 2 (x_w (1 + M 162 2)))) 162 2 (x_w (1 + x_w (1 + M 162 2))))) ((-1) + br) ((-1) + wn) tl8 (by omega) (by omega) kk
    · skip
      refine e_iload (k := 54) (xi167 54) rfl ?_
      refine e_z_le (k := 55) (xi167 55) (fun c9 => ?_) (fun c9 => ?_)
      · skip
        rw [(show l_m_through_b s w c h hd (k + 1) M br wn = (M, br, wn) from by rw [l_m_through_b, if_neg c0, if_pos c9])] at kk
        try dsimp only at kk
        exact kk tl0 (by first | exact trivial | omega)
      · skip
        refine e_iload (k := 56) (xi167 56) rfl ?_
        refine e_z_le (k := 57) (xi167 57) (fun c10 => ?_) (fun c10 => ?_)
        · skip
          refine e_iload (k := 76) (xi167 76) rfl ?_
          refine e_z_le (k := 77) (xi167 77) (fun c11 => ?_) (fun c11 => ?_)
          · skip
            rw [(show l_m_through_b s w c h hd (k + 1) M br wn = l_m_through_b s w c h hd k M br wn from by rw [l_m_through_b, if_neg c0, if_neg c9, if_pos c10, if_pos c11])] at kk
            exact ih M br wn tl0 (by omega) (by omega) kk
          · skip
            refine e_iinc (w := (-1) + wn) (k := 78) (xi167 78) rfl (x_wn (by omega)) ?_
            show x_Ev 167 79 [.inr 162, .inl (s), .inl (w), .inl (34 + 80 * s), .inl (c), .inl (h), .inl (br), .inl ((-1) + wn), .inl (hd)] [] (0, 0) (z, P, M) _
            refine e_aload (k := 79) (xi167 79) rfl (by decide) ?_
            refine e_getI (j := 4) (w := M 162 4) (k := 80) (xi167 80) (ok_mo hS) rfl rfl ?_
            refine e_z_ne (k := 81) (xi167 81) (fun c12 => ?_) (fun c12 => ?_)
            · skip
              refine e_aload (k := 89) (xi167 89) rfl (by decide) ?_
              refine e_dup (k := 90) (xi167 90) ?_
              refine e_getI (j := 4) (w := M 162 4) (k := 91) (xi167 91) (ok_mo hS) rfl rfl ?_
              refine e_iconst (k := 92) (xi167 92) ?_
              refine e_isub (w := x_w ((-1) + M 162 4)) (k := 93) (xi167 93) (x_wr (by omega)) ?_
              refine e_putI (j := 4) (k := 94) (xi167 94) (ok_mo hS) rfl ?_
              have tl9 : y_TL 1 M0 (x_up M 162 4 (x_w ((-1) + M 162 4))) := tl_up tl0 (sl_mo4  ) (nf_mo4 )
              refine e_goto (k := 95) (xi167 95) ?_
              rw [(show l_m_through_b s w c h hd (k + 1) M br wn = l_m_through_b s w c h hd k ((x_up M 162 4 (x_w ((-1) + M 162 4)))) br ((-1) + wn) from by rw [l_m_through_b, if_neg c0, if_neg c9, if_pos c10, if_neg c11, if_pos c12])] at kk
              exact ih ((x_up M 162 4 (x_w ((-1) + M 162 4)))) br ((-1) + wn) tl9 (by omega) (by omega) kk
            · skip
              refine e_aload (k := 82) (xi167 82) rfl (by decide) ?_
              refine e_dup (k := 83) (xi167 83) ?_
              refine e_getI (j := 2) (w := M 162 2) (k := 84) (xi167 84) (ok_mo hS) rfl rfl ?_
              refine e_iconst (k := 85) (xi167 85) ?_
              refine e_iadd (w := x_w (1 + M 162 2)) (k := 86) (xi167 86) (x_wr (by omega)) ?_
              refine e_putI (j := 2) (k := 87) (xi167 87) (ok_mo hS) rfl ?_
              have tl10 : y_TL 1 M0 (x_up M 162 2 (x_w (1 + M 162 2))) := tl_up tl0 (sl_mo2  ) (nf_mo2 )
              refine e_goto (k := 88) (xi167 88) ?_
              rw [(show l_m_through_b s w c h hd (k + 1) M br wn = l_m_through_b s w c h hd k ((x_up M 162 2 (x_w (1 + M 162 2)))) br ((-1) + wn) from by rw [l_m_through_b, if_neg c0, if_neg c9, if_pos c10, if_neg c11, if_neg c12])] at kk
              exact ih ((x_up M 162 2 (x_w (1 + M 162 2)))) br ((-1) + wn) tl10 (by omega) (by omega) kk
        · skip
          refine e_iinc (w := (-1) + br) (k := 58) (xi167 58) rfl (x_wn (by omega)) ?_
          show x_Ev 167 59 [.inr 162, .inl (s), .inl (w), .inl (34 + 80 * s), .inl (c), .inl (h), .inl ((-1) + br), .inl (wn), .inl (hd)] [] (0, 0) (z, P, M) _
          refine e_aload (k := 59) (xi167 59) rfl (by decide) ?_
          refine e_getI (j := 4) (w := M 162 4) (k := 60) (xi167 60) (ok_mo hS) rfl rfl ?_
          refine e_iload (k := 61) (xi167 61) rfl ?_
          refine e_c_ne (k := 62) (xi167 62) (fun c13 => ?_) (fun c13 => ?_)
          · skip
            refine e_aload (k := 70) (xi167 70) rfl (by decide) ?_
            refine e_dup (k := 71) (xi167 71) ?_
            refine e_getI (j := 4) (w := M 162 4) (k := 72) (xi167 72) (ok_mo hS) rfl rfl ?_
            refine e_iconst (k := 73) (xi167 73) ?_
            refine e_iadd (w := x_w (1 + M 162 4)) (k := 74) (xi167 74) (x_wr (by omega)) ?_
            refine e_putI (j := 4) (k := 75) (xi167 75) (ok_mo hS) rfl ?_
            have tl11 : y_TL 1 M0 (x_up M 162 4 (x_w (1 + M 162 4))) := tl_up tl0 (sl_mo4  ) (nf_mo4 )
            refine e_iload (k := 76) (xi167 76) rfl ?_
            refine e_z_le (k := 77) (xi167 77) (fun c14 => ?_) (fun c14 => ?_)
            · skip
              rw [(show l_m_through_b s w c h hd (k + 1) M br wn = l_m_through_b s w c h hd k ((x_up M 162 4 (x_w (1 + M 162 4)))) ((-1) + br) wn from by rw [l_m_through_b, if_neg c0, if_neg c9, if_neg c10, if_pos c13, if_pos c14])] at kk
              exact ih ((x_up M 162 4 (x_w (1 + M 162 4)))) ((-1) + br) wn tl11 (by omega) (by omega) kk
            · skip
              refine e_iinc (w := (-1) + wn) (k := 78) (xi167 78) rfl (x_wn (by omega)) ?_
              show x_Ev 167 79 [.inr 162, .inl (s), .inl (w), .inl (34 + 80 * s), .inl (c), .inl (h), .inl ((-1) + br), .inl ((-1) + wn), .inl (hd)] [] (0, 0) (z, P, (x_up M 162 4 (x_w (1 + M 162 4)))) _
              refine e_aload (k := 79) (xi167 79) rfl (by decide) ?_
              refine e_getI (j := 4) (w := x_w (1 + M 162 4)) (k := 80) (xi167 80) (ok_mo hS) rfl x_up_self ?_
              refine e_z_ne (k := 81) (xi167 81) (fun c15 => ?_) (fun c15 => ?_)
              · skip
                refine e_aload (k := 89) (xi167 89) rfl (by decide) ?_
                refine e_dup (k := 90) (xi167 90) ?_
                refine e_getI (j := 4) (w := x_w (1 + M 162 4)) (k := 91) (xi167 91) (ok_mo hS) rfl x_up_self ?_
                refine e_iconst (k := 92) (xi167 92) ?_
                refine e_isub (w := x_w ((-1) + x_w (1 + M 162 4))) (k := 93) (xi167 93) (x_wr (by omega)) ?_
                refine e_putI (j := 4) (k := 94) (xi167 94) (ok_mo hS) rfl ?_
                have tl12 : y_TL 1 M0 (x_up ((x_up M 162 4 (x_w (1 + M 162 4)))) 162 4 (x_w ((-1) + x_w (1 + M 162 4)))) := tl_up tl11 (sl_mo4  ) (nf_mo4 )
                refine e_goto (k := 95) (xi167 95) ?_
                rw [(show l_m_through_b s w c h hd (k + 1) M br wn = l_m_through_b s w c h hd k ((x_up ((x_up M 162 4 (x_w (1 + M 162 4)))) 162 4 (x_w ((-1) + x_w (1 + M 162 4))))) ((-1) + br) ((-1) + wn) from by rw [l_m_through_b, if_neg c0, if_neg c9, if_neg c10, if_pos c13, if_neg c14, if_pos c15])] at kk
                exact ih ((x_up ((x_up M 162 4 (x_w (1 + M 162 4)))) 162 4 (x_w ((-1) + x_w (1 + M 162 4))))) ((-1) + br) ((-1) + wn) tl12 (by omega) (by omega) kk
              · skip
                refine e_aload (k := 82) (xi167 82) rfl (by decide) ?_
                refine e_dup (k := 83) (xi167 83) ?_
                refine e_getI (j := 2) (w := M 162 2) (k := 84) (xi167 84) (ok_mo hS) rfl (((x_up_nk (by omega)).trans rfl)) ?_
                refine e_iconst (k := 85) (xi167 85) ?_
                refine e_iadd (w := x_w (1 + M 162 2)) (k := 86) (xi167 86) (x_wr (by omega)) ?_
                refine e_putI (j := 2) (k := 87) (xi167 87) (ok_mo hS) rfl ?_
                have tl13 : y_TL 1 M0 (x_up ((x_up M 162 4 (x_w (1 + M 162 4)))) 162 2 (x_w (1 + M 162 2))) := tl_up tl11 (sl_mo2  ) (nf_mo2 )
                refine e_goto (k := 88) (xi167 88) ?_
                rw [(show l_m_through_b s w c h hd (k + 1) M br wn = l_m_through_b s w c h hd k ((x_up ((x_up M 162 4 (x_w (1 + M 162 4)))) 162 2 (x_w (1 + M 162 2)))) ((-1) + br) ((-1) + wn) from by rw [l_m_through_b, if_neg c0, if_neg c9, if_neg c10, if_pos c13, if_neg c14, if_neg c15])] at kk
                exact ih ((x_up ((x_up M 162 4 (x_w (1 + M 162 4)))) 162 2 (x_w (1 + M 162 2)))) ((-1) + br) ((-1) + wn) tl13 (by omega) (by omega) kk
          · skip
            refine e_aload (k := 63) (xi167 63) rfl (by decide) ?_
            refine e_dup (k := 64) (xi167 64) ?_
            refine e_getI (j := 2) (w := M 162 2) (k := 65) (xi167 65) (ok_mo hS) rfl rfl ?_
            refine e_iconst (k := 66) (xi167 66) ?_
            refine e_iadd (w := x_w (1 + M 162 2)) (k := 67) (xi167 67) (x_wr (by omega)) ?_
            refine e_putI (j := 2) (k := 68) (xi167 68) (ok_mo hS) rfl ?_
            have tl14 : y_TL 1 M0 (x_up M 162 2 (x_w (1 + M 162 2))) := tl_up tl0 (sl_mo2  ) (nf_mo2 )
            refine e_goto (k := 69) (xi167 69) ?_
            refine e_iload (k := 76) (xi167 76) rfl ?_
            refine e_z_le (k := 77) (xi167 77) (fun c16 => ?_) (fun c16 => ?_)
            · skip
              rw [(show l_m_through_b s w c h hd (k + 1) M br wn = l_m_through_b s w c h hd k ((x_up M 162 2 (x_w (1 + M 162 2)))) ((-1) + br) wn from by rw [l_m_through_b, if_neg c0, if_neg c9, if_neg c10, if_neg c13, if_pos c16])] at kk
              exact ih ((x_up M 162 2 (x_w (1 + M 162 2)))) ((-1) + br) wn tl14 (by omega) (by omega) kk
            · skip
              refine e_iinc (w := (-1) + wn) (k := 78) (xi167 78) rfl (x_wn (by omega)) ?_
              show x_Ev 167 79 [.inr 162, .inl (s), .inl (w), .inl (34 + 80 * s), .inl (c), .inl (h), .inl ((-1) + br), .inl ((-1) + wn), .inl (hd)] [] (0, 0) (z, P, (x_up M 162 2 (x_w (1 + M 162 2)))) _
              refine e_aload (k := 79) (xi167 79) rfl (by decide) ?_
              refine e_getI (j := 4) (w := M 162 4) (k := 80) (xi167 80) (ok_mo hS) rfl (((x_up_nk (by omega)).trans rfl)) ?_
              refine e_z_ne (k := 81) (xi167 81) (fun c17 => ?_) (fun c17 => ?_)
              · skip
                refine e_aload (k := 89) (xi167 89) rfl (by decide) ?_
                refine e_dup (k := 90) (xi167 90) ?_
                refine e_getI (j := 4) (w := M 162 4) (k := 91) (xi167 91) (ok_mo hS) rfl (((x_up_nk (by omega)).trans rfl)) ?_
                refine e_iconst (k := 92) (xi167 92) ?_
                refine e_isub (w := x_w ((-1) + M 162 4)) (k := 93) (xi167 93) (x_wr (by omega)) ?_
                refine e_putI (j := 4) (k := 94) (xi167 94) (ok_mo hS) rfl ?_
                have tl15 : y_TL 1 M0 (x_up ((x_up M 162 2 (x_w (1 + M 162 2)))) 162 4 (x_w ((-1) + M 162 4))) := tl_up tl14 (sl_mo4  ) (nf_mo4 )
                refine e_goto (k := 95) (xi167 95) ?_
                rw [(show l_m_through_b s w c h hd (k + 1) M br wn = l_m_through_b s w c h hd k ((x_up ((x_up M 162 2 (x_w (1 + M 162 2)))) 162 4 (x_w ((-1) + M 162 4)))) ((-1) + br) ((-1) + wn) from by rw [l_m_through_b, if_neg c0, if_neg c9, if_neg c10, if_neg c13, if_neg c16, if_pos c17])] at kk
                exact ih ((x_up ((x_up M 162 2 (x_w (1 + M 162 2)))) 162 4 (x_w ((-1) + M 162 4)))) ((-1) + br) ((-1) + wn) tl15 (by omega) (by omega) kk
              · skip
                refine e_aload (k := 82) (xi167 82) rfl (by decide) ?_
                refine e_dup (k := 83) (xi167 83) ?_
                refine e_getI (j := 2) (w := x_w (1 + M 162 2)) (k := 84) (xi167 84) (ok_mo hS) rfl x_up_self ?_
                refine e_iconst (k := 85) (xi167 85) ?_
                refine e_iadd (w := x_w (1 + x_w (1 + M 162 2))) (k := 86) (xi167 86) (x_wr (by omega)) ?_
                refine e_putI (j := 2) (k := 87) (xi167 87) (ok_mo hS) rfl ?_
                have tl16 : y_TL 1 M0 (x_up ((x_up M 162 2 (x_w (1 + M 162 2)))) 162 2 (x_w (1 + x_w (1 + M 162 2)))) := tl_up tl14 (sl_mo2  ) (nf_mo2 )
                refine e_goto (k := 88) (xi167 88) ?_
                rw [(show l_m_through_b s w c h hd (k + 1) M br wn = l_m_through_b s w c h hd k ((x_up ((x_up M 162 2 (x_w (1 + M 162 2)))) 162 2 (x_w (1 + x_w (1 + M 162 2))))) ((-1) + br) ((-1) + wn) from by rw [l_m_through_b, if_neg c0, if_neg c9, if_neg c10, if_neg c13, if_neg c16, if_neg c17])] at kk
                exact ih ((x_up ((x_up M 162 2 (x_w (1 + M 162 2)))) 162 2 (x_w (1 + x_w (1 + M 162 2))))) ((-1) + br) ((-1) + wn) tl16 (by omega) (by omega) kk
def l_m_through_a (s w c : Int) : Nat → (Int → Int → Int) → Int → (Int → Int → Int) × Int
  | 0, M, h => (M, h)
  | k + 1, M, h => if 24 ≤ h then (M, h) else if ¬ M 163 (34 + 80 * s) = 1 then (M, h) else if ((l_m_through_b s w c h (M 162 2) 199 M (M 163 (35 + 80 * s + h)) (M 163 (59 + 80 * s + h))).1) 162 2 ≤ M 162 2 then l_m_through_a s w c k ((l_m_through_b s w c h (M 162 2) 199 M (M 163 (35 + 80 * s + h)) (M 163 (59 + 80 * s + h))).1) (1 + h) else if 0 ≤ ((l_m_through_b s w c h (M 162 2) 199 M (M 163 (35 + 80 * s + h)) (M 163 (59 + 80 * s + h))).1) 162 3 then l_m_through_a s w c k ((l_m_through_b s w c h (M 162 2) 199 M (M 163 (35 + 80 * s + h)) (M 163 (59 + 80 * s + h))).1) (1 + h) else l_m_through_a s w c k ((x_up ((l_m_through_b s w c h (M 162 2) 199 M (M 163 (35 + 80 * s + h)) (M 163 (59 + 80 * s + h))).1) 162 3 h)) (1 + h)
theorem kl_m_through_a {z : Int} {P M0 : Int → Int → Int} {r : Option xV × xH → Prop} (hS : x_Sh z P) (s : Int) (w : Int) (c : Int)   (hs : 0 ≤ s ∧ s < 12) : ∀ k : Nat, ∀ x6 x7 x8 : xV, ∀ M : (Int → Int → Int), ∀ h : Int, y_TL 1 M0 M → (0 ≤ h ∧ h ≤ 24) → 24 - h < (k : Int) → (∀ x6 x7 x8 : xV, y_TL 1 M0 ((l_m_through_a s w c k M h).1) → True → x_Ev 167 108 [.inr 162, .inl (s), .inl (w), .inl (34 + 80 * s), .inl (c), .inl ((l_m_through_a s w c k M h).2), x6, x7, x8] [] (0, 0) (z, P, (l_m_through_a s w c k M h).1) r) → x_Ev 167 22 [.inr 162, .inl (s), .inl (w), .inl (34 + 80 * s), .inl (c), .inl (h), x6, x7, x8] [] (0, 0) (z, P, M) r := by
  intro k
  induction k with
  | zero => intro x6 x7 x8 M h tl0 hi hm; omega
  | succ k ih =>
    intro x6 x7 x8 M h tl0 hi hm kk
    refine e_iload (k := 22) (xi167 22) rfl ?_
    refine e_iconst (k := 23) (xi167 23) ?_
    refine e_c_ge (k := 24) (xi167 24) (fun c0 => ?_) (fun c0 => ?_)
    · skip
      rw [(show l_m_through_a s w c (k + 1) M h = (M, h) from by rw [l_m_through_a, if_pos c0])] at kk
      try dsimp only at kk
      exact kk _ _ _ tl0 (by first | exact trivial | omega)
    · skip
      refine e_aload (k := 25) (xi167 25) rfl (by decide) ?_
      refine e_getR (j := 0) (w := 163) (k := 26) (xi167 26) (ok_mo hS) rfl (sh_all hS) ?_
      refine e_iload (k := 27) (xi167 27) rfl ?_
      have t1 := ty_aFl tl0.1 (i := 34 + 80 * s) (s := s) (by omega) (by omega)
      refine e_iald (w := M 163 (34 + 80 * s)) (k := 28) (xi167 28) (ok_all hS) (by rw [ln_all]; omega) rfl ?_
      refine e_iconst (k := 29) (xi167 29) ?_
      refine e_c_ne (k := 30) (xi167 30) (fun c1 => ?_) (fun c1 => ?_)
      · skip
        rw [(show l_m_through_a s w c (k + 1) M h = (M, h) from by rw [l_m_through_a, if_neg c0, if_pos c1])] at kk
        try dsimp only at kk
        exact kk _ _ _ tl0 (by first | exact trivial | omega)
      · skip
        refine e_aload (k := 31) (xi167 31) rfl (by decide) ?_
        refine e_getR (j := 0) (w := 163) (k := 32) (xi167 32) (ok_mo hS) rfl (sh_all hS) ?_
        refine e_iload (k := 33) (xi167 33) rfl ?_
        refine e_iconst (k := 34) (xi167 34) ?_
        refine e_iadd (w := 35 + 80 * s) (k := 35) (xi167 35) (x_wn (by omega)) ?_
        refine e_iload (k := 36) (xi167 36) rfl ?_
        refine e_iadd (w := 35 + 80 * s + h) (k := 37) (xi167 37) (x_wn (by omega)) ?_
        have t2 := ty_aB tl0.1 (i := 35 + 80 * s + h) (s := s) (d := h) (by omega) (by omega) (by omega)
        refine e_iald (w := M 163 (35 + 80 * s + h)) (k := 38) (xi167 38) (ok_all hS) (by rw [ln_all]; omega) rfl ?_
        refine e_istore (k := 39) (xi167 39) (Nat.le_of_ble_eq_true rfl) ?_
        show x_Ev 167 40 [.inr 162, .inl (s), .inl (w), .inl (34 + 80 * s), .inl (c), .inl (h), .inl (M 163 (35 + 80 * s + h)), x7, x8] [] (0, 0) (z, P, M) _
        refine e_aload (k := 40) (xi167 40) rfl (by decide) ?_
        refine e_getR (j := 0) (w := 163) (k := 41) (xi167 41) (ok_mo hS) rfl (sh_all hS) ?_
        refine e_iload (k := 42) (xi167 42) rfl ?_
        refine e_iconst (k := 43) (xi167 43) ?_
        refine e_iadd (w := 59 + 80 * s) (k := 44) (xi167 44) (x_wn (by omega)) ?_
        refine e_iload (k := 45) (xi167 45) rfl ?_
        refine e_iadd (w := 59 + 80 * s + h) (k := 46) (xi167 46) (x_wn (by omega)) ?_
        have t3 := ty_aB tl0.1 (i := 59 + 80 * s + h) (s := s) (d := 24 + h) (by omega) (by omega) (by omega)
        refine e_iald (w := M 163 (59 + 80 * s + h)) (k := 47) (xi167 47) (ok_all hS) (by rw [ln_all]; omega) rfl ?_
        refine e_istore (k := 48) (xi167 48) (Nat.le_of_ble_eq_true rfl) ?_
        show x_Ev 167 49 [.inr 162, .inl (s), .inl (w), .inl (34 + 80 * s), .inl (c), .inl (h), .inl (M 163 (35 + 80 * s + h)), .inl (M 163 (59 + 80 * s + h)), x8] [] (0, 0) (z, P, M) _
        refine e_aload (k := 49) (xi167 49) rfl (by decide) ?_
        refine e_getI (j := 2) (w := M 162 2) (k := 50) (xi167 50) (ok_mo hS) rfl rfl ?_
        refine e_istore (k := 51) (xi167 51) (Nat.le_of_ble_eq_true rfl) ?_
        show x_Ev 167 52 [.inr 162, .inl (s), .inl (w), .inl (34 + 80 * s), .inl (c), .inl (h), .inl (M 163 (35 + 80 * s + h)), .inl (M 163 (59 + 80 * s + h)), .inl (M 162 2)] [] (0, 0) (z, P, M) _
        refine kl_m_through_b hS s w c h (M 162 2)   (by omega) 199 M (M 163 (35 + 80 * s + h)) (M 163 (59 + 80 * s + h)) tl0 (by omega) (by omega) ?_
        intro tl4 q5
        show x_Ev 167 96 [.inr 162, .inl (s), .inl (w), .inl (34 + 80 * s), .inl (c), .inl (h), .inl ((l_m_through_b s w c h (M 162 2) 199 M (M 163 (35 + 80 * s + h)) (M 163 (59 + 80 * s + h))).2.1), .inl ((l_m_through_b s w c h (M 162 2) 199 M (M 163 (35 + 80 * s + h)) (M 163 (59 + 80 * s + h))).2.2), .inl (M 162 2)] [] (0, 0) (z, P, (l_m_through_b s w c h (M 162 2) 199 M (M 163 (35 + 80 * s + h)) (M 163 (59 + 80 * s + h))).1) _
        refine e_aload (k := 96) (xi167 96) rfl (by decide) ?_
        refine e_getI (j := 2) (w := ((l_m_through_b s w c h (M 162 2) 199 M (M 163 (35 + 80 * s + h)) (M 163 (59 + 80 * s + h))).1) 162 2) (k := 97) (xi167 97) (ok_mo hS) rfl rfl ?_
        refine e_iload (k := 98) (xi167 98) rfl ?_
        refine e_c_le (k := 99) (xi167 99) (fun c2 => ?_) (fun c2 => ?_)
        · skip
          refine e_iinc (w := 1 + h) (k := 106) (xi167 106) rfl (x_wn (by omega)) ?_
          show x_Ev 167 107 [.inr 162, .inl (s), .inl (w), .inl (34 + 80 * s), .inl (c), .inl (1 + h), .inl ((l_m_through_b s w c h (M 162 2) 199 M (M 163 (35 + 80 * s + h)) (M 163 (59 + 80 * s + h))).2.1), .inl ((l_m_through_b s w c h (M 162 2) 199 M (M 163 (35 + 80 * s + h)) (M 163 (59 + 80 * s + h))).2.2), .inl (M 162 2)] [] (0, 0) (z, P, (l_m_through_b s w c h (M 162 2) 199 M (M 163 (35 + 80 * s + h)) (M 163 (59 + 80 * s + h))).1) _
          refine e_goto (k := 107) (xi167 107) ?_
          rw [(show l_m_through_a s w c (k + 1) M h = l_m_through_a s w c k ((l_m_through_b s w c h (M 162 2) 199 M (M 163 (35 + 80 * s + h)) (M 163 (59 + 80 * s + h))).1) (1 + h) from by rw [l_m_through_a, if_neg c0, if_neg c1, if_pos c2])] at kk
          exact ih _ _ _ ((l_m_through_b s w c h (M 162 2) 199 M (M 163 (35 + 80 * s + h)) (M 163 (59 + 80 * s + h))).1) (1 + h) tl4 (by omega) (by omega) kk
        · skip
          refine e_aload (k := 100) (xi167 100) rfl (by decide) ?_
          refine e_getI (j := 3) (w := ((l_m_through_b s w c h (M 162 2) 199 M (M 163 (35 + 80 * s + h)) (M 163 (59 + 80 * s + h))).1) 162 3) (k := 101) (xi167 101) (ok_mo hS) rfl rfl ?_
          refine e_z_ge (k := 102) (xi167 102) (fun c3 => ?_) (fun c3 => ?_)
          · skip
            refine e_iinc (w := 1 + h) (k := 106) (xi167 106) rfl (x_wn (by omega)) ?_
            show x_Ev 167 107 [.inr 162, .inl (s), .inl (w), .inl (34 + 80 * s), .inl (c), .inl (1 + h), .inl ((l_m_through_b s w c h (M 162 2) 199 M (M 163 (35 + 80 * s + h)) (M 163 (59 + 80 * s + h))).2.1), .inl ((l_m_through_b s w c h (M 162 2) 199 M (M 163 (35 + 80 * s + h)) (M 163 (59 + 80 * s + h))).2.2), .inl (M 162 2)] [] (0, 0) (z, P, (l_m_through_b s w c h (M 162 2) 199 M (M 163 (35 + 80 * s + h)) (M 163 (59 + 80 * s + h))).1) _
            refine e_goto (k := 107) (xi167 107) ?_
            rw [(show l_m_through_a s w c (k + 1) M h = l_m_through_a s w c k ((l_m_through_b s w c h (M 162 2) 199 M (M 163 (35 + 80 * s + h)) (M 163 (59 + 80 * s + h))).1) (1 + h) from by rw [l_m_through_a, if_neg c0, if_neg c1, if_neg c2, if_pos c3])] at kk
            exact ih _ _ _ ((l_m_through_b s w c h (M 162 2) 199 M (M 163 (35 + 80 * s + h)) (M 163 (59 + 80 * s + h))).1) (1 + h) tl4 (by omega) (by omega) kk
          · skip
            refine e_aload (k := 103) (xi167 103) rfl (by decide) ?_
            refine e_iload (k := 104) (xi167 104) rfl ?_
            refine e_putI (j := 3) (k := 105) (xi167 105) (ok_mo hS) rfl ?_
            have tl6 : y_TL 1 M0 (x_up ((l_m_through_b s w c h (M 162 2) 199 M (M 163 (35 + 80 * s + h)) (M 163 (59 + 80 * s + h))).1) 162 3 h) := tl_up tl4 (sl_mo3  ) (nf_mo3 )
            refine e_iinc (w := 1 + h) (k := 106) (xi167 106) rfl (x_wn (by omega)) ?_
            show x_Ev 167 107 [.inr 162, .inl (s), .inl (w), .inl (34 + 80 * s), .inl (c), .inl (1 + h), .inl ((l_m_through_b s w c h (M 162 2) 199 M (M 163 (35 + 80 * s + h)) (M 163 (59 + 80 * s + h))).2.1), .inl ((l_m_through_b s w c h (M 162 2) 199 M (M 163 (35 + 80 * s + h)) (M 163 (59 + 80 * s + h))).2.2), .inl (M 162 2)] [] (0, 0) (z, P, (x_up ((l_m_through_b s w c h (M 162 2) 199 M (M 163 (35 + 80 * s + h)) (M 163 (59 + 80 * s + h))).1) 162 3 h)) _
            refine e_goto (k := 107) (xi167 107) ?_
            rw [(show l_m_through_a s w c (k + 1) M h = l_m_through_a s w c k ((x_up ((l_m_through_b s w c h (M 162 2) 199 M (M 163 (35 + 80 * s + h)) (M 163 (59 + 80 * s + h))).1) 162 3 h)) (1 + h) from by rw [l_m_through_a, if_neg c0, if_neg c1, if_neg c2, if_neg c3])] at kk
            exact ih _ _ _ ((x_up ((l_m_through_b s w c h (M 162 2) 199 M (M 163 (35 + 80 * s + h)) (M 163 (59 + 80 * s + h))).1) 162 3 h)) (1 + h) tl6 (by omega) (by omega) kk
def u_m_through (s w : Int) (M : Int → Int → Int) : Int → Int → Int := (l_m_through_a s w (v_m_cntD s ((-2)) M) 25 ((x_up ((x_up ((x_up M 162 2 0)) 162 3 ((-1)))) 162 4 w)) 0).1
theorem k_m_through {z : Int} {P M : Int → Int → Int} (hS : x_Sh z P) (hT : y_TC M) (s : Int) (w : Int)  (hs : 0 ≤ s ∧ s < 12) : x_CallR 167 [.inr 162, .inl (s), .inl (w)] (z, P, M) (fun q => q = (none, (z, P, u_m_through s w M)) ∧ y_TL 1 M (u_m_through s w M)) := by
  have tl0 : y_TL 1 M M := tl_refl hT
  refine e_body (ls0 := [.inr 162, .inl (s), .inl (w), x_un, x_un, x_un, x_un, x_un, x_un]) xm167 rfl ?_
  refine e_aload (k := 0) (xi167 0) rfl (by decide) ?_
  refine e_iload (k := 1) (xi167 1) rfl ?_
  refine e_call (k := 2) (v := some (.inl (10 + 80 * s))) (h1 := (z, P, M)) (c1 := 0) (c2 := 0) (rest := []) (as := [.inr 162, .inl (s)]) (xi167 2) (by decide) xm117 rfl ⟨rfl, Nat.le_of_ble_eq_true rfl, by decide⟩ (Or.inr (x_okt (ok_mo hS))) (k_mstandAt hS tl0.1 s (by omega)) ?_
  refine e_iconst (k := 3) (xi167 3) ?_
  refine e_iadd (w := 34 + 80 * s) (k := 4) (xi167 4) (x_wn (by omega)) ?_
  refine e_istore (k := 5) (xi167 5) (Nat.le_of_ble_eq_true rfl) ?_
  show x_Ev 167 6 [.inr 162, .inl (s), .inl (w), .inl (34 + 80 * s), x_un, x_un, x_un, x_un, x_un] [] (0, 0) (z, P, M) _
  refine e_aload (k := 6) (xi167 6) rfl (by decide) ?_
  refine e_iload (k := 7) (xi167 7) rfl ?_
  refine e_iconst (k := 8) (xi167 8) ?_
  refine e_callR (k := 9) (c1 := 0) (c2 := 0) (rest := []) (as := [.inr 162, .inl (s), .inl ((-2))]) (xi167 9) (by decide) xm128 rfl ⟨rfl, Nat.le_of_ble_eq_true rfl, by decide⟩ (Or.inr (x_okt (ok_mo hS))) (k_m_cntD hS tl0.1 s ((-2))  (by omega)) ?_
  rintro v_ h_ ⟨e1, q3⟩
  cases e1
  show x_Ev 167 10 [.inr 162, .inl (s), .inl (w), .inl (34 + 80 * s), x_un, x_un, x_un, x_un, x_un] [.inl (v_m_cntD s ((-2)) M)] (0, 0) (z, P, M) _
  refine e_istore (k := 10) (xi167 10) (Nat.le_of_ble_eq_true rfl) ?_
  show x_Ev 167 11 [.inr 162, .inl (s), .inl (w), .inl (34 + 80 * s), .inl (v_m_cntD s ((-2)) M), x_un, x_un, x_un, x_un] [] (0, 0) (z, P, M) _
  refine e_aload (k := 11) (xi167 11) rfl (by decide) ?_
  refine e_iconst (k := 12) (xi167 12) ?_
  refine e_putI (j := 2) (k := 13) (xi167 13) (ok_mo hS) rfl ?_
  have tl4 : y_TL 1 M (x_up M 162 2 0) := tl_up tl0 (sl_mo2  ) (nf_mo2 )
  refine e_aload (k := 14) (xi167 14) rfl (by decide) ?_
  refine e_iconst (k := 15) (xi167 15) ?_
  refine e_putI (j := 3) (k := 16) (xi167 16) (ok_mo hS) rfl ?_
  have tl5 : y_TL 1 M (x_up ((x_up M 162 2 0)) 162 3 ((-1))) := tl_up tl4 (sl_mo3  ) (nf_mo3 )
  refine e_aload (k := 17) (xi167 17) rfl (by decide) ?_
  refine e_iload (k := 18) (xi167 18) rfl ?_
  refine e_putI (j := 4) (k := 19) (xi167 19) (ok_mo hS) rfl ?_
  have tl6 : y_TL 1 M (x_up ((x_up ((x_up M 162 2 0)) 162 3 ((-1)))) 162 4 w) := tl_up tl5 (sl_mo4  ) (nf_mo4 )
  refine e_iconst (k := 20) (xi167 20) ?_
  refine e_istore (k := 21) (xi167 21) (Nat.le_of_ble_eq_true rfl) ?_
  show x_Ev 167 22 [.inr 162, .inl (s), .inl (w), .inl (34 + 80 * s), .inl (v_m_cntD s ((-2)) M), .inl 0, x_un, x_un, x_un] [] (0, 0) (z, P, (x_up ((x_up ((x_up M 162 2 0)) 162 3 ((-1)))) 162 4 w)) _
  refine kl_m_through_a hS s w (v_m_cntD s ((-2)) M)   (by omega) 25 _ _ _ ((x_up ((x_up ((x_up M 162 2 0)) 162 3 ((-1)))) 162 4 w)) 0 tl6 (by omega) (by omega) ?_
  intro x9 x10 x11 tl7 q8
  show x_Ev 167 108 [.inr 162, .inl (s), .inl (w), .inl (34 + 80 * s), .inl (v_m_cntD s ((-2)) M), .inl ((l_m_through_a s w (v_m_cntD s ((-2)) M) 25 ((x_up ((x_up ((x_up M 162 2 0)) 162 3 ((-1)))) 162 4 w)) 0).2), x9, x10, x11] [] (0, 0) (z, P, (l_m_through_a s w (v_m_cntD s ((-2)) M) 25 ((x_up ((x_up ((x_up M 162 2 0)) 162 3 ((-1)))) 162 4 w)) 0).1) _
  refine e_vret (k := 108) (xi167 108) ?_
  exact y_fU (show u_m_through s w M = (l_m_through_a s w (v_m_cntD s ((-2)) M) 25 ((x_up ((x_up ((x_up M 162 2 0)) 162 3 ((-1)))) 162 4 w)) 0).1 from rfl) tl7
def v_n_runs (a b d : Int) (M : Int → Int → Int) : Int := if 0 ≤ a ∧ a < M 163 0 then (if b < 0 then (-3) else if v_m_cntD a ((-2)) M < b then (-3) else if 0 ≤ d ∧ d < 3 then (if ¬ d = 0 then (if ¬ d = 1 then ((u_m_through a b M)) 162 4 else ((u_m_through a b M)) 162 3) else ((u_m_through a b M)) 162 2) else (-3)) else (-3)
def u_n_runs (a b d : Int) (M : Int → Int → Int) : Int → Int → Int := if 0 ≤ a ∧ a < M 163 0 then (if b < 0 then M else if v_m_cntD a ((-2)) M < b then M else if 0 ≤ d ∧ d < 3 then (if ¬ d = 0 then (if ¬ d = 1 then (u_m_through a b M) else (u_m_through a b M)) else (u_m_through a b M)) else M) else M
theorem k_n_runs {z : Int} {P M : Int → Int → Int} (hS : x_Sh z P) (hT : y_TC M) (a : Int) (b : Int) (d : Int)   : x_CallR 168 [.inr 162, .inl (a), .inl (b), .inl (d)] (z, P, M) (fun q => q = (some (.inl (v_n_runs a b d M)), (z, P, u_n_runs a b d M)) ∧ y_TL 1 M (u_n_runs a b d M) ∧ True) := by
  have tl0 : y_TL 1 M M := tl_refl hT
  refine e_body (ls0 := [.inr 162, .inl (a), .inl (b), .inl (d)]) xm168 rfl ?_
  refine e_aload (k := 0) (xi168 0) rfl (by decide) ?_
  refine e_iload (k := 1) (xi168 1) rfl ?_
  have t1 := ty_a0 tl0.1
  refine e_call (k := 2) (v := some (.inl (x_b (0 ≤ a ∧ a < M 163 0)))) (h1 := (z, P, M)) (c1 := 0) (c2 := 0) (rest := []) (as := [.inr 162, .inl (a)]) (xi168 2) (by decide) xm114 rfl ⟨rfl, Nat.le_of_ble_eq_true rfl, by decide⟩ (Or.inr (x_okt (ok_mo hS))) (k_isStand hS tl0.1 a  ) ?_
  refine e_b_eq (k := 3) (xi168 3) (fun c0 => ?_) (fun c0 => ?_)
  · skip
    refine e_iload (k := 4) (xi168 4) rfl ?_
    refine e_z_lt (k := 5) (xi168 5) (fun c1 => ?_) (fun c1 => ?_)
    · skip
      refine e_iconst (k := 16) (xi168 16) ?_
      refine e_iret (k := 17) (xi168 17) ?_
      exact y_fW (Q := fun _ => True) (show v_n_runs a b d M = (-3) from by rw [v_n_runs, if_pos c0, if_pos c1]) (show u_n_runs a b d M = M from by rw [u_n_runs, if_pos c0, if_pos c1]) tl0 trivial
    · skip
      refine e_iload (k := 6) (xi168 6) rfl ?_
      refine e_aload (k := 7) (xi168 7) rfl (by decide) ?_
      refine e_iload (k := 8) (xi168 8) rfl ?_
      refine e_iconst (k := 9) (xi168 9) ?_
      refine e_callR (k := 10) (c1 := 0) (c2 := 0) (rest := [.inl (b)]) (as := [.inr 162, .inl (a), .inl ((-2))]) (xi168 10) (by decide) xm128 rfl ⟨rfl, Nat.le_of_ble_eq_true rfl, by decide⟩ (Or.inr (x_okt (ok_mo hS))) (k_m_cntD hS tl0.1 a ((-2))  (by omega)) ?_
      rintro v_ h_ ⟨e2, q4⟩
      cases e2
      show x_Ev 168 11 [.inr 162, .inl (a), .inl (b), .inl (d)] [.inl (v_m_cntD a ((-2)) M), .inl (b)] (0, 0) (z, P, M) _
      refine e_c_gt (k := 11) (xi168 11) (fun c2 => ?_) (fun c2 => ?_)
      · skip
        refine e_iconst (k := 16) (xi168 16) ?_
        refine e_iret (k := 17) (xi168 17) ?_
        exact y_fW (Q := fun _ => True) (show v_n_runs a b d M = (-3) from by rw [v_n_runs, if_pos c0, if_neg c1, if_pos c2]) (show u_n_runs a b d M = M from by rw [u_n_runs, if_pos c0, if_neg c1, if_pos c2]) tl0 trivial
      · skip
        refine e_iload (k := 12) (xi168 12) rfl ?_
        refine e_iconst (k := 13) (xi168 13) ?_
        refine e_call (k := 14) (v := some (.inl (x_b (0 ≤ d ∧ d < 3)))) (h1 := (z, P, M)) (c1 := 0) (c2 := 0) (rest := []) (as := [.inl (d), .inl 3]) (xi168 14) (by decide) xm113 rfl ⟨rfl, Nat.le_of_ble_eq_true rfl, by decide⟩ (Or.inl rfl) (k_isIn hS tl0.1 d 3  ) ?_
        refine e_b_ne (k := 15) (xi168 15) (fun c3 => ?_) (fun c3 => ?_)
        · skip
          refine e_aload (k := 18) (xi168 18) rfl (by decide) ?_
          refine e_iload (k := 19) (xi168 19) rfl ?_
          refine e_iload (k := 20) (xi168 20) rfl ?_
          refine e_callR (k := 21) (c1 := 0) (c2 := 0) (rest := []) (as := [.inr 162, .inl (a), .inl (b)]) (xi168 21) (by decide) xm167 rfl ⟨rfl, Nat.le_of_ble_eq_true rfl, by decide⟩ (Or.inr (x_okt (ok_mo hS))) (k_m_through hS tl0.1 a b  (by omega)) ?_
          rintro v_ h_ ⟨e5, tl6⟩
          cases e5
          have tl8 := tl_trans tl0 (tl6)
          have n9 := tl_a tl6
          show x_Ev 168 22 [.inr 162, .inl (a), .inl (b), .inl (d)] [] (0, 0) (z, P, (u_m_through a b M)) _
          refine e_iload (k := 22) (xi168 22) rfl ?_
          refine e_z_ne (k := 23) (xi168 23) (fun c4 => ?_) (fun c4 => ?_)
          · skip
            refine e_iload (k := 27) (xi168 27) rfl ?_
            refine e_iconst (k := 28) (xi168 28) ?_
            refine e_c_ne (k := 29) (xi168 29) (fun c5 => ?_) (fun c5 => ?_)
            · skip
              refine e_aload (k := 33) (xi168 33) rfl (by decide) ?_
              refine e_getI (j := 4) (w := ((u_m_through a b M)) 162 4) (k := 34) (xi168 34) (ok_mo hS) rfl rfl ?_
              refine e_iret (k := 35) (xi168 35) ?_
              exact y_fW (Q := fun _ => True) (show v_n_runs a b d M = ((u_m_through a b M)) 162 4 from by rw [v_n_runs, if_pos c0, if_neg c1, if_neg c2, if_pos c3, if_pos c4, if_pos c5]) (show u_n_runs a b d M = (u_m_through a b M) from by rw [u_n_runs, if_pos c0, if_neg c1, if_neg c2, if_pos c3, if_pos c4, if_pos c5]) tl8 trivial
            · skip
              refine e_aload (k := 30) (xi168 30) rfl (by decide) ?_
              refine e_getI (j := 3) (w := ((u_m_through a b M)) 162 3) (k := 31) (xi168 31) (ok_mo hS) rfl rfl ?_
              refine e_goto (k := 32) (xi168 32) ?_
              refine e_iret (k := 35) (xi168 35) ?_
              exact y_fW (Q := fun _ => True) (show v_n_runs a b d M = ((u_m_through a b M)) 162 3 from by rw [v_n_runs, if_pos c0, if_neg c1, if_neg c2, if_pos c3, if_pos c4, if_neg c5]) (show u_n_runs a b d M = (u_m_through a b M) from by rw [u_n_runs, if_pos c0, if_neg c1, if_neg c2, if_pos c3, if_pos c4, if_neg c5]) tl8 trivial
          · skip
            refine e_aload (k := 24) (xi168 24) rfl (by decide) ?_
            refine e_getI (j := 2) (w := ((u_m_through a b M)) 162 2) (k := 25) (xi168 25) (ok_mo hS) rfl rfl ?_
            refine e_goto (k := 26) (xi168 26) ?_
            refine e_iret (k := 35) (xi168 35) ?_
            exact y_fW (Q := fun _ => True) (show v_n_runs a b d M = ((u_m_through a b M)) 162 2 from by rw [v_n_runs, if_pos c0, if_neg c1, if_neg c2, if_pos c3, if_neg c4]) (show u_n_runs a b d M = (u_m_through a b M) from by rw [u_n_runs, if_pos c0, if_neg c1, if_neg c2, if_pos c3, if_neg c4]) tl8 trivial
        · skip
          refine e_iconst (k := 16) (xi168 16) ?_
          refine e_iret (k := 17) (xi168 17) ?_
          exact y_fW (Q := fun _ => True) (show v_n_runs a b d M = (-3) from by rw [v_n_runs, if_pos c0, if_neg c1, if_neg c2, if_neg c3]) (show u_n_runs a b d M = M from by rw [u_n_runs, if_pos c0, if_neg c1, if_neg c2, if_neg c3]) tl0 trivial
  · skip
    refine e_iconst (k := 16) (xi168 16) ?_
    refine e_iret (k := 17) (xi168 17) ?_
    exact y_fW (Q := fun _ => True) (show v_n_runs a b d M = (-3) from by rw [v_n_runs, if_neg c0]) (show u_n_runs a b d M = M from by rw [u_n_runs, if_neg c0]) tl0 trivial
def l_n_shortage_a (a : Int) : Nat → (Int → Int → Int) → Int → Int → Int → (Int → Int → Int) × Int × Int × Int
  | 0, M, be, fw, wl => (M, be, fw, wl)
  | k + 1, M, be, fw, wl => if v_m_cntD a ((-2)) M < wl then (M, be, fw, wl) else if fw < 0 then l_n_shortage_a a k ((u_m_through a wl M)) wl (((u_m_through a wl M)) 162 2) (1 + wl) else if fw ≤ ((u_m_through a wl M)) 162 2 then l_n_shortage_a a k ((u_m_through a wl M)) be fw (1 + wl) else l_n_shortage_a a k ((u_m_through a wl M)) wl (((u_m_through a wl M)) 162 2) (1 + wl)
theorem kl_n_shortage_a {z : Int} {P M0 : Int → Int → Int} {r : Option xV × xH → Prop} (hS : x_Sh z P) (a : Int)  (ha : 0 ≤ a ∧ a < 12)  : ∀ k : Nat, ∀ M : (Int → Int → Int), ∀ be : Int, ∀ fw : Int, ∀ wl : Int, y_TL 1 M0 M → ((0 ≤ be ∧ be ≤ 12) ∧ 0 ≤ wl ∧ wl ≤ 13) → 13 - wl < (k : Int) → (y_TL 1 M0 ((l_n_shortage_a a k M be fw wl).1) → 0 ≤ ((l_n_shortage_a a k M be fw wl).2.1) ∧ ((l_n_shortage_a a k M be fw wl).2.1) ≤ 12 → x_Ev 169 35 [.inr 162, .inl (a), .inl ((l_n_shortage_a a k M be fw wl).2.1), .inl ((l_n_shortage_a a k M be fw wl).2.2.1), .inl ((l_n_shortage_a a k M be fw wl).2.2.2)] [] (0, 0) (z, P, (l_n_shortage_a a k M be fw wl).1) r) → x_Ev 169 12 [.inr 162, .inl (a), .inl (be), .inl (fw), .inl (wl)] [] (0, 0) (z, P, M) r := by
  intro k
  induction k with
  | zero => intro M be fw wl tl0 hi hm; omega
  | succ k ih =>
    intro M be fw wl tl0 hi hm kk
    refine e_iload (k := 12) (xi169 12) rfl ?_
    refine e_aload (k := 13) (xi169 13) rfl (by decide) ?_
    refine e_iload (k := 14) (xi169 14) rfl ?_
    refine e_iconst (k := 15) (xi169 15) ?_
    refine e_callR (k := 16) (c1 := 0) (c2 := 0) (rest := [.inl (wl)]) (as := [.inr 162, .inl (a), .inl ((-2))]) (xi169 16) (by decide) xm128 rfl ⟨rfl, Nat.le_of_ble_eq_true rfl, by decide⟩ (Or.inr (x_okt (ok_mo hS))) (k_m_cntD hS tl0.1 a ((-2))  (by omega)) ?_
    rintro v_ h_ ⟨e1, q3⟩
    cases e1
    show x_Ev 169 17 [.inr 162, .inl (a), .inl (be), .inl (fw), .inl (wl)] [.inl (v_m_cntD a ((-2)) M), .inl (wl)] (0, 0) (z, P, M) _
    refine e_c_gt (k := 17) (xi169 17) (fun c0 => ?_) (fun c0 => ?_)
    · skip
      rw [(show l_n_shortage_a a (k + 1) M be fw wl = (M, be, fw, wl) from by rw [l_n_shortage_a, if_pos c0])] at kk
      try dsimp only at kk
      exact kk tl0 (by first | exact trivial | omega)
    · skip
      refine e_aload (k := 18) (xi169 18) rfl (by decide) ?_
      refine e_iload (k := 19) (xi169 19) rfl ?_
      refine e_iload (k := 20) (xi169 20) rfl ?_
      refine e_callR (k := 21) (c1 := 0) (c2 := 0) (rest := []) (as := [.inr 162, .inl (a), .inl (wl)]) (xi169 21) (by decide) xm167 rfl ⟨rfl, Nat.le_of_ble_eq_true rfl, by decide⟩ (Or.inr (x_okt (ok_mo hS))) (k_m_through hS tl0.1 a wl  (by omega)) ?_
      rintro v_ h_ ⟨e4, tl5⟩
      cases e4
      have tl7 := tl_trans tl0 (tl5)
      have n8 := tl_a tl5
      show x_Ev 169 22 [.inr 162, .inl (a), .inl (be), .inl (fw), .inl (wl)] [] (0, 0) (z, P, (u_m_through a wl M)) _
      refine e_iload (k := 22) (xi169 22) rfl ?_
      refine e_z_lt (k := 23) (xi169 23) (fun c1 => ?_) (fun c1 => ?_)
      · skip
        refine e_aload (k := 28) (xi169 28) rfl (by decide) ?_
        refine e_getI (j := 2) (w := ((u_m_through a wl M)) 162 2) (k := 29) (xi169 29) (ok_mo hS) rfl rfl ?_
        refine e_istore (k := 30) (xi169 30) (Nat.le_of_ble_eq_true rfl) ?_
        show x_Ev 169 31 [.inr 162, .inl (a), .inl (be), .inl (((u_m_through a wl M)) 162 2), .inl (wl)] [] (0, 0) (z, P, (u_m_through a wl M)) _
        refine e_iload (k := 31) (xi169 31) rfl ?_
        refine e_istore (k := 32) (xi169 32) (Nat.le_of_ble_eq_true rfl) ?_
        show x_Ev 169 33 [.inr 162, .inl (a), .inl (wl), .inl (((u_m_through a wl M)) 162 2), .inl (wl)] [] (0, 0) (z, P, (u_m_through a wl M)) _
        refine e_iinc (w := 1 + wl) (k := 33) (xi169 33) rfl (x_wn (by omega)) ?_
        show x_Ev 169 34 [.inr 162, .inl (a), .inl (wl), .inl (((u_m_through a wl M)) 162 2), .inl (1 + wl)] [] (0, 0) (z, P, (u_m_through a wl M)) _
        refine e_goto (k := 34) (xi169 34) ?_
        rw [(show l_n_shortage_a a (k + 1) M be fw wl = l_n_shortage_a a k ((u_m_through a wl M)) wl (((u_m_through a wl M)) 162 2) (1 + wl) from by rw [l_n_shortage_a, if_neg c0, if_pos c1])] at kk
        exact ih ((u_m_through a wl M)) wl (((u_m_through a wl M)) 162 2) (1 + wl) tl7 (by omega) (by omega) kk
      · skip
        refine e_aload (k := 24) (xi169 24) rfl (by decide) ?_
        refine e_getI (j := 2) (w := ((u_m_through a wl M)) 162 2) (k := 25) (xi169 25) (ok_mo hS) rfl rfl ?_
        refine e_iload (k := 26) (xi169 26) rfl ?_
        refine e_c_ge (k := 27) (xi169 27) (fun c2 => ?_) (fun c2 => ?_)
        · skip
          refine e_iinc (w := 1 + wl) (k := 33) (xi169 33) rfl (x_wn (by omega)) ?_
          show x_Ev 169 34 [.inr 162, .inl (a), .inl (be), .inl (fw), .inl (1 + wl)] [] (0, 0) (z, P, (u_m_through a wl M)) _
          refine e_goto (k := 34) (xi169 34) ?_
          rw [(show l_n_shortage_a a (k + 1) M be fw wl = l_n_shortage_a a k ((u_m_through a wl M)) be fw (1 + wl) from by rw [l_n_shortage_a, if_neg c0, if_neg c1, if_pos c2])] at kk
          exact ih ((u_m_through a wl M)) be fw (1 + wl) tl7 (by omega) (by omega) kk
        · skip
          refine e_aload (k := 28) (xi169 28) rfl (by decide) ?_
          refine e_getI (j := 2) (w := ((u_m_through a wl M)) 162 2) (k := 29) (xi169 29) (ok_mo hS) rfl rfl ?_
          refine e_istore (k := 30) (xi169 30) (Nat.le_of_ble_eq_true rfl) ?_
          show x_Ev 169 31 [.inr 162, .inl (a), .inl (be), .inl (((u_m_through a wl M)) 162 2), .inl (wl)] [] (0, 0) (z, P, (u_m_through a wl M)) _
          refine e_iload (k := 31) (xi169 31) rfl ?_
          refine e_istore (k := 32) (xi169 32) (Nat.le_of_ble_eq_true rfl) ?_
          show x_Ev 169 33 [.inr 162, .inl (a), .inl (wl), .inl (((u_m_through a wl M)) 162 2), .inl (wl)] [] (0, 0) (z, P, (u_m_through a wl M)) _
          refine e_iinc (w := 1 + wl) (k := 33) (xi169 33) rfl (x_wn (by omega)) ?_
          show x_Ev 169 34 [.inr 162, .inl (a), .inl (wl), .inl (((u_m_through a wl M)) 162 2), .inl (1 + wl)] [] (0, 0) (z, P, (u_m_through a wl M)) _
          refine e_goto (k := 34) (xi169 34) ?_
          rw [(show l_n_shortage_a a (k + 1) M be fw wl = l_n_shortage_a a k ((u_m_through a wl M)) wl (((u_m_through a wl M)) 162 2) (1 + wl) from by rw [l_n_shortage_a, if_neg c0, if_neg c1, if_neg c2])] at kk
          exact ih ((u_m_through a wl M)) wl (((u_m_through a wl M)) 162 2) (1 + wl) tl7 (by omega) (by omega) kk
def v_n_shortage (a : Int) (M : Int → Int → Int) : Int := if 0 ≤ a ∧ a < M 163 0 then (l_n_shortage_a a 14 M 0 ((-1)) 0).2.1 - v_m_cntW a 0 0 ((l_n_shortage_a a 14 M 0 ((-1)) 0).1) else (-1000)
def u_n_shortage (a : Int) (M : Int → Int → Int) : Int → Int → Int := if 0 ≤ a ∧ a < M 163 0 then (l_n_shortage_a a 14 M 0 ((-1)) 0).1 else M
theorem k_n_shortage {z : Int} {P M : Int → Int → Int} (hS : x_Sh z P) (hT : y_TC M) (a : Int)   : x_CallR 169 [.inr 162, .inl (a)] (z, P, M) (fun q => q = (some (.inl (v_n_shortage a M)), (z, P, u_n_shortage a M)) ∧ y_TL 1 M (u_n_shortage a M) ∧ True) := by
  have tl0 : y_TL 1 M M := tl_refl hT
  refine e_body (ls0 := [.inr 162, .inl (a), x_un, x_un, x_un]) xm169 rfl ?_
  refine e_aload (k := 0) (xi169 0) rfl (by decide) ?_
  refine e_iload (k := 1) (xi169 1) rfl ?_
  have t1 := ty_a0 tl0.1
  refine e_call (k := 2) (v := some (.inl (x_b (0 ≤ a ∧ a < M 163 0)))) (h1 := (z, P, M)) (c1 := 0) (c2 := 0) (rest := []) (as := [.inr 162, .inl (a)]) (xi169 2) (by decide) xm114 rfl ⟨rfl, Nat.le_of_ble_eq_true rfl, by decide⟩ (Or.inr (x_okt (ok_mo hS))) (k_isStand hS tl0.1 a  ) ?_
  refine e_b_ne (k := 3) (xi169 3) (fun c0 => ?_) (fun c0 => ?_)
  · skip
    refine e_iconst (k := 6) (xi169 6) ?_
    refine e_istore (k := 7) (xi169 7) (Nat.le_of_ble_eq_true rfl) ?_
    show x_Ev 169 8 [.inr 162, .inl (a), .inl 0, x_un, x_un] [] (0, 0) (z, P, M) _
    refine e_iconst (k := 8) (xi169 8) ?_
    refine e_istore (k := 9) (xi169 9) (Nat.le_of_ble_eq_true rfl) ?_
    show x_Ev 169 10 [.inr 162, .inl (a), .inl 0, .inl ((-1)), x_un] [] (0, 0) (z, P, M) _
    refine e_iconst (k := 10) (xi169 10) ?_
    refine e_istore (k := 11) (xi169 11) (Nat.le_of_ble_eq_true rfl) ?_
    show x_Ev 169 12 [.inr 162, .inl (a), .inl 0, .inl ((-1)), .inl 0] [] (0, 0) (z, P, M) _
    refine kl_n_shortage_a hS a    (by omega) 14 M 0 ((-1)) 0 tl0 (by omega) (by omega) ?_
    intro tl2 q3
    show x_Ev 169 35 [.inr 162, .inl (a), .inl ((l_n_shortage_a a 14 M 0 ((-1)) 0).2.1), .inl ((l_n_shortage_a a 14 M 0 ((-1)) 0).2.2.1), .inl ((l_n_shortage_a a 14 M 0 ((-1)) 0).2.2.2)] [] (0, 0) (z, P, (l_n_shortage_a a 14 M 0 ((-1)) 0).1) _
    refine e_iload (k := 35) (xi169 35) rfl ?_
    refine e_aload (k := 36) (xi169 36) rfl (by decide) ?_
    refine e_iload (k := 37) (xi169 37) rfl ?_
    refine e_iconst (k := 38) (xi169 38) ?_
    refine e_iconst (k := 39) (xi169 39) ?_
    refine e_callR (k := 40) (c1 := 0) (c2 := 0) (rest := [.inl ((l_n_shortage_a a 14 M 0 ((-1)) 0).2.1)]) (as := [.inr 162, .inl (a), .inl 0, .inl 0]) (xi169 40) (by decide) xm131 rfl ⟨rfl, Nat.le_of_ble_eq_true rfl, by decide⟩ (Or.inr (x_okt (ok_mo hS))) (k_m_cntW hS tl2.1 a 0 0  ) ?_
    rintro v_ h_ ⟨e4, q6⟩
    cases e4
    show x_Ev 169 41 [.inr 162, .inl (a), .inl ((l_n_shortage_a a 14 M 0 ((-1)) 0).2.1), .inl ((l_n_shortage_a a 14 M 0 ((-1)) 0).2.2.1), .inl ((l_n_shortage_a a 14 M 0 ((-1)) 0).2.2.2)] [.inl (v_m_cntW a 0 0 ((l_n_shortage_a a 14 M 0 ((-1)) 0).1)), .inl ((l_n_shortage_a a 14 M 0 ((-1)) 0).2.1)] (0, 0) (z, P, (l_n_shortage_a a 14 M 0 ((-1)) 0).1) _
    refine e_isub (w := (l_n_shortage_a a 14 M 0 ((-1)) 0).2.1 - v_m_cntW a 0 0 ((l_n_shortage_a a 14 M 0 ((-1)) 0).1)) (k := 41) (xi169 41) (x_wn (by omega)) ?_
    refine e_iret (k := 42) (xi169 42) ?_
    exact y_fW (Q := fun _ => True) (show v_n_shortage a M = (l_n_shortage_a a 14 M 0 ((-1)) 0).2.1 - v_m_cntW a 0 0 ((l_n_shortage_a a 14 M 0 ((-1)) 0).1) from by rw [v_n_shortage, if_pos c0]) (show u_n_shortage a M = (l_n_shortage_a a 14 M 0 ((-1)) 0).1 from by rw [u_n_shortage, if_pos c0]) tl2 trivial
  · skip
    refine e_iconst (k := 4) (xi169 4) ?_
    refine e_iret (k := 5) (xi169 5) ?_
    exact y_fW (Q := fun _ => True) (show v_n_shortage a M = (-1000) from by rw [v_n_shortage, if_neg c0]) (show u_n_shortage a M = M from by rw [u_n_shortage, if_neg c0]) tl0 trivial
def v_n_want (a b : Int) (M : Int → Int → Int) : Int := if 0 ≤ a ∧ a < M 163 0 then (if b < (-1) then 0 else if b ≤ 12 then 1 else 0) else 0
def u_n_want (a b : Int) (M : Int → Int → Int) : Int → Int → Int := if 0 ≤ a ∧ a < M 163 0 then (if b < (-1) then M else if b ≤ 12 then (x_up M 163 (24 + 80 * a) b) else M) else M
theorem k_n_want {z : Int} {P M : Int → Int → Int} (hS : x_Sh z P) (hT : y_TC M) (a : Int) (b : Int)   : x_CallR 170 [.inr 162, .inl (a), .inl (b)] (z, P, M) (fun q => q = (some (.inl (v_n_want a b M)), (z, P, u_n_want a b M)) ∧ y_TL 1 M (u_n_want a b M) ∧ True) := by
  have tl0 : y_TL 1 M M := tl_refl hT
  refine e_body (ls0 := [.inr 162, .inl (a), .inl (b)]) xm170 rfl ?_
  refine e_aload (k := 0) (xi170 0) rfl (by decide) ?_
  refine e_iload (k := 1) (xi170 1) rfl ?_
  have t1 := ty_a0 tl0.1
  refine e_call (k := 2) (v := some (.inl (x_b (0 ≤ a ∧ a < M 163 0)))) (h1 := (z, P, M)) (c1 := 0) (c2 := 0) (rest := []) (as := [.inr 162, .inl (a)]) (xi170 2) (by decide) xm114 rfl ⟨rfl, Nat.le_of_ble_eq_true rfl, by decide⟩ (Or.inr (x_okt (ok_mo hS))) (k_isStand hS tl0.1 a  ) ?_
  refine e_b_eq (k := 3) (xi170 3) (fun c0 => ?_) (fun c0 => ?_)
  · skip
    refine e_iload (k := 4) (xi170 4) rfl ?_
    refine e_iconst (k := 5) (xi170 5) ?_
    refine e_c_lt (k := 6) (xi170 6) (fun c1 => ?_) (fun c1 => ?_)
    · skip
      refine e_iconst (k := 10) (xi170 10) ?_
      refine e_zret (k := 11) (xi170 11) (by first | decide | omega) ?_
      exact y_fW (Q := fun _ => True) (show v_n_want a b M = 0 from by rw [v_n_want, if_pos c0, if_pos c1]) (show u_n_want a b M = M from by rw [u_n_want, if_pos c0, if_pos c1]) tl0 trivial
    · skip
      refine e_iload (k := 7) (xi170 7) rfl ?_
      refine e_iconst (k := 8) (xi170 8) ?_
      refine e_c_le (k := 9) (xi170 9) (fun c2 => ?_) (fun c2 => ?_)
      · skip
        refine e_aload (k := 12) (xi170 12) rfl (by decide) ?_
        refine e_getR (j := 0) (w := 163) (k := 13) (xi170 13) (ok_mo hS) rfl (sh_all hS) ?_
        refine e_aload (k := 14) (xi170 14) rfl (by decide) ?_
        refine e_iload (k := 15) (xi170 15) rfl ?_
        refine e_call (k := 16) (v := some (.inl (10 + 80 * a))) (h1 := (z, P, M)) (c1 := 0) (c2 := 0) (rest := [.inr 163]) (as := [.inr 162, .inl (a)]) (xi170 16) (by decide) xm117 rfl ⟨rfl, Nat.le_of_ble_eq_true rfl, by decide⟩ (Or.inr (x_okt (ok_mo hS))) (k_mstandAt hS tl0.1 a (by omega)) ?_
        refine e_iconst (k := 17) (xi170 17) ?_
        refine e_iadd (w := 24 + 80 * a) (k := 18) (xi170 18) (x_wn (by omega)) ?_
        refine e_iload (k := 19) (xi170 19) rfl ?_
        refine e_iast (k := 20) (xi170 20) (ok_all hS) (by rw [ln_all]; omega) ?_
        have tl2 : y_TL 1 M (x_up M 163 (24 + 80 * a) b) := tl_up tl0 (sl_aWt (i := 24 + 80 * a) (s := a) (by omega) (by omega) (by omega)) (nf_aWt (i := 24 + 80 * a) (s := a) (by omega) (by omega))
        refine e_iconst (k := 21) (xi170 21) ?_
        refine e_zret (k := 22) (xi170 22) (by first | decide | omega) ?_
        exact y_fW (Q := fun _ => True) (show v_n_want a b M = 1 from by rw [v_n_want, if_pos c0, if_neg c1, if_pos c2]) (show u_n_want a b M = (x_up M 163 (24 + 80 * a) b) from by rw [u_n_want, if_pos c0, if_neg c1, if_pos c2]) tl2 trivial
      · skip
        refine e_iconst (k := 10) (xi170 10) ?_
        refine e_zret (k := 11) (xi170 11) (by first | decide | omega) ?_
        exact y_fW (Q := fun _ => True) (show v_n_want a b M = 0 from by rw [v_n_want, if_pos c0, if_neg c1, if_neg c2]) (show u_n_want a b M = M from by rw [u_n_want, if_pos c0, if_neg c1, if_neg c2]) tl0 trivial
  · skip
    refine e_iconst (k := 10) (xi170 10) ?_
    refine e_zret (k := 11) (xi170 11) (by first | decide | omega) ?_
    exact y_fW (Q := fun _ => True) (show v_n_want a b M = 0 from by rw [v_n_want, if_neg c0]) (show u_n_want a b M = M from by rw [u_n_want, if_neg c0]) tl0 trivial
def v_n_round (a : Int) (M : Int → Int → Int) : Int := if 0 ≤ a ∧ a < (M 162 11) then M 169 a else (-1)
theorem k_n_round {z : Int} {P M : Int → Int → Int} (hS : x_Sh z P) (hT : y_TC M) (a : Int)   : x_CallR 175 [.inr 162, .inl (a)] (z, P, M) (fun q => q = (some (.inl (v_n_round a M)), (z, P, M)) ∧ True) := by
  refine e_body (ls0 := [.inr 162, .inl (a)]) xm175 rfl ?_
  refine e_iload (k := 0) (xi175 0) rfl ?_
  refine e_aload (k := 1) (xi175 1) rfl (by decide) ?_
  have t1 := ty_mo11 hT 
  refine e_getI (j := 11) (w := M 162 11) (k := 2) (xi175 2) (ok_mo hS) rfl rfl ?_
  refine e_call (k := 3) (v := some (.inl (x_b (0 ≤ a ∧ a < (M 162 11))))) (h1 := (z, P, M)) (c1 := 0) (c2 := 0) (rest := []) (as := [.inl (a), .inl (M 162 11)]) (xi175 3) (by decide) xm113 rfl ⟨rfl, Nat.le_of_ble_eq_true rfl, by decide⟩ (Or.inl rfl) (k_isIn hS hT a (M 162 11)  ) ?_
  refine e_b_eq (k := 4) (xi175 4) (fun c0 => ?_) (fun c0 => ?_)
  · skip
    refine e_aload (k := 5) (xi175 5) rfl (by decide) ?_
    refine e_getR (j := 10) (w := 169) (k := 6) (xi175 6) (ok_mo hS) rfl (sh_round hS) ?_
    refine e_iload (k := 7) (xi175 7) rfl ?_
    have t2 := ty_round (j := a) hT 
    refine e_iald (w := M 169 a) (k := 8) (xi175 8) (ok_round hS) (by rw [ln_round]; omega) rfl ?_
    refine e_goto (k := 9) (xi175 9) ?_
    refine e_iret (k := 11) (xi175 11) ?_
    exact y_fV (Q := fun _ => True) (show v_n_round a M = M 169 a from by rw [v_n_round, if_pos c0]) trivial
  · skip
    refine e_iconst (k := 10) (xi175 10) ?_
    refine e_iret (k := 11) (xi175 11) ?_
    exact y_fV (Q := fun _ => True) (show v_n_round a M = (-1) from by rw [v_n_round, if_neg c0]) trivial
def l_m_over_a (s : Int) (M : Int → Int → Int) : Nat → Int → Int → Int × Int
  | 0, ov, j => (ov, j)
  | k + 1, ov, j => if M 162 7 ≤ j then (ov, j) else if ¬ M 165 j = s then l_m_over_a s M k ov (1 + j) else l_m_over_a s M k (M 166 j) (1 + j)
theorem kl_m_over_a {z : Int} {P M : Int → Int → Int} {r : Option xV × xH → Prop} (hS : x_Sh z P) (hT : y_TC M) (s : Int)    : ∀ k : Nat, ∀ ov : Int, ∀ j : Int, ((-12 ≤ ov ∧ ov ≤ 60) ∧ 0 ≤ j ∧ j ≤ 12) → 12 - j < (k : Int) → (-12 ≤ ((l_m_over_a s M k ov j).1) ∧ ((l_m_over_a s M k ov j).1) ≤ 60 → x_Ev 176 21 [.inr 162, .inl (s), .inl ((l_m_over_a s M k ov j).1), .inl ((l_m_over_a s M k ov j).2)] [] (0, 0) (z, P, M) r) → x_Ev 176 4 [.inr 162, .inl (s), .inl (ov), .inl (j)] [] (0, 0) (z, P, M) r := by
  intro k
  induction k with
  | zero => intro ov j hi hm; omega
  | succ k ih =>
    intro ov j hi hm kk
    refine e_iload (k := 4) (xi176 4) rfl ?_
    refine e_aload (k := 5) (xi176 5) rfl (by decide) ?_
    have t1 := ty_mo7 hT 
    refine e_getI (j := 7) (w := M 162 7) (k := 6) (xi176 6) (ok_mo hS) rfl rfl ?_
    refine e_c_ge (k := 7) (xi176 7) (fun c0 => ?_) (fun c0 => ?_)
    · skip
      rw [(show l_m_over_a s M (k + 1) ov j = (ov, j) from by rw [l_m_over_a, if_pos c0])] at kk
      try dsimp only at kk
      exact kk (by first | exact trivial | omega)
    · skip
      refine e_aload (k := 8) (xi176 8) rfl (by decide) ?_
      refine e_getR (j := 5) (w := 165) (k := 9) (xi176 9) (ok_mo hS) rfl (sh_outs hS) ?_
      refine e_iload (k := 10) (xi176 10) rfl ?_
      have t2 := ty_outs (j := j) hT 
      refine e_iald (w := M 165 j) (k := 11) (xi176 11) (ok_outs hS) (by rw [ln_outs]; omega) rfl ?_
      refine e_iload (k := 12) (xi176 12) rfl ?_
      refine e_c_ne (k := 13) (xi176 13) (fun c1 => ?_) (fun c1 => ?_)
      · skip
        refine e_iinc (w := 1 + j) (k := 19) (xi176 19) rfl (x_wn (by omega)) ?_
        show x_Ev 176 20 [.inr 162, .inl (s), .inl (ov), .inl (1 + j)] [] (0, 0) (z, P, M) _
        refine e_goto (k := 20) (xi176 20) ?_
        rw [(show l_m_over_a s M (k + 1) ov j = l_m_over_a s M k ov (1 + j) from by rw [l_m_over_a, if_neg c0, if_pos c1])] at kk
        exact ih ov (1 + j) (by omega) (by omega) kk
      · skip
        refine e_aload (k := 14) (xi176 14) rfl (by decide) ?_
        refine e_getR (j := 6) (w := 166) (k := 15) (xi176 15) (ok_mo hS) rfl (sh_over hS) ?_
        refine e_iload (k := 16) (xi176 16) rfl ?_
        have t3 := ty_over (j := j) hT 
        refine e_iald (w := M 166 j) (k := 17) (xi176 17) (ok_over hS) (by rw [ln_over]; omega) rfl ?_
        refine e_istore (k := 18) (xi176 18) (Nat.le_of_ble_eq_true rfl) ?_
        show x_Ev 176 19 [.inr 162, .inl (s), .inl (M 166 j), .inl (j)] [] (0, 0) (z, P, M) _
        refine e_iinc (w := 1 + j) (k := 19) (xi176 19) rfl (x_wn (by omega)) ?_
        show x_Ev 176 20 [.inr 162, .inl (s), .inl (M 166 j), .inl (1 + j)] [] (0, 0) (z, P, M) _
        refine e_goto (k := 20) (xi176 20) ?_
        rw [(show l_m_over_a s M (k + 1) ov j = l_m_over_a s M k (M 166 j) (1 + j) from by rw [l_m_over_a, if_neg c0, if_neg c1])] at kk
        exact ih (M 166 j) (1 + j) (by omega) (by omega) kk
def v_m_over (s : Int) (M : Int → Int → Int) : Int := (l_m_over_a s M 13 0 0).1
theorem k_m_over {z : Int} {P M : Int → Int → Int} (hS : x_Sh z P) (hT : y_TC M) (s : Int)   : x_CallR 176 [.inr 162, .inl (s)] (z, P, M) (fun q => q = (some (.inl (v_m_over s M)), (z, P, M)) ∧ (fun v => -12 ≤ v ∧ v ≤ 60) (v_m_over s M)) := by
  refine e_body (ls0 := [.inr 162, .inl (s), x_un, x_un]) xm176 rfl ?_
  refine e_iconst (k := 0) (xi176 0) ?_
  refine e_istore (k := 1) (xi176 1) (Nat.le_of_ble_eq_true rfl) ?_
  show x_Ev 176 2 [.inr 162, .inl (s), .inl 0, x_un] [] (0, 0) (z, P, M) _
  refine e_iconst (k := 2) (xi176 2) ?_
  refine e_istore (k := 3) (xi176 3) (Nat.le_of_ble_eq_true rfl) ?_
  show x_Ev 176 4 [.inr 162, .inl (s), .inl 0, .inl 0] [] (0, 0) (z, P, M) _
  refine kl_m_over_a hS hT s     13 0 0 (by omega) (by omega) ?_
  intro q2
  show x_Ev 176 21 [.inr 162, .inl (s), .inl ((l_m_over_a s M 13 0 0).1), .inl ((l_m_over_a s M 13 0 0).2)] [] (0, 0) (z, P, M) _
  refine e_iload (k := 21) (xi176 21) rfl ?_
  refine e_iret (k := 22) (xi176 22) ?_
  exact y_fV (Q := fun v => -12 ≤ v ∧ v ≤ 60) (show v_m_over s M = (l_m_over_a s M 13 0 0).1 from rfl) (by omega)
def l_n_count_a (a : Int) (M : Int → Int → Int) : Nat → Int → Int → Int × Int
  | 0, n, w => (n, w)
  | k + 1, n, w => if M 163 1 ≤ w then (n, w) else if ¬ M 163 (1116 + 8 * w) = (-3) + a then l_n_count_a a M k n (1 + w) else l_n_count_a a M k (1 + n) (1 + w)
theorem kl_n_count_a {z : Int} {P M : Int → Int → Int} {r : Option xV × xH → Prop} (hS : x_Sh z P) (hT : y_TC M) (a : Int)  (ha : 3 ≤ a ∧ a ≤ 6)  : ∀ k : Nat, ∀ n : Int, ∀ w : Int, (0 ≤ n ∧ n ≤ w ∧ w ≤ 60) → 60 - w < (k : Int) → (True → x_Ev 180 33 [.inr 162, .inl (a), .inl ((l_n_count_a a M k n w).1), .inl ((l_n_count_a a M k n w).2)] [] (0, 0) (z, P, M) r) → x_Ev 180 11 [.inr 162, .inl (a), .inl (n), .inl (w)] [] (0, 0) (z, P, M) r := by
  have ka1 := ty_a1 hT
  intro k
  induction k with
  | zero => intro n w hi hm; omega
  | succ k ih =>
    intro n w hi hm kk
    refine e_iload (k := 11) (xi180 11) rfl ?_
    refine e_aload (k := 12) (xi180 12) rfl (by decide) ?_
    refine e_getR (j := 0) (w := 163) (k := 13) (xi180 13) (ok_mo hS) rfl (sh_all hS) ?_
    refine e_iconst (k := 14) (xi180 14) ?_
    have t1 := ty_a1 hT
    refine e_iald (w := M 163 1) (k := 15) (xi180 15) (ok_all hS) (by rw [ln_all]; omega) rfl ?_
    refine e_c_ge (k := 16) (xi180 16) (fun c0 => ?_) (fun c0 => ?_)
    · skip
      rw [(show l_n_count_a a M (k + 1) n w = (n, w) from by rw [l_n_count_a, if_pos c0])] at kk
      try dsimp only at kk
      exact kk (by first | exact trivial | omega)
    · skip
      refine e_iload (k := 17) (xi180 17) rfl ?_
      refine e_aload (k := 18) (xi180 18) rfl (by decide) ?_
      refine e_iload (k := 19) (xi180 19) rfl ?_
      refine e_iconst (k := 20) (xi180 20) ?_
      have t2 := ty_aW2 hT (i := 1116 + 8 * w) (w := w) (by omega) (by omega)
      refine e_call (k := 21) (v := some (.inl (M 163 (1116 + 8 * w)))) (h1 := (z, P, M)) (c1 := 0) (c2 := 0) (rest := [.inl (n)]) (as := [.inr 162, .inl (w), .inl 2]) (xi180 21) (by decide) xm129 rfl ⟨rfl, Nat.le_of_ble_eq_true rfl, by decide⟩ (Or.inr (x_okt (ok_mo hS))) (k_mof hS hT w 2 (1116 + 8 * w) (by omega) (by omega) (by omega)) ?_
      refine e_iload (k := 22) (xi180 22) rfl ?_
      refine e_iconst (k := 23) (xi180 23) ?_
      refine e_isub (w := (-3) + a) (k := 24) (xi180 24) (x_wn (by omega)) ?_
      refine e_c_ne (k := 25) (xi180 25) (fun c1 => ?_) (fun c1 => ?_)
      · skip
        refine e_iconst (k := 28) (xi180 28) ?_
        refine e_iadd (w := n) (k := 29) (xi180 29) (x_wn (by omega)) ?_
        refine e_istore (k := 30) (xi180 30) (Nat.le_of_ble_eq_true rfl) ?_
        show x_Ev 180 31 [.inr 162, .inl (a), .inl (n), .inl (w)] [] (0, 0) (z, P, M) _
        refine e_iinc (w := 1 + w) (k := 31) (xi180 31) rfl (x_wn (by omega)) ?_
        show x_Ev 180 32 [.inr 162, .inl (a), .inl (n), .inl (1 + w)] [] (0, 0) (z, P, M) _
        refine e_goto (k := 32) (xi180 32) ?_
        rw [(show l_n_count_a a M (k + 1) n w = l_n_count_a a M k n (1 + w) from by rw [l_n_count_a, if_neg c0, if_pos c1])] at kk
        exact ih n (1 + w) (by omega) (by omega) kk
      · skip
        refine e_iconst (k := 26) (xi180 26) ?_
        refine e_goto (k := 27) (xi180 27) ?_
        refine e_iadd (w := 1 + n) (k := 29) (xi180 29) (x_wn (by omega)) ?_
        refine e_istore (k := 30) (xi180 30) (Nat.le_of_ble_eq_true rfl) ?_
        show x_Ev 180 31 [.inr 162, .inl (a), .inl (1 + n), .inl (w)] [] (0, 0) (z, P, M) _
        refine e_iinc (w := 1 + w) (k := 31) (xi180 31) rfl (x_wn (by omega)) ?_
        show x_Ev 180 32 [.inr 162, .inl (a), .inl (1 + n), .inl (1 + w)] [] (0, 0) (z, P, M) _
        refine e_goto (k := 32) (xi180 32) ?_
        rw [(show l_n_count_a a M (k + 1) n w = l_n_count_a a M k (1 + n) (1 + w) from by rw [l_n_count_a, if_neg c0, if_neg c1])] at kk
        exact ih (1 + n) (1 + w) (by omega) (by omega) kk
def l_n_count_b (a : Int) (M : Int → Int → Int) : Nat → Int → Int → Int × Int
  | 0, n, w => (n, w)
  | k + 1, n, w => if M 163 1 ≤ w then (n, w) else if ¬ M 163 (1120 + 8 * w) = 2 then l_n_count_b a M k n (1 + w) else l_n_count_b a M k (1 + n) (1 + w)
theorem kl_n_count_b {z : Int} {P M : Int → Int → Int} {r : Option xV × xH → Prop} (hS : x_Sh z P) (hT : y_TC M) (a : Int)    : ∀ k : Nat, ∀ n : Int, ∀ w : Int, (0 ≤ n ∧ n ≤ w ∧ w ≤ 60) → 60 - w < (k : Int) → (True → x_Ev 180 57 [.inr 162, .inl (a), .inl ((l_n_count_b a M k n w).1), .inl ((l_n_count_b a M k n w).2)] [] (0, 0) (z, P, M) r) → x_Ev 180 37 [.inr 162, .inl (a), .inl (n), .inl (w)] [] (0, 0) (z, P, M) r := by
  have ka1 := ty_a1 hT
  intro k
  induction k with
  | zero => intro n w hi hm; omega
  | succ k ih =>
    intro n w hi hm kk
    refine e_iload (k := 37) (xi180 37) rfl ?_
    refine e_aload (k := 38) (xi180 38) rfl (by decide) ?_
    refine e_getR (j := 0) (w := 163) (k := 39) (xi180 39) (ok_mo hS) rfl (sh_all hS) ?_
    refine e_iconst (k := 40) (xi180 40) ?_
    have t1 := ty_a1 hT
    refine e_iald (w := M 163 1) (k := 41) (xi180 41) (ok_all hS) (by rw [ln_all]; omega) rfl ?_
    refine e_c_ge (k := 42) (xi180 42) (fun c0 => ?_) (fun c0 => ?_)
    · skip
      rw [(show l_n_count_b a M (k + 1) n w = (n, w) from by rw [l_n_count_b, if_pos c0])] at kk
      try dsimp only at kk
      exact kk (by first | exact trivial | omega)
    · skip
      refine e_iload (k := 43) (xi180 43) rfl ?_
      refine e_aload (k := 44) (xi180 44) rfl (by decide) ?_
      refine e_iload (k := 45) (xi180 45) rfl ?_
      refine e_iconst (k := 46) (xi180 46) ?_
      have t2 := ty_aW6 hT (i := 1120 + 8 * w) (w := w) (by omega) (by omega)
      refine e_call (k := 47) (v := some (.inl (M 163 (1120 + 8 * w)))) (h1 := (z, P, M)) (c1 := 0) (c2 := 0) (rest := [.inl (n)]) (as := [.inr 162, .inl (w), .inl 6]) (xi180 47) (by decide) xm129 rfl ⟨rfl, Nat.le_of_ble_eq_true rfl, by decide⟩ (Or.inr (x_okt (ok_mo hS))) (k_mof hS hT w 6 (1120 + 8 * w) (by omega) (by omega) (by omega)) ?_
      refine e_iconst (k := 48) (xi180 48) ?_
      refine e_c_ne (k := 49) (xi180 49) (fun c1 => ?_) (fun c1 => ?_)
      · skip
        refine e_iconst (k := 52) (xi180 52) ?_
        refine e_iadd (w := n) (k := 53) (xi180 53) (x_wn (by omega)) ?_
        refine e_istore (k := 54) (xi180 54) (Nat.le_of_ble_eq_true rfl) ?_
        show x_Ev 180 55 [.inr 162, .inl (a), .inl (n), .inl (w)] [] (0, 0) (z, P, M) _
        refine e_iinc (w := 1 + w) (k := 55) (xi180 55) rfl (x_wn (by omega)) ?_
        show x_Ev 180 56 [.inr 162, .inl (a), .inl (n), .inl (1 + w)] [] (0, 0) (z, P, M) _
        refine e_goto (k := 56) (xi180 56) ?_
        rw [(show l_n_count_b a M (k + 1) n w = l_n_count_b a M k n (1 + w) from by rw [l_n_count_b, if_neg c0, if_pos c1])] at kk
        exact ih n (1 + w) (by omega) (by omega) kk
      · skip
        refine e_iconst (k := 50) (xi180 50) ?_
        refine e_goto (k := 51) (xi180 51) ?_
        refine e_iadd (w := 1 + n) (k := 53) (xi180 53) (x_wn (by omega)) ?_
        refine e_istore (k := 54) (xi180 54) (Nat.le_of_ble_eq_true rfl) ?_
        show x_Ev 180 55 [.inr 162, .inl (a), .inl (1 + n), .inl (w)] [] (0, 0) (z, P, M) _
        refine e_iinc (w := 1 + w) (k := 55) (xi180 55) rfl (x_wn (by omega)) ?_
        show x_Ev 180 56 [.inr 162, .inl (a), .inl (1 + n), .inl (1 + w)] [] (0, 0) (z, P, M) _
        refine e_goto (k := 56) (xi180 56) ?_
        rw [(show l_n_count_b a M (k + 1) n w = l_n_count_b a M k (1 + n) (1 + w) from by rw [l_n_count_b, if_neg c0, if_neg c1])] at kk
        exact ih (1 + n) (1 + w) (by omega) (by omega) kk
def v_n_count (a : Int) (M : Int → Int → Int) : Int := if a = 0 then M 163 a else if a = 1 then M 163 a else if a = 2 then M 163 a else if a = 3 then (l_n_count_a a M 61 0 0).1 else if a = 4 then (l_n_count_a a M 61 0 0).1 else if a = 5 then (l_n_count_a a M 61 0 0).1 else if a = 6 then (l_n_count_a a M 61 0 0).1 else if a = 7 then (l_n_count_b a M 61 0 0).1 else if a = 8 then M 163 3 else (-1)
theorem k_n_count {z : Int} {P M : Int → Int → Int} (hS : x_Sh z P) (hT : y_TC M) (a : Int)   : x_CallR 180 [.inr 162, .inl (a)] (z, P, M) (fun q => q = (some (.inl (v_n_count a M)), (z, P, M)) ∧ True) := by
  have ka1 := ty_a1 hT
  refine e_body (ls0 := [.inr 162, .inl (a), x_un, x_un]) xm180 rfl ?_
  refine e_iconst (k := 0) (xi180 0) ?_
  refine e_istore (k := 1) (xi180 1) (Nat.le_of_ble_eq_true rfl) ?_
  show x_Ev 180 2 [.inr 162, .inl (a), .inl 0, x_un] [] (0, 0) (z, P, M) _
  refine e_iload (k := 2) (xi180 2) rfl ?_
  by_cases c0 : a = 0
  · skip
    refine e_sw (t2 := 4) (k := 3) (xi180 3) (by rw [c0]; decide +kernel) ?_
    refine e_aload (k := 4) (xi180 4) rfl (by decide) ?_
    refine e_getR (j := 0) (w := 163) (k := 5) (xi180 5) (ok_mo hS) rfl (sh_all hS) ?_
    refine e_iload (k := 6) (xi180 6) rfl ?_
    refine e_iald (w := M 163 a) (k := 7) (xi180 7) (ok_all hS) (by rw [ln_all]; omega) rfl ?_
    refine e_iret (k := 8) (xi180 8) ?_
    exact y_fV (Q := fun _ => True) (show v_n_count a M = M 163 a from by rw [v_n_count, if_pos c0]) trivial
  by_cases c1 : a = 1
  · skip
    refine e_sw (t2 := 4) (k := 3) (xi180 3) (by rw [c1]; decide +kernel) ?_
    refine e_aload (k := 4) (xi180 4) rfl (by decide) ?_
    refine e_getR (j := 0) (w := 163) (k := 5) (xi180 5) (ok_mo hS) rfl (sh_all hS) ?_
    refine e_iload (k := 6) (xi180 6) rfl ?_
    refine e_iald (w := M 163 a) (k := 7) (xi180 7) (ok_all hS) (by rw [ln_all]; omega) rfl ?_
    refine e_iret (k := 8) (xi180 8) ?_
    exact y_fV (Q := fun _ => True) (show v_n_count a M = M 163 a from by rw [v_n_count, if_neg c0, if_pos c1]) trivial
  by_cases c2 : a = 2
  · skip
    refine e_sw (t2 := 4) (k := 3) (xi180 3) (by rw [c2]; decide +kernel) ?_
    refine e_aload (k := 4) (xi180 4) rfl (by decide) ?_
    refine e_getR (j := 0) (w := 163) (k := 5) (xi180 5) (ok_mo hS) rfl (sh_all hS) ?_
    refine e_iload (k := 6) (xi180 6) rfl ?_
    refine e_iald (w := M 163 a) (k := 7) (xi180 7) (ok_all hS) (by rw [ln_all]; omega) rfl ?_
    refine e_iret (k := 8) (xi180 8) ?_
    exact y_fV (Q := fun _ => True) (show v_n_count a M = M 163 a from by rw [v_n_count, if_neg c0, if_neg c1, if_pos c2]) trivial
  by_cases c3 : a = 3
  · skip
    refine e_sw (t2 := 9) (k := 3) (xi180 3) (by rw [c3]; decide +kernel) ?_
    refine e_iconst (k := 9) (xi180 9) ?_
    refine e_istore (k := 10) (xi180 10) (Nat.le_of_ble_eq_true rfl) ?_
    show x_Ev 180 11 [.inr 162, .inl (a), .inl 0, .inl 0] [] (0, 0) (z, P, M) _
    refine kl_n_count_a hS hT a    (by omega) 61 0 0 (by omega) (by omega) ?_
    intro q2
    show x_Ev 180 33 [.inr 162, .inl (a), .inl ((l_n_count_a a M 61 0 0).1), .inl ((l_n_count_a a M 61 0 0).2)] [] (0, 0) (z, P, M) _
    refine e_iload (k := 33) (xi180 33) rfl ?_
    refine e_iret (k := 34) (xi180 34) ?_
    exact y_fV (Q := fun _ => True) (show v_n_count a M = (l_n_count_a a M 61 0 0).1 from by rw [v_n_count, if_neg c0, if_neg c1, if_neg c2, if_pos c3]) trivial
  by_cases c4 : a = 4
  · skip
    refine e_sw (t2 := 9) (k := 3) (xi180 3) (by rw [c4]; decide +kernel) ?_
    refine e_iconst (k := 9) (xi180 9) ?_
    refine e_istore (k := 10) (xi180 10) (Nat.le_of_ble_eq_true rfl) ?_
    show x_Ev 180 11 [.inr 162, .inl (a), .inl 0, .inl 0] [] (0, 0) (z, P, M) _
    refine kl_n_count_a hS hT a    (by omega) 61 0 0 (by omega) (by omega) ?_
    intro q4
    show x_Ev 180 33 [.inr 162, .inl (a), .inl ((l_n_count_a a M 61 0 0).1), .inl ((l_n_count_a a M 61 0 0).2)] [] (0, 0) (z, P, M) _
    refine e_iload (k := 33) (xi180 33) rfl ?_
    refine e_iret (k := 34) (xi180 34) ?_
    exact y_fV (Q := fun _ => True) (show v_n_count a M = (l_n_count_a a M 61 0 0).1 from by rw [v_n_count, if_neg c0, if_neg c1, if_neg c2, if_neg c3, if_pos c4]) trivial
  by_cases c5 : a = 5
  · skip
    refine e_sw (t2 := 9) (k := 3) (xi180 3) (by rw [c5]; decide +kernel) ?_
    refine e_iconst (k := 9) (xi180 9) ?_
    refine e_istore (k := 10) (xi180 10) (Nat.le_of_ble_eq_true rfl) ?_
    show x_Ev 180 11 [.inr 162, .inl (a), .inl 0, .inl 0] [] (0, 0) (z, P, M) _
    refine kl_n_count_a hS hT a    (by omega) 61 0 0 (by omega) (by omega) ?_
    intro q6
    show x_Ev 180 33 [.inr 162, .inl (a), .inl ((l_n_count_a a M 61 0 0).1), .inl ((l_n_count_a a M 61 0 0).2)] [] (0, 0) (z, P, M) _
    refine e_iload (k := 33) (xi180 33) rfl ?_
    refine e_iret (k := 34) (xi180 34) ?_
    exact y_fV (Q := fun _ => True) (show v_n_count a M = (l_n_count_a a M 61 0 0).1 from by rw [v_n_count, if_neg c0, if_neg c1, if_neg c2, if_neg c3, if_neg c4, if_pos c5]) trivial
  by_cases c6 : a = 6
  · skip
    refine e_sw (t2 := 9) (k := 3) (xi180 3) (by rw [c6]; decide +kernel) ?_
    refine e_iconst (k := 9) (xi180 9) ?_
    refine e_istore (k := 10) (xi180 10) (Nat.le_of_ble_eq_true rfl) ?_
    show x_Ev 180 11 [.inr 162, .inl (a), .inl 0, .inl 0] [] (0, 0) (z, P, M) _
    refine kl_n_count_a hS hT a    (by omega) 61 0 0 (by omega) (by omega) ?_
    intro q8
    show x_Ev 180 33 [.inr 162, .inl (a), .inl ((l_n_count_a a M 61 0 0).1), .inl ((l_n_count_a a M 61 0 0).2)] [] (0, 0) (z, P, M) _
    refine e_iload (k := 33) (xi180 33) rfl ?_
    refine e_iret (k := 34) (xi180 34) ?_
    exact y_fV (Q := fun _ => True) (show v_n_count a M = (l_n_count_a a M 61 0 0).1 from by rw [v_n_count, if_neg c0, if_neg c1, if_neg c2, if_neg c3, if_neg c4, if_neg c5, if_pos c6]) trivial
  by_cases c7 : a = 7
  · skip
    refine e_sw (t2 := 35) (k := 3) (xi180 3) (by rw [c7]; decide +kernel) ?_
    refine e_iconst (k := 35) (xi180 35) ?_
    refine e_istore (k := 36) (xi180 36) (Nat.le_of_ble_eq_true rfl) ?_
    show x_Ev 180 37 [.inr 162, .inl (a), .inl 0, .inl 0] [] (0, 0) (z, P, M) _
    refine kl_n_count_b hS hT a     61 0 0 (by omega) (by omega) ?_
    intro q10
    show x_Ev 180 57 [.inr 162, .inl (a), .inl ((l_n_count_b a M 61 0 0).1), .inl ((l_n_count_b a M 61 0 0).2)] [] (0, 0) (z, P, M) _
    refine e_iload (k := 57) (xi180 57) rfl ?_
    refine e_iret (k := 58) (xi180 58) ?_
    exact y_fV (Q := fun _ => True) (show v_n_count a M = (l_n_count_b a M 61 0 0).1 from by rw [v_n_count, if_neg c0, if_neg c1, if_neg c2, if_neg c3, if_neg c4, if_neg c5, if_neg c6, if_pos c7]) trivial
  by_cases c8 : a = 8
  · skip
    refine e_sw (t2 := 59) (k := 3) (xi180 3) (by rw [c8]; decide +kernel) ?_
    refine e_aload (k := 59) (xi180 59) rfl (by decide) ?_
    refine e_getR (j := 0) (w := 163) (k := 60) (xi180 60) (ok_mo hS) rfl (sh_all hS) ?_
    refine e_iconst (k := 61) (xi180 61) ?_
    have t11 := ty_a3 hT
    refine e_iald (w := M 163 3) (k := 62) (xi180 62) (ok_all hS) (by rw [ln_all]; omega) rfl ?_
    refine e_iret (k := 63) (xi180 63) ?_
    exact y_fV (Q := fun _ => True) (show v_n_count a M = M 163 3 from by rw [v_n_count, if_neg c0, if_neg c1, if_neg c2, if_neg c3, if_neg c4, if_neg c5, if_neg c6, if_neg c7, if_pos c8]) trivial
  refine e_sw (k := 3) (t2 := 64) (xi180 3) (if_pos (by omega)) ?_
  refine e_iconst (k := 64) (xi180 64) ?_
  refine e_iret (k := 65) (xi180 65) ?_
  exact y_fV (Q := fun _ => True) (show v_n_count a M = (-1) from by rw [v_n_count, if_neg c0, if_neg c1, if_neg c2, if_neg c3, if_neg c4, if_neg c5, if_neg c6, if_neg c7, if_neg c8]) trivial
def l_n_image_a (a : Int) : Nat → (Int → Int → Int) → Int → (Int → Int → Int) × Int
  | 0, M, i => (M, i)
  | k + 1, M, i => if 1640 ≤ i then (M, i) else l_n_image_a a k ((x_up M 163 (1640 + 1640 * a + i) (M 163 i))) (1 + i)
theorem kl_n_image_a {z : Int} {P M0 : Int → Int → Int} {r : Option xV × xH → Prop} (hS : x_Sh z P) (a : Int)  (ha : 0 ≤ a ∧ a < 4)  : ∀ k : Nat, ∀ M : (Int → Int → Int), ∀ i : Int, y_TL 3 M0 M → (0 ≤ i ∧ i ≤ 1640) → 1640 - i < (k : Int) → (y_TL 3 M0 ((l_n_image_a a k M i).1) → True → x_Ev 178 32 [.inr 162, .inl (a), .inl ((l_n_image_a a k M i).2)] [] (0, 0) (z, P, (l_n_image_a a k M i).1) r) → x_Ev 178 13 [.inr 162, .inl (a), .inl (i)] [] (0, 0) (z, P, M) r := by
  intro k
  induction k with
  | zero => intro M i tl0 hi hm; omega
  | succ k ih =>
    intro M i tl0 hi hm kk
    refine e_iload (k := 13) (xi178 13) rfl ?_
    refine e_iconst (k := 14) (xi178 14) ?_
    refine e_c_ge (k := 15) (xi178 15) (fun c0 => ?_) (fun c0 => ?_)
    · skip
      rw [(show l_n_image_a a (k + 1) M i = (M, i) from by rw [l_n_image_a, if_pos c0])] at kk
      try dsimp only at kk
      exact kk tl0 (by first | exact trivial | omega)
    · skip
      refine e_aload (k := 16) (xi178 16) rfl (by decide) ?_
      refine e_getR (j := 0) (w := 163) (k := 17) (xi178 17) (ok_mo hS) rfl (sh_all hS) ?_
      refine e_iconst (k := 18) (xi178 18) ?_
      refine e_iload (k := 19) (xi178 19) rfl ?_
      refine e_iconst (k := 20) (xi178 20) ?_
      refine e_iadd (w := 1 + a) (k := 21) (xi178 21) (x_wn (by omega)) ?_
      refine e_imul (w := 1640 + 1640 * a) (k := 22) (xi178 22) (x_wn (by omega)) ?_
      refine e_iload (k := 23) (xi178 23) rfl ?_
      refine e_iadd (w := 1640 + 1640 * a + i) (k := 24) (xi178 24) (x_wn (by omega)) ?_
      refine e_aload (k := 25) (xi178 25) rfl (by decide) ?_
      refine e_getR (j := 0) (w := 163) (k := 26) (xi178 26) (ok_mo hS) rfl (sh_all hS) ?_
      refine e_iload (k := 27) (xi178 27) rfl ?_
      refine e_iald (w := M 163 i) (k := 28) (xi178 28) (ok_all hS) (by rw [ln_all]; omega) rfl ?_
      refine e_iast (k := 29) (xi178 29) (ok_all hS) (by rw [ln_all]; omega) ?_
      have tl1 : y_TL 3 M0 (x_up M 163 (1640 + 1640 * a + i) (M 163 i)) := tl_up tl0 (y_cpI (i := i) (a := a) tl0.1 (by omega) (by omega) (by omega)) (nf3 (by omega))
      refine e_iinc (w := 1 + i) (k := 30) (xi178 30) rfl (x_wn (by omega)) ?_
      show x_Ev 178 31 [.inr 162, .inl (a), .inl (1 + i)] [] (0, 0) (z, P, (x_up M 163 (1640 + 1640 * a + i) (M 163 i))) _
      refine e_goto (k := 31) (xi178 31) ?_
      rw [(show l_n_image_a a (k + 1) M i = l_n_image_a a k ((x_up M 163 (1640 + 1640 * a + i) (M 163 i))) (1 + i) from by rw [l_n_image_a, if_neg c0])] at kk
      exact ih ((x_up M 163 (1640 + 1640 * a + i) (M 163 i))) (1 + i) tl1 (by omega) (by omega) kk
def v_n_image (a : Int) (M : Int → Int → Int) : Int := if 0 ≤ a ∧ a < 4 then 1 else 0
def u_n_image (a : Int) (M : Int → Int → Int) : Int → Int → Int := if 0 ≤ a ∧ a < 4 then (l_n_image_a a 1641 ((x_up M 164 a 1)) 0).1 else M
theorem k_n_image {z : Int} {P M : Int → Int → Int} (hS : x_Sh z P) (hT : y_TC M) (a : Int)   : x_CallR 178 [.inr 162, .inl (a)] (z, P, M) (fun q => q = (some (.inl (v_n_image a M)), (z, P, u_n_image a M)) ∧ y_TL 3 M (u_n_image a M) ∧ True) := by
  have tl0 : y_TL 3 M M := tl_refl hT
  refine e_body (ls0 := [.inr 162, .inl (a), x_un]) xm178 rfl ?_
  refine e_iload (k := 0) (xi178 0) rfl ?_
  refine e_iconst (k := 1) (xi178 1) ?_
  refine e_call (k := 2) (v := some (.inl (x_b (0 ≤ a ∧ a < 4)))) (h1 := (z, P, M)) (c1 := 0) (c2 := 0) (rest := []) (as := [.inl (a), .inl 4]) (xi178 2) (by decide) xm113 rfl ⟨rfl, Nat.le_of_ble_eq_true rfl, by decide⟩ (Or.inl rfl) (k_isIn hS tl0.1 a 4  ) ?_
  refine e_b_ne (k := 3) (xi178 3) (fun c0 => ?_) (fun c0 => ?_)
  · skip
    refine e_aload (k := 6) (xi178 6) rfl (by decide) ?_
    refine e_getR (j := 1) (w := 164) (k := 7) (xi178 7) (ok_mo hS) rfl (sh_has hS) ?_
    refine e_iload (k := 8) (xi178 8) rfl ?_
    refine e_iconst (k := 9) (xi178 9) ?_
    refine e_bast (k := 10) (xi178 10) (ok_has hS) (by rw [ln_has]; omega) (by decide) ?_
    have tl1 : y_TL 3 M (x_up M 164 a 1) := tl_up tl0 (sl_has (j := a)  (by omega)) (nf3 (by omega))
    refine e_iconst (k := 11) (xi178 11) ?_
    refine e_istore (k := 12) (xi178 12) (Nat.le_of_ble_eq_true rfl) ?_
    show x_Ev 178 13 [.inr 162, .inl (a), .inl 0] [] (0, 0) (z, P, (x_up M 164 a 1)) _
    refine kl_n_image_a hS a    (by omega) 1641 ((x_up M 164 a 1)) 0 tl1 (by omega) (by omega) ?_
    intro tl2 q3
    show x_Ev 178 32 [.inr 162, .inl (a), .inl ((l_n_image_a a 1641 ((x_up M 164 a 1)) 0).2)] [] (0, 0) (z, P, (l_n_image_a a 1641 ((x_up M 164 a 1)) 0).1) _
    refine e_iconst (k := 32) (xi178 32) ?_
    refine e_zret (k := 33) (xi178 33) (by first | decide | omega) ?_
    exact y_fW (Q := fun _ => True) (show v_n_image a M = 1 from by rw [v_n_image, if_pos c0]) (show u_n_image a M = (l_n_image_a a 1641 ((x_up M 164 a 1)) 0).1 from by rw [u_n_image, if_pos c0]) tl2 trivial
  · skip
    refine e_iconst (k := 4) (xi178 4) ?_
    refine e_zret (k := 5) (xi178 5) (by first | decide | omega) ?_
    exact y_fW (Q := fun _ => True) (show v_n_image a M = 0 from by rw [v_n_image, if_neg c0]) (show u_n_image a M = M from by rw [u_n_image, if_neg c0]) tl0 trivial
def l_n_again_a (a : Int) : Nat → (Int → Int → Int) → Int → (Int → Int → Int) × Int
  | 0, M, i => (M, i)
  | k + 1, M, i => if 1640 ≤ i then (M, i) else l_n_again_a a k ((x_up M 163 i (M 163 (1640 + 1640 * a + i)))) (1 + i)
theorem kl_n_again_a {z : Int} {P M0 : Int → Int → Int} {r : Option xV × xH → Prop} (hS : x_Sh z P) (a : Int)  (ha : 0 ≤ a ∧ a < 4)  : ∀ k : Nat, ∀ M : (Int → Int → Int), ∀ i : Int, y_TL 3 M0 M → (0 ≤ i ∧ i ≤ 1640) → 1640 - i < (k : Int) → (y_TL 3 M0 ((l_n_again_a a k M i).1) → True → x_Ev 179 32 [.inr 162, .inl (a), .inl ((l_n_again_a a k M i).2)] [] (0, 0) (z, P, (l_n_again_a a k M i).1) r) → x_Ev 179 13 [.inr 162, .inl (a), .inl (i)] [] (0, 0) (z, P, M) r := by
  intro k
  induction k with
  | zero => intro M i tl0 hi hm; omega
  | succ k ih =>
    intro M i tl0 hi hm kk
    refine e_iload (k := 13) (xi179 13) rfl ?_
    refine e_iconst (k := 14) (xi179 14) ?_
    refine e_c_ge (k := 15) (xi179 15) (fun c0 => ?_) (fun c0 => ?_)
    · skip
      rw [(show l_n_again_a a (k + 1) M i = (M, i) from by rw [l_n_again_a, if_pos c0])] at kk
      try dsimp only at kk
      exact kk tl0 (by first | exact trivial | omega)
    · skip
      refine e_aload (k := 16) (xi179 16) rfl (by decide) ?_
      refine e_getR (j := 0) (w := 163) (k := 17) (xi179 17) (ok_mo hS) rfl (sh_all hS) ?_
      refine e_iload (k := 18) (xi179 18) rfl ?_
      refine e_aload (k := 19) (xi179 19) rfl (by decide) ?_
      refine e_getR (j := 0) (w := 163) (k := 20) (xi179 20) (ok_mo hS) rfl (sh_all hS) ?_
      refine e_iconst (k := 21) (xi179 21) ?_
      refine e_iload (k := 22) (xi179 22) rfl ?_
      refine e_iconst (k := 23) (xi179 23) ?_
      refine e_iadd (w := 1 + a) (k := 24) (xi179 24) (x_wn (by omega)) ?_
      refine e_imul (w := 1640 + 1640 * a) (k := 25) (xi179 25) (x_wn (by omega)) ?_
      refine e_iload (k := 26) (xi179 26) rfl ?_
      refine e_iadd (w := 1640 + 1640 * a + i) (k := 27) (xi179 27) (x_wn (by omega)) ?_
      refine e_iald (w := M 163 (1640 + 1640 * a + i)) (k := 28) (xi179 28) (ok_all hS) (by rw [ln_all]; omega) rfl ?_
      refine e_iast (k := 29) (xi179 29) (ok_all hS) (by rw [ln_all]; omega) ?_
      have tl1 : y_TL 3 M0 (x_up M 163 i (M 163 (1640 + 1640 * a + i))) := tl_up tl0 (y_cpA (i := i) (a := a) tl0.1 (by omega) (by omega) (by omega)) (nf3 (by omega))
      refine e_iinc (w := 1 + i) (k := 30) (xi179 30) rfl (x_wn (by omega)) ?_
      show x_Ev 179 31 [.inr 162, .inl (a), .inl (1 + i)] [] (0, 0) (z, P, (x_up M 163 i (M 163 (1640 + 1640 * a + i)))) _
      refine e_goto (k := 31) (xi179 31) ?_
      rw [(show l_n_again_a a (k + 1) M i = l_n_again_a a k ((x_up M 163 i (M 163 (1640 + 1640 * a + i)))) (1 + i) from by rw [l_n_again_a, if_neg c0])] at kk
      exact ih ((x_up M 163 i (M 163 (1640 + 1640 * a + i)))) (1 + i) tl1 (by omega) (by omega) kk
def v_n_again (a : Int) (M : Int → Int → Int) : Int := if 0 ≤ a ∧ a < 4 then (if ¬ M 164 a = 0 then 1 else 0) else 0
def u_n_again (a : Int) (M : Int → Int → Int) : Int → Int → Int := if 0 ≤ a ∧ a < 4 then (if ¬ M 164 a = 0 then (l_n_again_a a 1641 M 0).1 else M) else M
theorem k_n_again {z : Int} {P M : Int → Int → Int} (hS : x_Sh z P) (hT : y_TC M) (a : Int)   : x_CallR 179 [.inr 162, .inl (a)] (z, P, M) (fun q => q = (some (.inl (v_n_again a M)), (z, P, u_n_again a M)) ∧ y_TL 3 M (u_n_again a M) ∧ True) := by
  have tl0 : y_TL 3 M M := tl_refl hT
  refine e_body (ls0 := [.inr 162, .inl (a), x_un]) xm179 rfl ?_
  refine e_iload (k := 0) (xi179 0) rfl ?_
  refine e_iconst (k := 1) (xi179 1) ?_
  refine e_call (k := 2) (v := some (.inl (x_b (0 ≤ a ∧ a < 4)))) (h1 := (z, P, M)) (c1 := 0) (c2 := 0) (rest := []) (as := [.inl (a), .inl 4]) (xi179 2) (by decide) xm113 rfl ⟨rfl, Nat.le_of_ble_eq_true rfl, by decide⟩ (Or.inl rfl) (k_isIn hS tl0.1 a 4  ) ?_
  refine e_b_eq (k := 3) (xi179 3) (fun c0 => ?_) (fun c0 => ?_)
  · skip
    refine e_aload (k := 4) (xi179 4) rfl (by decide) ?_
    refine e_getR (j := 1) (w := 164) (k := 5) (xi179 5) (ok_mo hS) rfl (sh_has hS) ?_
    refine e_iload (k := 6) (xi179 6) rfl ?_
    refine e_bald (w := M 164 a) (k := 7) (xi179 7) (ok_has hS) (by rw [ln_has]; omega) rfl ?_
    refine e_z_ne (k := 8) (xi179 8) (fun c1 => ?_) (fun c1 => ?_)
    · skip
      refine e_iconst (k := 11) (xi179 11) ?_
      refine e_istore (k := 12) (xi179 12) (Nat.le_of_ble_eq_true rfl) ?_
      show x_Ev 179 13 [.inr 162, .inl (a), .inl 0] [] (0, 0) (z, P, M) _
      refine kl_n_again_a hS a    (by omega) 1641 M 0 tl0 (by omega) (by omega) ?_
      intro tl1 q2
      show x_Ev 179 32 [.inr 162, .inl (a), .inl ((l_n_again_a a 1641 M 0).2)] [] (0, 0) (z, P, (l_n_again_a a 1641 M 0).1) _
      refine e_iconst (k := 32) (xi179 32) ?_
      refine e_zret (k := 33) (xi179 33) (by first | decide | omega) ?_
      exact y_fW (Q := fun _ => True) (show v_n_again a M = 1 from by rw [v_n_again, if_pos c0, if_pos c1]) (show u_n_again a M = (l_n_again_a a 1641 M 0).1 from by rw [u_n_again, if_pos c0, if_pos c1]) tl1 trivial
    · skip
      refine e_iconst (k := 9) (xi179 9) ?_
      refine e_zret (k := 10) (xi179 10) (by first | decide | omega) ?_
      exact y_fW (Q := fun _ => True) (show v_n_again a M = 0 from by rw [v_n_again, if_pos c0, if_neg c1]) (show u_n_again a M = M from by rw [u_n_again, if_pos c0, if_neg c1]) tl0 trivial
  · skip
    refine e_iconst (k := 9) (xi179 9) ?_
    refine e_zret (k := 10) (xi179 10) (by first | decide | omega) ?_
    exact y_fW (Q := fun _ => True) (show v_n_again a M = 0 from by rw [v_n_again, if_neg c0]) (show u_n_again a M = M from by rw [u_n_again, if_neg c0]) tl0 trivial
