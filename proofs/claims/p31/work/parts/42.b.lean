/-! THE CLASS'S TOWNS -/
theorem k_standAtT {z : Int} {P M : Int → Int → Int} (hS : x_Sh z P) (hT : y_TC M) (n : Int) (hc : 0 ≤ n ∧ n < M 1 1) : x_Call 40 [.inr 1, .inl (n)] (z, P, M) (some (.inr (3 + 7 * n))) (z, P, M) := by
  refine e_body (ls0 := [.inr 1, .inl (n)]) xm40 rfl ?_
  refine e_iload (k := 0) (xi40 0) rfl ?_
  refine e_z_lt (k := 1) (xi40 1) (fun c0 => ?_) (fun c0 => ?_)
  · skip
    refine e_null (k := 14) (xi40 14) ?_
    refine e_aret (k := 15) (xi40 15) (by decide) ?_
    exact (by omega : False).elim
  · skip
    refine e_iload (k := 2) (xi40 2) rfl ?_
    refine e_aload (k := 3) (xi40 3) rfl (by decide) ?_
    have t1 := ty_town1 hT 
    refine e_getI (j := 1) (w := M 1 1) (k := 4) (xi40 4) (ok_town hS) rfl rfl ?_
    refine e_c_ge (k := 5) (xi40 5) (fun c1 => ?_) (fun c1 => ?_)
    · skip
      refine e_null (k := 14) (xi40 14) ?_
      refine e_aret (k := 15) (xi40 15) (by decide) ?_
      exact (by omega : False).elim
    · skip
      refine e_iload (k := 6) (xi40 6) rfl ?_
      refine e_iconst (k := 7) (xi40 7) ?_
      refine e_c_ge (k := 8) (xi40 8) (fun c2 => ?_) (fun c2 => ?_)
      · skip
        refine e_null (k := 14) (xi40 14) ?_
        refine e_aret (k := 15) (xi40 15) (by decide) ?_
        exact (by omega : False).elim
      · skip
        refine e_aload (k := 9) (xi40 9) rfl (by decide) ?_
        refine e_getR (j := 0) (w := 2) (k := 10) (xi40 10) (ok_town hS) rfl (sh_stands hS) ?_
        refine e_iload (k := 11) (xi40 11) rfl ?_
        refine e_aald (w := 3 + 7 * n) (k := 12) (xi40 12) (x_ok4 (ok_stands hS) (by decide)) (by rw [ln_stands]; omega) (sh_st hS (show 0 ≤ n ∧ n < 12 by omega)) ?_
        refine e_goto (k := 13) (xi40 13) ?_
        refine e_aret (k := 15) (xi40 15) (by omega) ?_
        rfl
theorem k_standAtF {z : Int} {P M : Int → Int → Int} (hS : x_Sh z P) (hT : y_TC M) (n : Int) (hc : ¬ (0 ≤ n ∧ n < M 1 1)) : x_Call 40 [.inr 1, .inl (n)] (z, P, M) (some (.inr (-1))) (z, P, M) := by
  refine e_body (ls0 := [.inr 1, .inl (n)]) xm40 rfl ?_
  refine e_iload (k := 0) (xi40 0) rfl ?_
  refine e_z_lt (k := 1) (xi40 1) (fun c0 => ?_) (fun c0 => ?_)
  · skip
    refine e_null (k := 14) (xi40 14) ?_
    refine e_aret (k := 15) (xi40 15) (by decide) ?_
    rfl
  · skip
    refine e_iload (k := 2) (xi40 2) rfl ?_
    refine e_aload (k := 3) (xi40 3) rfl (by decide) ?_
    have t1 := ty_town1 hT 
    refine e_getI (j := 1) (w := M 1 1) (k := 4) (xi40 4) (ok_town hS) rfl rfl ?_
    refine e_c_ge (k := 5) (xi40 5) (fun c1 => ?_) (fun c1 => ?_)
    · skip
      refine e_null (k := 14) (xi40 14) ?_
      refine e_aret (k := 15) (xi40 15) (by decide) ?_
      rfl
    · skip
      refine e_iload (k := 6) (xi40 6) rfl ?_
      refine e_iconst (k := 7) (xi40 7) ?_
      refine e_c_ge (k := 8) (xi40 8) (fun c2 => ?_) (fun c2 => ?_)
      · skip
        refine e_null (k := 14) (xi40 14) ?_
        refine e_aret (k := 15) (xi40 15) (by decide) ?_
        rfl
      · skip
        refine e_aload (k := 9) (xi40 9) rfl (by decide) ?_
        refine e_getR (j := 0) (w := 2) (k := 10) (xi40 10) (ok_town hS) rfl (sh_stands hS) ?_
        refine e_iload (k := 11) (xi40 11) rfl ?_
        refine e_aald (w := 3 + 7 * n) (k := 12) (xi40 12) (x_ok4 (ok_stands hS) (by decide)) (by rw [ln_stands]; omega) (sh_st hS (show 0 ≤ n ∧ n < 12 by omega)) ?_
        refine e_goto (k := 13) (xi40 13) ?_
        refine e_aret (k := 15) (xi40 15) (by omega) ?_
        exact (by omega : False).elim
theorem k_wheelAtT {z : Int} {P M : Int → Int → Int} (hS : x_Sh z P) (hT : y_TC M) (n : Int) (hc : 0 ≤ n ∧ n < M 1 3) : x_Call 41 [.inr 1, .inl (n)] (z, P, M) (some (.inr (88 + n))) (z, P, M) := by
  refine e_body (ls0 := [.inr 1, .inl (n)]) xm41 rfl ?_
  refine e_iload (k := 0) (xi41 0) rfl ?_
  refine e_z_lt (k := 1) (xi41 1) (fun c0 => ?_) (fun c0 => ?_)
  · skip
    refine e_null (k := 14) (xi41 14) ?_
    refine e_aret (k := 15) (xi41 15) (by decide) ?_
    exact (by omega : False).elim
  · skip
    refine e_iload (k := 2) (xi41 2) rfl ?_
    refine e_aload (k := 3) (xi41 3) rfl (by decide) ?_
    have t1 := ty_town3 hT 
    refine e_getI (j := 3) (w := M 1 3) (k := 4) (xi41 4) (ok_town hS) rfl rfl ?_
    refine e_c_ge (k := 5) (xi41 5) (fun c1 => ?_) (fun c1 => ?_)
    · skip
      refine e_null (k := 14) (xi41 14) ?_
      refine e_aret (k := 15) (xi41 15) (by decide) ?_
      exact (by omega : False).elim
    · skip
      refine e_iload (k := 6) (xi41 6) rfl ?_
      refine e_iconst (k := 7) (xi41 7) ?_
      refine e_c_ge (k := 8) (xi41 8) (fun c2 => ?_) (fun c2 => ?_)
      · skip
        refine e_null (k := 14) (xi41 14) ?_
        refine e_aret (k := 15) (xi41 15) (by decide) ?_
        exact (by omega : False).elim
      · skip
        refine e_aload (k := 9) (xi41 9) rfl (by decide) ?_
        refine e_getR (j := 2) (w := 87) (k := 10) (xi41 10) (ok_town hS) rfl (sh_whs hS) ?_
        refine e_iload (k := 11) (xi41 11) rfl ?_
        refine e_aald (w := 88 + n) (k := 12) (xi41 12) (x_ok4 (ok_whs hS) (by decide)) (by rw [ln_whs]; omega) (sh_wh hS (show 0 ≤ n ∧ n < 60 by omega)) ?_
        refine e_goto (k := 13) (xi41 13) ?_
        refine e_aret (k := 15) (xi41 15) (by omega) ?_
        rfl
theorem k_wheelAtF {z : Int} {P M : Int → Int → Int} (hS : x_Sh z P) (hT : y_TC M) (n : Int) (hc : ¬ (0 ≤ n ∧ n < M 1 3)) : x_Call 41 [.inr 1, .inl (n)] (z, P, M) (some (.inr (-1))) (z, P, M) := by
  refine e_body (ls0 := [.inr 1, .inl (n)]) xm41 rfl ?_
  refine e_iload (k := 0) (xi41 0) rfl ?_
  refine e_z_lt (k := 1) (xi41 1) (fun c0 => ?_) (fun c0 => ?_)
  · skip
    refine e_null (k := 14) (xi41 14) ?_
    refine e_aret (k := 15) (xi41 15) (by decide) ?_
    rfl
  · skip
    refine e_iload (k := 2) (xi41 2) rfl ?_
    refine e_aload (k := 3) (xi41 3) rfl (by decide) ?_
    have t1 := ty_town3 hT 
    refine e_getI (j := 3) (w := M 1 3) (k := 4) (xi41 4) (ok_town hS) rfl rfl ?_
    refine e_c_ge (k := 5) (xi41 5) (fun c1 => ?_) (fun c1 => ?_)
    · skip
      refine e_null (k := 14) (xi41 14) ?_
      refine e_aret (k := 15) (xi41 15) (by decide) ?_
      rfl
    · skip
      refine e_iload (k := 6) (xi41 6) rfl ?_
      refine e_iconst (k := 7) (xi41 7) ?_
      refine e_c_ge (k := 8) (xi41 8) (fun c2 => ?_) (fun c2 => ?_)
      · skip
        refine e_null (k := 14) (xi41 14) ?_
        refine e_aret (k := 15) (xi41 15) (by decide) ?_
        rfl
      · skip
        refine e_aload (k := 9) (xi41 9) rfl (by decide) ?_
        refine e_getR (j := 2) (w := 87) (k := 10) (xi41 10) (ok_town hS) rfl (sh_whs hS) ?_
        refine e_iload (k := 11) (xi41 11) rfl ?_
        refine e_aald (w := 88 + n) (k := 12) (xi41 12) (x_ok4 (ok_whs hS) (by decide)) (by rw [ln_whs]; omega) (sh_wh hS (show 0 ≤ n ∧ n < 60 by omega)) ?_
        refine e_goto (k := 13) (xi41 13) ?_
        refine e_aret (k := 15) (xi41 15) (by omega) ?_
        exact (by omega : False).elim
theorem k_cartAtT {z : Int} {P M : Int → Int → Int} (hS : x_Sh z P) (hT : y_TC M) (n : Int) (hc : 0 ≤ n ∧ n < M 1 5) : x_Call 42 [.inr 1, .inl (n)] (z, P, M) (some (.inr (149 + 2 * n))) (z, P, M) := by
  refine e_body (ls0 := [.inr 1, .inl (n)]) xm42 rfl ?_
  refine e_iload (k := 0) (xi42 0) rfl ?_
  refine e_z_lt (k := 1) (xi42 1) (fun c0 => ?_) (fun c0 => ?_)
  · skip
    refine e_null (k := 14) (xi42 14) ?_
    refine e_aret (k := 15) (xi42 15) (by decide) ?_
    exact (by omega : False).elim
  · skip
    refine e_iload (k := 2) (xi42 2) rfl ?_
    refine e_aload (k := 3) (xi42 3) rfl (by decide) ?_
    have t1 := ty_town5 hT 
    refine e_getI (j := 5) (w := M 1 5) (k := 4) (xi42 4) (ok_town hS) rfl rfl ?_
    refine e_c_ge (k := 5) (xi42 5) (fun c1 => ?_) (fun c1 => ?_)
    · skip
      refine e_null (k := 14) (xi42 14) ?_
      refine e_aret (k := 15) (xi42 15) (by decide) ?_
      exact (by omega : False).elim
    · skip
      refine e_iload (k := 6) (xi42 6) rfl ?_
      refine e_iconst (k := 7) (xi42 7) ?_
      refine e_c_ge (k := 8) (xi42 8) (fun c2 => ?_) (fun c2 => ?_)
      · skip
        refine e_null (k := 14) (xi42 14) ?_
        refine e_aret (k := 15) (xi42 15) (by decide) ?_
        exact (by omega : False).elim
      · skip
        refine e_aload (k := 9) (xi42 9) rfl (by decide) ?_
        refine e_getR (j := 4) (w := 148) (k := 10) (xi42 10) (ok_town hS) rfl (sh_cas hS) ?_
        refine e_iload (k := 11) (xi42 11) rfl ?_
        refine e_aald (w := 149 + 2 * n) (k := 12) (xi42 12) (x_ok4 (ok_cas hS) (by decide)) (by rw [ln_cas]; omega) (sh_ca hS (show 0 ≤ n ∧ n < 3 by omega)) ?_
        refine e_goto (k := 13) (xi42 13) ?_
        refine e_aret (k := 15) (xi42 15) (by omega) ?_
        rfl
theorem k_cartAtF {z : Int} {P M : Int → Int → Int} (hS : x_Sh z P) (hT : y_TC M) (n : Int) (hc : ¬ (0 ≤ n ∧ n < M 1 5)) : x_Call 42 [.inr 1, .inl (n)] (z, P, M) (some (.inr (-1))) (z, P, M) := by
  refine e_body (ls0 := [.inr 1, .inl (n)]) xm42 rfl ?_
  refine e_iload (k := 0) (xi42 0) rfl ?_
  refine e_z_lt (k := 1) (xi42 1) (fun c0 => ?_) (fun c0 => ?_)
  · skip
    refine e_null (k := 14) (xi42 14) ?_
    refine e_aret (k := 15) (xi42 15) (by decide) ?_
    rfl
  · skip
    refine e_iload (k := 2) (xi42 2) rfl ?_
    refine e_aload (k := 3) (xi42 3) rfl (by decide) ?_
    have t1 := ty_town5 hT 
    refine e_getI (j := 5) (w := M 1 5) (k := 4) (xi42 4) (ok_town hS) rfl rfl ?_
    refine e_c_ge (k := 5) (xi42 5) (fun c1 => ?_) (fun c1 => ?_)
    · skip
      refine e_null (k := 14) (xi42 14) ?_
      refine e_aret (k := 15) (xi42 15) (by decide) ?_
      rfl
    · skip
      refine e_iload (k := 6) (xi42 6) rfl ?_
      refine e_iconst (k := 7) (xi42 7) ?_
      refine e_c_ge (k := 8) (xi42 8) (fun c2 => ?_) (fun c2 => ?_)
      · skip
        refine e_null (k := 14) (xi42 14) ?_
        refine e_aret (k := 15) (xi42 15) (by decide) ?_
        rfl
      · skip
        refine e_aload (k := 9) (xi42 9) rfl (by decide) ?_
        refine e_getR (j := 4) (w := 148) (k := 10) (xi42 10) (ok_town hS) rfl (sh_cas hS) ?_
        refine e_iload (k := 11) (xi42 11) rfl ?_
        refine e_aald (w := 149 + 2 * n) (k := 12) (xi42 12) (x_ok4 (ok_cas hS) (by decide)) (by rw [ln_cas]; omega) (sh_ca hS (show 0 ≤ n ∧ n < 3 by omega)) ?_
        refine e_goto (k := 13) (xi42 13) ?_
        refine e_aret (k := 15) (xi42 15) (by omega) ?_
        exact (by omega : False).elim
theorem k_wheelInT {z : Int} {P M : Int → Int → Int} (hS : x_Sh z P) (hT : y_TC M) (a : Int) (d : Int) (hc : ((0 ≤ a ∧ a < M 1 1) ∧ 0 ≤ d ∧ d < M (3 + 7 * a) 1) ∧ 0 ≤ M (4 + 7 * a) d ∧ M (4 + 7 * a) d < M 1 3) : x_Call 43 [.inr 1, .inl (a), .inl (d)] (z, P, M) (some (.inr (88 + (M (4 + 7 * a) d)))) (z, P, M) := by
  refine e_body (ls0 := [.inr 1, .inl (a), .inl (d), x_un]) xm43 rfl ?_
  refine e_aload (k := 0) (xi43 0) rfl (by decide) ?_
  refine e_iload (k := 1) (xi43 1) rfl ?_
  have t1 := ty_town1 hT 
  by_cases c0 : 0 ≤ a ∧ a < M 1 1
  · skip
    refine e_call (k := 2) (v := some (.inr (3 + 7 * a))) (h1 := (z, P, M)) (c1 := 0) (c2 := 0) (rest := []) (as := [.inr 1, .inl (a)]) (xi43 2) (by decide) xm40 rfl ⟨rfl, Nat.le_of_ble_eq_true rfl, by decide⟩ (Or.inr (x_okt (ok_town hS))) (k_standAtT hS hT a c0) ?_
    refine e_astore (k := 3) (xi43 3) (Nat.le_of_ble_eq_true rfl) (by omega) ?_
    show x_Ev 43 4 [.inr 1, .inl (a), .inl (d), .inr (3 + 7 * a)] [] (0, 0) (z, P, M) _
    refine e_aload (k := 4) (xi43 4) rfl (by omega) ?_
    refine e_ifnull (k := 5) (xi43 5) (by omega) (fun q => absurd q (by omega)) (fun _ => ?_)
    refine e_aload (k := 6) (xi43 6) rfl (by omega) ?_
    refine e_iload (k := 7) (xi43 7) rfl ?_
    have t2 := ty_st1 hT (show 0 ≤ a ∧ a < 12 by omega)
    refine e_call (k := 8) (v := some (.inl (x_b (0 ≤ d ∧ d < M (3 + 7 * a) 1)))) (h1 := (z, P, M)) (c1 := 0) (c2 := 0) (rest := []) (as := [.inr (3 + 7 * a), .inl (d)]) (xi43 8) (by decide) xm17 rfl ⟨rfl, Nat.le_of_ble_eq_true rfl, by decide⟩ (Or.inr (x_okt (ok_st hS (show 0 ≤ a ∧ a < 12 by omega)))) (k_hasDock hS hT a d (show 0 ≤ a ∧ a < 12 by omega) ) ?_
    refine e_b_ne (k := 9) (xi43 9) (fun c1 => ?_) (fun c1 => ?_)
    · skip
      refine e_aload (k := 12) (xi43 12) rfl (by decide) ?_
      refine e_aload (k := 13) (xi43 13) rfl (by omega) ?_
      refine e_getR (j := 2) (w := 4 + 7 * a) (k := 14) (xi43 14) (ok_st hS (show 0 ≤ a ∧ a < 12 by omega)) rfl (sh_con hS (show 0 ≤ a ∧ a < 12 by omega)) ?_
      refine e_iload (k := 15) (xi43 15) rfl ?_
      have t3 := ty_con (j := d) hT (show 0 ≤ a ∧ a < 12 by omega) (by omega)
      refine e_iald (w := M (4 + 7 * a) d) (k := 16) (xi43 16) (ok_con hS (show 0 ≤ a ∧ a < 12 by omega)) (by rw [(ln_con (show 0 ≤ a ∧ a < 12 by omega))]; omega) rfl ?_
      have t4 := ty_town3 hT 
      by_cases c2 : 0 ≤ (M (4 + 7 * a) d) ∧ (M (4 + 7 * a) d) < M 1 3
      · skip
        refine e_call (k := 17) (v := some (.inr (88 + ((M (4 + 7 * a) d))))) (h1 := (z, P, M)) (c1 := 0) (c2 := 0) (rest := []) (as := [.inr 1, .inl (M (4 + 7 * a) d)]) (xi43 17) (by decide) xm41 rfl ⟨rfl, Nat.le_of_ble_eq_true rfl, by decide⟩ (Or.inr (x_okt (ok_town hS))) (k_wheelAtT hS hT (M (4 + 7 * a) d) c2) ?_
        refine e_aret (k := 18) (xi43 18) (by omega) ?_
        exact x_vR (by omega)
      · skip
        refine e_call (k := 17) (v := some (.inr (-1))) (h1 := (z, P, M)) (c1 := 0) (c2 := 0) (rest := []) (as := [.inr 1, .inl (M (4 + 7 * a) d)]) (xi43 17) (by decide) xm41 rfl ⟨rfl, Nat.le_of_ble_eq_true rfl, by decide⟩ (Or.inr (x_okt (ok_town hS))) (k_wheelAtF hS hT (M (4 + 7 * a) d) c2) ?_
        refine e_aret (k := 18) (xi43 18) (by decide) ?_
        exact (by omega : False).elim
    · skip
      refine e_null (k := 10) (xi43 10) ?_
      refine e_goto (k := 11) (xi43 11) ?_
      refine e_aret (k := 18) (xi43 18) (by decide) ?_
      exact (by omega : False).elim
  · skip
    refine e_call (k := 2) (v := some (.inr (-1))) (h1 := (z, P, M)) (c1 := 0) (c2 := 0) (rest := []) (as := [.inr 1, .inl (a)]) (xi43 2) (by decide) xm40 rfl ⟨rfl, Nat.le_of_ble_eq_true rfl, by decide⟩ (Or.inr (x_okt (ok_town hS))) (k_standAtF hS hT a c0) ?_
    refine e_astore (k := 3) (xi43 3) (Nat.le_of_ble_eq_true rfl) (by decide) ?_
    show x_Ev 43 4 [.inr 1, .inl (a), .inl (d), .inr (-1)] [] (0, 0) (z, P, M) _
    refine e_aload (k := 4) (xi43 4) rfl (by decide) ?_
    refine e_ifnull (k := 5) (xi43 5) (by omega) (fun _ => ?_) (fun q => absurd (by omega) q)
    refine e_null (k := 10) (xi43 10) ?_
    refine e_goto (k := 11) (xi43 11) ?_
    refine e_aret (k := 18) (xi43 18) (by decide) ?_
    exact (by omega : False).elim
theorem k_wheelInF {z : Int} {P M : Int → Int → Int} (hS : x_Sh z P) (hT : y_TC M) (a : Int) (d : Int) (hc : ¬ (((0 ≤ a ∧ a < M 1 1) ∧ 0 ≤ d ∧ d < M (3 + 7 * a) 1) ∧ 0 ≤ M (4 + 7 * a) d ∧ M (4 + 7 * a) d < M 1 3)) : x_Call 43 [.inr 1, .inl (a), .inl (d)] (z, P, M) (some (.inr (-1))) (z, P, M) := by
  refine e_body (ls0 := [.inr 1, .inl (a), .inl (d), x_un]) xm43 rfl ?_
  refine e_aload (k := 0) (xi43 0) rfl (by decide) ?_
  refine e_iload (k := 1) (xi43 1) rfl ?_
  have t1 := ty_town1 hT 
  by_cases c0 : 0 ≤ a ∧ a < M 1 1
  · skip
    refine e_call (k := 2) (v := some (.inr (3 + 7 * a))) (h1 := (z, P, M)) (c1 := 0) (c2 := 0) (rest := []) (as := [.inr 1, .inl (a)]) (xi43 2) (by decide) xm40 rfl ⟨rfl, Nat.le_of_ble_eq_true rfl, by decide⟩ (Or.inr (x_okt (ok_town hS))) (k_standAtT hS hT a c0) ?_
    refine e_astore (k := 3) (xi43 3) (Nat.le_of_ble_eq_true rfl) (by omega) ?_
    show x_Ev 43 4 [.inr 1, .inl (a), .inl (d), .inr (3 + 7 * a)] [] (0, 0) (z, P, M) _
    refine e_aload (k := 4) (xi43 4) rfl (by omega) ?_
    refine e_ifnull (k := 5) (xi43 5) (by omega) (fun q => absurd q (by omega)) (fun _ => ?_)
    refine e_aload (k := 6) (xi43 6) rfl (by omega) ?_
    refine e_iload (k := 7) (xi43 7) rfl ?_
    have t2 := ty_st1 hT (show 0 ≤ a ∧ a < 12 by omega)
    refine e_call (k := 8) (v := some (.inl (x_b (0 ≤ d ∧ d < M (3 + 7 * a) 1)))) (h1 := (z, P, M)) (c1 := 0) (c2 := 0) (rest := []) (as := [.inr (3 + 7 * a), .inl (d)]) (xi43 8) (by decide) xm17 rfl ⟨rfl, Nat.le_of_ble_eq_true rfl, by decide⟩ (Or.inr (x_okt (ok_st hS (show 0 ≤ a ∧ a < 12 by omega)))) (k_hasDock hS hT a d (show 0 ≤ a ∧ a < 12 by omega) ) ?_
    refine e_b_ne (k := 9) (xi43 9) (fun c1 => ?_) (fun c1 => ?_)
    · skip
      refine e_aload (k := 12) (xi43 12) rfl (by decide) ?_
      refine e_aload (k := 13) (xi43 13) rfl (by omega) ?_
      refine e_getR (j := 2) (w := 4 + 7 * a) (k := 14) (xi43 14) (ok_st hS (show 0 ≤ a ∧ a < 12 by omega)) rfl (sh_con hS (show 0 ≤ a ∧ a < 12 by omega)) ?_
      refine e_iload (k := 15) (xi43 15) rfl ?_
      have t3 := ty_con (j := d) hT (show 0 ≤ a ∧ a < 12 by omega) (by omega)
      refine e_iald (w := M (4 + 7 * a) d) (k := 16) (xi43 16) (ok_con hS (show 0 ≤ a ∧ a < 12 by omega)) (by rw [(ln_con (show 0 ≤ a ∧ a < 12 by omega))]; omega) rfl ?_
      have t4 := ty_town3 hT 
      by_cases c2 : 0 ≤ (M (4 + 7 * a) d) ∧ (M (4 + 7 * a) d) < M 1 3
      · skip
        refine e_call (k := 17) (v := some (.inr (88 + ((M (4 + 7 * a) d))))) (h1 := (z, P, M)) (c1 := 0) (c2 := 0) (rest := []) (as := [.inr 1, .inl (M (4 + 7 * a) d)]) (xi43 17) (by decide) xm41 rfl ⟨rfl, Nat.le_of_ble_eq_true rfl, by decide⟩ (Or.inr (x_okt (ok_town hS))) (k_wheelAtT hS hT (M (4 + 7 * a) d) c2) ?_
        refine e_aret (k := 18) (xi43 18) (by omega) ?_
        exact (by omega : False).elim
      · skip
        refine e_call (k := 17) (v := some (.inr (-1))) (h1 := (z, P, M)) (c1 := 0) (c2 := 0) (rest := []) (as := [.inr 1, .inl (M (4 + 7 * a) d)]) (xi43 17) (by decide) xm41 rfl ⟨rfl, Nat.le_of_ble_eq_true rfl, by decide⟩ (Or.inr (x_okt (ok_town hS))) (k_wheelAtF hS hT (M (4 + 7 * a) d) c2) ?_
        refine e_aret (k := 18) (xi43 18) (by decide) ?_
        rfl
    · skip
      refine e_null (k := 10) (xi43 10) ?_
      refine e_goto (k := 11) (xi43 11) ?_
      refine e_aret (k := 18) (xi43 18) (by decide) ?_
      rfl
  · skip
    refine e_call (k := 2) (v := some (.inr (-1))) (h1 := (z, P, M)) (c1 := 0) (c2 := 0) (rest := []) (as := [.inr 1, .inl (a)]) (xi43 2) (by decide) xm40 rfl ⟨rfl, Nat.le_of_ble_eq_true rfl, by decide⟩ (Or.inr (x_okt (ok_town hS))) (k_standAtF hS hT a c0) ?_
    refine e_astore (k := 3) (xi43 3) (Nat.le_of_ble_eq_true rfl) (by decide) ?_
    show x_Ev 43 4 [.inr 1, .inl (a), .inl (d), .inr (-1)] [] (0, 0) (z, P, M) _
    refine e_aload (k := 4) (xi43 4) rfl (by decide) ?_
    refine e_ifnull (k := 5) (xi43 5) (by omega) (fun _ => ?_) (fun q => absurd (by omega) q)
    refine e_null (k := 10) (xi43 10) ?_
    refine e_goto (k := 11) (xi43 11) ?_
    refine e_aret (k := 18) (xi43 18) (by decide) ?_
    rfl
def v_addStand (n : Int) (M : Int → Int → Int) : Int := if M 1 1 < 12 then ((u_sSetUp (M 1 1) n M)) 1 1 else (-1)
def u_addStand (n : Int) (M : Int → Int → Int) : Int → Int → Int := if M 1 1 < 12 then (x_up ((u_sSetUp (M 1 1) n M)) 1 1 (1 + ((u_sSetUp (M 1 1) n M)) 1 1)) else M
theorem k_addStand {z : Int} {P M : Int → Int → Int} (hS : x_Sh z P) (hT : y_TC M) (n : Int)  (hn : 2 ≤ n ∧ n ≤ 12) : x_CallR 44 [.inr 1, .inl (n)] (z, P, M) (fun q => q = (some (.inl (v_addStand n M)), (z, P, u_addStand n M)) ∧ y_TL 2 M (u_addStand n M) ∧ True) := by
  have tl0 : y_TL 2 M M := tl_refl hT
  refine e_body (ls0 := [.inr 1, .inl (n)]) xm44 rfl ?_
  refine e_aload (k := 0) (xi44 0) rfl (by decide) ?_
  have t1 := ty_town1 tl0.1 
  refine e_getI (j := 1) (w := M 1 1) (k := 1) (xi44 1) (ok_town hS) rfl rfl ?_
  refine e_iconst (k := 2) (xi44 2) ?_
  refine e_c_lt (k := 3) (xi44 3) (fun c0 => ?_) (fun c0 => ?_)
  · skip
    refine e_aload (k := 6) (xi44 6) rfl (by decide) ?_
    refine e_getR (j := 0) (w := 2) (k := 7) (xi44 7) (ok_town hS) rfl (sh_stands hS) ?_
    refine e_aload (k := 8) (xi44 8) rfl (by decide) ?_
    refine e_getI (j := 1) (w := M 1 1) (k := 9) (xi44 9) (ok_town hS) rfl rfl ?_
    refine e_aald (w := 3 + 7 * (M 1 1)) (k := 10) (xi44 10) (x_ok4 (ok_stands hS) (by decide)) (by rw [ln_stands]; omega) (sh_st hS (show 0 ≤ M 1 1 ∧ M 1 1 < 12 by omega)) ?_
    refine e_iload (k := 11) (xi44 11) rfl ?_
    refine e_callR (k := 12) (c1 := 0) (c2 := 0) (rest := []) (as := [.inr (3 + 7 * (M 1 1)), .inl (n)]) (xi44 12) (by decide) xm15 rfl ⟨rfl, Nat.le_of_ble_eq_true rfl, by decide⟩ (Or.inr (x_okt (ok_st hS (show 0 ≤ M 1 1 ∧ M 1 1 < 12 by omega)))) (k_sSetUp hS tl0.1 (M 1 1) n (show 0 ≤ M 1 1 ∧ M 1 1 < 12 by omega) (by omega)) ?_
    rintro v_ h_ ⟨e2, tl3⟩
    cases e2
    have tl5 := tl_trans tl0 (tl_24 tl3)
    have n6 := tl_n4 tl3
    show x_Ev 44 13 [.inr 1, .inl (n)] [] (0, 0) (z, P, (u_sSetUp (M 1 1) n M)) _
    refine e_aload (k := 13) (xi44 13) rfl (by decide) ?_
    refine e_dup (k := 14) (xi44 14) ?_
    have t7 := ty_town1 tl5.1 
    refine e_getI (j := 1) (w := ((u_sSetUp (M 1 1) n M)) 1 1) (k := 15) (xi44 15) (ok_town hS) rfl rfl ?_
    refine e_iconst (k := 16) (xi44 16) ?_
    refine e_iadd (w := 1 + ((u_sSetUp (M 1 1) n M)) 1 1) (k := 17) (xi44 17) (x_wn (by omega)) ?_
    refine e_putI (j := 1) (k := 18) (xi44 18) (ok_town hS) rfl ?_
    have tl8 : y_TL 2 M (x_up ((u_sSetUp (M 1 1) n M)) 1 1 (1 + ((u_sSetUp (M 1 1) n M)) 1 1)) := tl_up tl5 (sl_town1  (by omega)) (nf2 (by omega))
    refine e_aload (k := 19) (xi44 19) rfl (by decide) ?_
    refine e_getI (j := 1) (w := 1 + ((u_sSetUp (M 1 1) n M)) 1 1) (k := 20) (xi44 20) (ok_town hS) rfl x_up_self ?_
    refine e_iconst (k := 21) (xi44 21) ?_
    refine e_isub (w := ((u_sSetUp (M 1 1) n M)) 1 1) (k := 22) (xi44 22) (x_wn (by omega)) ?_
    refine e_iret (k := 23) (xi44 23) ?_
    exact y_fW (Q := fun _ => True) (show v_addStand n M = ((u_sSetUp (M 1 1) n M)) 1 1 from by rw [v_addStand, if_pos c0]) (show u_addStand n M = (x_up ((u_sSetUp (M 1 1) n M)) 1 1 (1 + ((u_sSetUp (M 1 1) n M)) 1 1)) from by rw [u_addStand, if_pos c0]) tl8 trivial
  · skip
    refine e_iconst (k := 4) (xi44 4) ?_
    refine e_iret (k := 5) (xi44 5) ?_
    exact y_fW (Q := fun _ => True) (show v_addStand n M = (-1) from by rw [v_addStand, if_neg c0]) (show u_addStand n M = M from by rw [u_addStand, if_neg c0]) tl0 trivial
def l_wheelsIn_a (p : Int) (M : Int → Int → Int) : Nat → Int → Int → Int × Int
  | 0, n, i => (n, i)
  | k + 1, n, i => if M 1 3 ≤ i then (n, i) else if ¬ M (88 + i) 3 = p then l_wheelsIn_a p M k n (1 + i) else l_wheelsIn_a p M k (1 + n) (1 + i)
theorem kl_wheelsIn_a {z : Int} {P M : Int → Int → Int} {r : Option xV × xH → Prop} (hS : x_Sh z P) (hT : y_TC M) (p : Int)    : ∀ k : Nat, ∀ n : Int, ∀ i : Int, (0 ≤ n ∧ n ≤ i ∧ i ≤ M 1 3) → 60 - i < (k : Int) → (0 ≤ ((l_wheelsIn_a p M k n i).1) ∧ ((l_wheelsIn_a p M k n i).1) ≤ 60 → x_Ev 47 18 [.inr 1, .inl (p), .inl ((l_wheelsIn_a p M k n i).1), .inl ((l_wheelsIn_a p M k n i).2)] [] (0, 0) (z, P, M) r) → x_Ev 47 4 [.inr 1, .inl (p), .inl (n), .inl (i)] [] (0, 0) (z, P, M) r := by
  have hk1 := ty_town3 hT
  intro k
  induction k with
  | zero => intro n i hi hm; omega
  | succ k ih =>
    intro n i hi hm kk
    refine e_iload (k := 4) (xi47 4) rfl ?_
    refine e_aload (k := 5) (xi47 5) rfl (by decide) ?_
    have t1 := ty_town3 hT 
    refine e_getI (j := 3) (w := M 1 3) (k := 6) (xi47 6) (ok_town hS) rfl rfl ?_
    refine e_c_ge (k := 7) (xi47 7) (fun c0 => ?_) (fun c0 => ?_)
    · skip
      rw [(show l_wheelsIn_a p M (k + 1) n i = (n, i) from by rw [l_wheelsIn_a, if_pos c0])] at kk
      try dsimp only at kk
      exact kk (by first | exact trivial | omega)
    · skip
      refine e_aload (k := 8) (xi47 8) rfl (by decide) ?_
      refine e_getR (j := 2) (w := 87) (k := 9) (xi47 9) (ok_town hS) rfl (sh_whs hS) ?_
      refine e_iload (k := 10) (xi47 10) rfl ?_
      refine e_aald (w := 88 + i) (k := 11) (xi47 11) (x_ok4 (ok_whs hS) (by decide)) (by rw [ln_whs]; omega) (sh_wh hS (show 0 ≤ i ∧ i < 60 by omega)) ?_
      have t2 := ty_wh3 hT (show 0 ≤ i ∧ i < 60 by omega)
      refine e_getI (j := 3) (w := M (88 + i) 3) (k := 12) (xi47 12) (ok_wh hS (show 0 ≤ i ∧ i < 60 by omega)) rfl rfl ?_
      refine e_iload (k := 13) (xi47 13) rfl ?_
      refine e_c_ne (k := 14) (xi47 14) (fun c1 => ?_) (fun c1 => ?_)
      · skip
        refine e_iinc (w := 1 + i) (k := 16) (xi47 16) rfl (x_wn (by omega)) ?_
        show x_Ev 47 17 [.inr 1, .inl (p), .inl (n), .inl (1 + i)] [] (0, 0) (z, P, M) _
        refine e_goto (k := 17) (xi47 17) ?_
        rw [(show l_wheelsIn_a p M (k + 1) n i = l_wheelsIn_a p M k n (1 + i) from by rw [l_wheelsIn_a, if_neg c0, if_pos c1])] at kk
        exact ih n (1 + i) (by omega) (by omega) kk
      · skip
        refine e_iinc (w := 1 + n) (k := 15) (xi47 15) rfl (x_wn (by omega)) ?_
        show x_Ev 47 16 [.inr 1, .inl (p), .inl (1 + n), .inl (i)] [] (0, 0) (z, P, M) _
        refine e_iinc (w := 1 + i) (k := 16) (xi47 16) rfl (x_wn (by omega)) ?_
        show x_Ev 47 17 [.inr 1, .inl (p), .inl (1 + n), .inl (1 + i)] [] (0, 0) (z, P, M) _
        refine e_goto (k := 17) (xi47 17) ?_
        rw [(show l_wheelsIn_a p M (k + 1) n i = l_wheelsIn_a p M k (1 + n) (1 + i) from by rw [l_wheelsIn_a, if_neg c0, if_neg c1])] at kk
        exact ih (1 + n) (1 + i) (by omega) (by omega) kk
def v_wheelsIn (p : Int) (M : Int → Int → Int) : Int := (l_wheelsIn_a p M 61 0 0).1
theorem k_wheelsIn {z : Int} {P M : Int → Int → Int} (hS : x_Sh z P) (hT : y_TC M) (p : Int)   : x_CallR 47 [.inr 1, .inl (p)] (z, P, M) (fun q => q = (some (.inl (v_wheelsIn p M)), (z, P, M)) ∧ (fun v => 0 ≤ v ∧ v ≤ 60) (v_wheelsIn p M)) := by
  have hk1 := ty_town3 hT
  refine e_body (ls0 := [.inr 1, .inl (p), x_un, x_un]) xm47 rfl ?_
  refine e_iconst (k := 0) (xi47 0) ?_
  refine e_istore (k := 1) (xi47 1) (Nat.le_of_ble_eq_true rfl) ?_
  show x_Ev 47 2 [.inr 1, .inl (p), .inl 0, x_un] [] (0, 0) (z, P, M) _
  refine e_iconst (k := 2) (xi47 2) ?_
  refine e_istore (k := 3) (xi47 3) (Nat.le_of_ble_eq_true rfl) ?_
  show x_Ev 47 4 [.inr 1, .inl (p), .inl 0, .inl 0] [] (0, 0) (z, P, M) _
  refine kl_wheelsIn_a hS hT p     61 0 0 (by omega) (by omega) ?_
  intro q2
  show x_Ev 47 18 [.inr 1, .inl (p), .inl ((l_wheelsIn_a p M 61 0 0).1), .inl ((l_wheelsIn_a p M 61 0 0).2)] [] (0, 0) (z, P, M) _
  refine e_iload (k := 18) (xi47 18) rfl ?_
  refine e_iret (k := 19) (xi47 19) ?_
  exact y_fV (Q := fun v => 0 ≤ v ∧ v ≤ 60) (show v_wheelsIn p M = (l_wheelsIn_a p M 61 0 0).1 from rfl) (by omega)
def l_knownBroken_a (M : Int → Int → Int) : Nat → Int → Int → Int × Int
  | 0, n, i => (n, i)
  | k + 1, n, i => if M 1 3 ≤ i then (n, i) else if M (88 + i) 8 = 0 then l_knownBroken_a M k n (1 + i) else l_knownBroken_a M k (1 + n) (1 + i)
theorem kl_knownBroken_a {z : Int} {P M : Int → Int → Int} {r : Option xV × xH → Prop} (hS : x_Sh z P) (hT : y_TC M)     : ∀ k : Nat, ∀ n : Int, ∀ i : Int, (0 ≤ n ∧ n ≤ i ∧ i ≤ M 1 3) → 60 - i < (k : Int) → (0 ≤ ((l_knownBroken_a M k n i).1) ∧ ((l_knownBroken_a M k n i).1) ≤ 60 → x_Ev 48 17 [.inr 1, .inl ((l_knownBroken_a M k n i).1), .inl ((l_knownBroken_a M k n i).2)] [] (0, 0) (z, P, M) r) → x_Ev 48 4 [.inr 1, .inl (n), .inl (i)] [] (0, 0) (z, P, M) r := by
  have hk1 := ty_town3 hT
  intro k
  induction k with
  | zero => intro n i hi hm; omega
  | succ k ih =>
    intro n i hi hm kk
    refine e_iload (k := 4) (xi48 4) rfl ?_
    refine e_aload (k := 5) (xi48 5) rfl (by decide) ?_
    have t1 := ty_town3 hT 
    refine e_getI (j := 3) (w := M 1 3) (k := 6) (xi48 6) (ok_town hS) rfl rfl ?_
    refine e_c_ge (k := 7) (xi48 7) (fun c0 => ?_) (fun c0 => ?_)
    · skip
      rw [(show l_knownBroken_a M (k + 1) n i = (n, i) from by rw [l_knownBroken_a, if_pos c0])] at kk
      try dsimp only at kk
      exact kk (by first | exact trivial | omega)
    · skip
      refine e_aload (k := 8) (xi48 8) rfl (by decide) ?_
      refine e_getR (j := 2) (w := 87) (k := 9) (xi48 9) (ok_town hS) rfl (sh_whs hS) ?_
      refine e_iload (k := 10) (xi48 10) rfl ?_
      refine e_aald (w := 88 + i) (k := 11) (xi48 11) (x_ok4 (ok_whs hS) (by decide)) (by rw [ln_whs]; omega) (sh_wh hS (show 0 ≤ i ∧ i < 60 by omega)) ?_
      have t2 := ty_wh8 hT (show 0 ≤ i ∧ i < 60 by omega)
      refine e_getI (j := 8) (w := M (88 + i) 8) (k := 12) (xi48 12) (ok_wh hS (show 0 ≤ i ∧ i < 60 by omega)) rfl rfl ?_
      refine e_z_eq (k := 13) (xi48 13) (fun c1 => ?_) (fun c1 => ?_)
      · skip
        refine e_iinc (w := 1 + i) (k := 15) (xi48 15) rfl (x_wn (by omega)) ?_
        show x_Ev 48 16 [.inr 1, .inl (n), .inl (1 + i)] [] (0, 0) (z, P, M) _
        refine e_goto (k := 16) (xi48 16) ?_
        rw [(show l_knownBroken_a M (k + 1) n i = l_knownBroken_a M k n (1 + i) from by rw [l_knownBroken_a, if_neg c0, if_pos c1])] at kk
        exact ih n (1 + i) (by omega) (by omega) kk
      · skip
        refine e_iinc (w := 1 + n) (k := 14) (xi48 14) rfl (x_wn (by omega)) ?_
        show x_Ev 48 15 [.inr 1, .inl (1 + n), .inl (i)] [] (0, 0) (z, P, M) _
        refine e_iinc (w := 1 + i) (k := 15) (xi48 15) rfl (x_wn (by omega)) ?_
        show x_Ev 48 16 [.inr 1, .inl (1 + n), .inl (1 + i)] [] (0, 0) (z, P, M) _
        refine e_goto (k := 16) (xi48 16) ?_
        rw [(show l_knownBroken_a M (k + 1) n i = l_knownBroken_a M k (1 + n) (1 + i) from by rw [l_knownBroken_a, if_neg c0, if_neg c1])] at kk
        exact ih (1 + n) (1 + i) (by omega) (by omega) kk
def v_knownBroken (M : Int → Int → Int) : Int := (l_knownBroken_a M 61 0 0).1
theorem k_knownBroken {z : Int} {P M : Int → Int → Int} (hS : x_Sh z P) (hT : y_TC M)    : x_CallR 48 [.inr 1] (z, P, M) (fun q => q = (some (.inl (v_knownBroken M)), (z, P, M)) ∧ (fun v => 0 ≤ v ∧ v ≤ 60) (v_knownBroken M)) := by
  have hk1 := ty_town3 hT
  refine e_body (ls0 := [.inr 1, x_un, x_un]) xm48 rfl ?_
  refine e_iconst (k := 0) (xi48 0) ?_
  refine e_istore (k := 1) (xi48 1) (Nat.le_of_ble_eq_true rfl) ?_
  show x_Ev 48 2 [.inr 1, .inl 0, x_un] [] (0, 0) (z, P, M) _
  refine e_iconst (k := 2) (xi48 2) ?_
  refine e_istore (k := 3) (xi48 3) (Nat.le_of_ble_eq_true rfl) ?_
  show x_Ev 48 4 [.inr 1, .inl 0, .inl 0] [] (0, 0) (z, P, M) _
  refine kl_knownBroken_a hS hT      61 0 0 (by omega) (by omega) ?_
  intro q2
  show x_Ev 48 17 [.inr 1, .inl ((l_knownBroken_a M 61 0 0).1), .inl ((l_knownBroken_a M 61 0 0).2)] [] (0, 0) (z, P, M) _
  refine e_iload (k := 17) (xi48 17) rfl ?_
  refine e_iret (k := 18) (xi48 18) ?_
  exact y_fV (Q := fun v => 0 ≤ v ∧ v ≤ 60) (show v_knownBroken M = (l_knownBroken_a M 61 0 0).1 from rfl) (by omega)
def l_wheelsAt_a (s p : Int) (M : Int → Int → Int) : Nat → Int → Int → Int × Int
  | 0, n, i => (n, i)
  | k + 1, n, i => if M 1 3 ≤ i then (n, i) else if M (88 + i) 3 = p ∧ M (88 + i) 4 = s then l_wheelsAt_a s p M k (1 + n) (1 + i) else l_wheelsAt_a s p M k n (1 + i)
theorem kl_wheelsAt_a {z : Int} {P M : Int → Int → Int} {r : Option xV × xH → Prop} (hS : x_Sh z P) (hT : y_TC M) (s : Int) (p : Int)    : ∀ k : Nat, ∀ n : Int, ∀ i : Int, (0 ≤ n ∧ n ≤ i ∧ i ≤ M 1 3) → 60 - i < (k : Int) → (0 ≤ ((l_wheelsAt_a s p M k n i).1) ∧ ((l_wheelsAt_a s p M k n i).1) ≤ 60 → x_Ev 49 19 [.inr 1, .inl (s), .inl (p), .inl ((l_wheelsAt_a s p M k n i).1), .inl ((l_wheelsAt_a s p M k n i).2)] [] (0, 0) (z, P, M) r) → x_Ev 49 4 [.inr 1, .inl (s), .inl (p), .inl (n), .inl (i)] [] (0, 0) (z, P, M) r := by
  have hk1 := ty_town3 hT
  intro k
  induction k with
  | zero => intro n i hi hm; omega
  | succ k ih =>
    intro n i hi hm kk
    refine e_iload (k := 4) (xi49 4) rfl ?_
    refine e_aload (k := 5) (xi49 5) rfl (by decide) ?_
    have t1 := ty_town3 hT 
    refine e_getI (j := 3) (w := M 1 3) (k := 6) (xi49 6) (ok_town hS) rfl rfl ?_
    refine e_c_ge (k := 7) (xi49 7) (fun c0 => ?_) (fun c0 => ?_)
    · skip
      rw [(show l_wheelsAt_a s p M (k + 1) n i = (n, i) from by rw [l_wheelsAt_a, if_pos c0])] at kk
      try dsimp only at kk
      exact kk (by first | exact trivial | omega)
    · skip
      refine e_aload (k := 8) (xi49 8) rfl (by decide) ?_
      refine e_getR (j := 2) (w := 87) (k := 9) (xi49 9) (ok_town hS) rfl (sh_whs hS) ?_
      refine e_iload (k := 10) (xi49 10) rfl ?_
      refine e_aald (w := 88 + i) (k := 11) (xi49 11) (x_ok4 (ok_whs hS) (by decide)) (by rw [ln_whs]; omega) (sh_wh hS (show 0 ≤ i ∧ i < 60 by omega)) ?_
      refine e_iload (k := 12) (xi49 12) rfl ?_
      refine e_iload (k := 13) (xi49 13) rfl ?_
      have t2 := ty_wh3 hT (show 0 ≤ i ∧ i < 60 by omega)
      have t3 := ty_wh4 hT (show 0 ≤ i ∧ i < 60 by omega)
      refine e_call (k := 14) (v := some (.inl (x_b (M (88 + i) 3 = p ∧ M (88 + i) 4 = s)))) (h1 := (z, P, M)) (c1 := 0) (c2 := 0) (rest := []) (as := [.inr (88 + i), .inl (s), .inl (p)]) (xi49 14) (by decide) xm76 rfl ⟨rfl, Nat.le_of_ble_eq_true rfl, by decide⟩ (Or.inr (x_okt (ok_wh hS (show 0 ≤ i ∧ i < 60 by omega)))) (k_isAt hS hT i s p (show 0 ≤ i ∧ i < 60 by omega) ) ?_
      refine e_b_eq (k := 15) (xi49 15) (fun c1 => ?_) (fun c1 => ?_)
      · skip
        refine e_iinc (w := 1 + n) (k := 16) (xi49 16) rfl (x_wn (by omega)) ?_
        show x_Ev 49 17 [.inr 1, .inl (s), .inl (p), .inl (1 + n), .inl (i)] [] (0, 0) (z, P, M) _
        refine e_iinc (w := 1 + i) (k := 17) (xi49 17) rfl (x_wn (by omega)) ?_
        show x_Ev 49 18 [.inr 1, .inl (s), .inl (p), .inl (1 + n), .inl (1 + i)] [] (0, 0) (z, P, M) _
        refine e_goto (k := 18) (xi49 18) ?_
        rw [(show l_wheelsAt_a s p M (k + 1) n i = l_wheelsAt_a s p M k (1 + n) (1 + i) from by rw [l_wheelsAt_a, if_neg c0, if_pos c1])] at kk
        exact ih (1 + n) (1 + i) (by omega) (by omega) kk
      · skip
        refine e_iinc (w := 1 + i) (k := 17) (xi49 17) rfl (x_wn (by omega)) ?_
        show x_Ev 49 18 [.inr 1, .inl (s), .inl (p), .inl (n), .inl (1 + i)] [] (0, 0) (z, P, M) _
        refine e_goto (k := 18) (xi49 18) ?_
        rw [(show l_wheelsAt_a s p M (k + 1) n i = l_wheelsAt_a s p M k n (1 + i) from by rw [l_wheelsAt_a, if_neg c0, if_neg c1])] at kk
        exact ih n (1 + i) (by omega) (by omega) kk
def v_wheelsAt (s p : Int) (M : Int → Int → Int) : Int := (l_wheelsAt_a s p M 61 0 0).1
theorem k_wheelsAt {z : Int} {P M : Int → Int → Int} (hS : x_Sh z P) (hT : y_TC M) (s : Int) (p : Int)   : x_CallR 49 [.inr 1, .inl (s), .inl (p)] (z, P, M) (fun q => q = (some (.inl (v_wheelsAt s p M)), (z, P, M)) ∧ (fun v => 0 ≤ v ∧ v ≤ 60) (v_wheelsAt s p M)) := by
  have hk1 := ty_town3 hT
  refine e_body (ls0 := [.inr 1, .inl (s), .inl (p), x_un, x_un]) xm49 rfl ?_
  refine e_iconst (k := 0) (xi49 0) ?_
  refine e_istore (k := 1) (xi49 1) (Nat.le_of_ble_eq_true rfl) ?_
  show x_Ev 49 2 [.inr 1, .inl (s), .inl (p), .inl 0, x_un] [] (0, 0) (z, P, M) _
  refine e_iconst (k := 2) (xi49 2) ?_
  refine e_istore (k := 3) (xi49 3) (Nat.le_of_ble_eq_true rfl) ?_
  show x_Ev 49 4 [.inr 1, .inl (s), .inl (p), .inl 0, .inl 0] [] (0, 0) (z, P, M) _
  refine kl_wheelsAt_a hS hT s p     61 0 0 (by omega) (by omega) ?_
  intro q2
  show x_Ev 49 19 [.inr 1, .inl (s), .inl (p), .inl ((l_wheelsAt_a s p M 61 0 0).1), .inl ((l_wheelsAt_a s p M 61 0 0).2)] [] (0, 0) (z, P, M) _
  refine e_iload (k := 19) (xi49 19) rfl ?_
  refine e_iret (k := 20) (xi49 20) ?_
  exact y_fV (Q := fun v => 0 ≤ v ∧ v ≤ 60) (show v_wheelsAt s p M = (l_wheelsAt_a s p M 61 0 0).1 from rfl) (by omega)
def l_movableAt_a (s : Int) (M : Int → Int → Int) : Nat → Int → Int → Int × Int
  | 0, n, i => (n, i)
  | k + 1, n, i => if M 1 3 ≤ i then (n, i) else if M (88 + i) 3 = 0 ∧ M (88 + i) 4 = s then (if M (88 + i) 1 = 2 then l_movableAt_a s M k n (1 + i) else l_movableAt_a s M k (1 + n) (1 + i)) else l_movableAt_a s M k n (1 + i)
theorem kl_movableAt_a {z : Int} {P M : Int → Int → Int} {r : Option xV × xH → Prop} (hS : x_Sh z P) (hT : y_TC M) (s : Int)    : ∀ k : Nat, ∀ n : Int, ∀ i : Int, (0 ≤ n ∧ n ≤ i ∧ i ≤ M 1 3) → 60 - i < (k : Int) → (0 ≤ ((l_movableAt_a s M k n i).1) ∧ ((l_movableAt_a s M k n i).1) ≤ 60 → x_Ev 50 26 [.inr 1, .inl (s), .inl ((l_movableAt_a s M k n i).1), .inl ((l_movableAt_a s M k n i).2)] [] (0, 0) (z, P, M) r) → x_Ev 50 4 [.inr 1, .inl (s), .inl (n), .inl (i)] [] (0, 0) (z, P, M) r := by
  have hk1 := ty_town3 hT
  intro k
  induction k with
  | zero => intro n i hi hm; omega
  | succ k ih =>
    intro n i hi hm kk
    refine e_iload (k := 4) (xi50 4) rfl ?_
    refine e_aload (k := 5) (xi50 5) rfl (by decide) ?_
    have t1 := ty_town3 hT 
    refine e_getI (j := 3) (w := M 1 3) (k := 6) (xi50 6) (ok_town hS) rfl rfl ?_
    refine e_c_ge (k := 7) (xi50 7) (fun c0 => ?_) (fun c0 => ?_)
    · skip
      rw [(show l_movableAt_a s M (k + 1) n i = (n, i) from by rw [l_movableAt_a, if_pos c0])] at kk
      try dsimp only at kk
      exact kk (by first | exact trivial | omega)
    · skip
      refine e_aload (k := 8) (xi50 8) rfl (by decide) ?_
      refine e_getR (j := 2) (w := 87) (k := 9) (xi50 9) (ok_town hS) rfl (sh_whs hS) ?_
      refine e_iload (k := 10) (xi50 10) rfl ?_
      refine e_aald (w := 88 + i) (k := 11) (xi50 11) (x_ok4 (ok_whs hS) (by decide)) (by rw [ln_whs]; omega) (sh_wh hS (show 0 ≤ i ∧ i < 60 by omega)) ?_
      refine e_iload (k := 12) (xi50 12) rfl ?_
      refine e_iconst (k := 13) (xi50 13) ?_
      have t2 := ty_wh3 hT (show 0 ≤ i ∧ i < 60 by omega)
      have t3 := ty_wh4 hT (show 0 ≤ i ∧ i < 60 by omega)
      refine e_call (k := 14) (v := some (.inl (x_b (M (88 + i) 3 = 0 ∧ M (88 + i) 4 = s)))) (h1 := (z, P, M)) (c1 := 0) (c2 := 0) (rest := []) (as := [.inr (88 + i), .inl (s), .inl 0]) (xi50 14) (by decide) xm76 rfl ⟨rfl, Nat.le_of_ble_eq_true rfl, by decide⟩ (Or.inr (x_okt (ok_wh hS (show 0 ≤ i ∧ i < 60 by omega)))) (k_isAt hS hT i s 0 (show 0 ≤ i ∧ i < 60 by omega) ) ?_
      refine e_b_eq (k := 15) (xi50 15) (fun c1 => ?_) (fun c1 => ?_)
      · skip
        refine e_aload (k := 16) (xi50 16) rfl (by decide) ?_
        refine e_getR (j := 2) (w := 87) (k := 17) (xi50 17) (ok_town hS) rfl (sh_whs hS) ?_
        refine e_iload (k := 18) (xi50 18) rfl ?_
        refine e_aald (w := 88 + i) (k := 19) (xi50 19) (x_ok4 (ok_whs hS) (by decide)) (by rw [ln_whs]; omega) (sh_wh hS (show 0 ≤ i ∧ i < 60 by omega)) ?_
        have t4 := ty_wh1 hT (show 0 ≤ i ∧ i < 60 by omega)
        refine e_getI (j := 1) (w := M (88 + i) 1) (k := 20) (xi50 20) (ok_wh hS (show 0 ≤ i ∧ i < 60 by omega)) rfl rfl ?_
        refine e_iconst (k := 21) (xi50 21) ?_
        refine e_c_eq (k := 22) (xi50 22) (fun c2 => ?_) (fun c2 => ?_)
        · skip
          refine e_iinc (w := 1 + i) (k := 24) (xi50 24) rfl (x_wn (by omega)) ?_
          show x_Ev 50 25 [.inr 1, .inl (s), .inl (n), .inl (1 + i)] [] (0, 0) (z, P, M) _
          refine e_goto (k := 25) (xi50 25) ?_
          rw [(show l_movableAt_a s M (k + 1) n i = l_movableAt_a s M k n (1 + i) from by rw [l_movableAt_a, if_neg c0, if_pos c1, if_pos c2])] at kk
          exact ih n (1 + i) (by omega) (by omega) kk
        · skip
          refine e_iinc (w := 1 + n) (k := 23) (xi50 23) rfl (x_wn (by omega)) ?_
          show x_Ev 50 24 [.inr 1, .inl (s), .inl (1 + n), .inl (i)] [] (0, 0) (z, P, M) _
          refine e_iinc (w := 1 + i) (k := 24) (xi50 24) rfl (x_wn (by omega)) ?_
          show x_Ev 50 25 [.inr 1, .inl (s), .inl (1 + n), .inl (1 + i)] [] (0, 0) (z, P, M) _
          refine e_goto (k := 25) (xi50 25) ?_
          rw [(show l_movableAt_a s M (k + 1) n i = l_movableAt_a s M k (1 + n) (1 + i) from by rw [l_movableAt_a, if_neg c0, if_pos c1, if_neg c2])] at kk
          exact ih (1 + n) (1 + i) (by omega) (by omega) kk
      · skip
        refine e_iinc (w := 1 + i) (k := 24) (xi50 24) rfl (x_wn (by omega)) ?_
        show x_Ev 50 25 [.inr 1, .inl (s), .inl (n), .inl (1 + i)] [] (0, 0) (z, P, M) _
        refine e_goto (k := 25) (xi50 25) ?_
        rw [(show l_movableAt_a s M (k + 1) n i = l_movableAt_a s M k n (1 + i) from by rw [l_movableAt_a, if_neg c0, if_neg c1])] at kk
        exact ih n (1 + i) (by omega) (by omega) kk
def v_movableAt (s : Int) (M : Int → Int → Int) : Int := (l_movableAt_a s M 61 0 0).1
theorem k_movableAt {z : Int} {P M : Int → Int → Int} (hS : x_Sh z P) (hT : y_TC M) (s : Int)   : x_CallR 50 [.inr 1, .inl (s)] (z, P, M) (fun q => q = (some (.inl (v_movableAt s M)), (z, P, M)) ∧ (fun v => 0 ≤ v ∧ v ≤ 60) (v_movableAt s M)) := by
  have hk1 := ty_town3 hT
  refine e_body (ls0 := [.inr 1, .inl (s), x_un, x_un]) xm50 rfl ?_
  refine e_iconst (k := 0) (xi50 0) ?_
  refine e_istore (k := 1) (xi50 1) (Nat.le_of_ble_eq_true rfl) ?_
  show x_Ev 50 2 [.inr 1, .inl (s), .inl 0, x_un] [] (0, 0) (z, P, M) _
  refine e_iconst (k := 2) (xi50 2) ?_
  refine e_istore (k := 3) (xi50 3) (Nat.le_of_ble_eq_true rfl) ?_
  show x_Ev 50 4 [.inr 1, .inl (s), .inl 0, .inl 0] [] (0, 0) (z, P, M) _
  refine kl_movableAt_a hS hT s     61 0 0 (by omega) (by omega) ?_
  intro q2
  show x_Ev 50 26 [.inr 1, .inl (s), .inl ((l_movableAt_a s M 61 0 0).1), .inl ((l_movableAt_a s M 61 0 0).2)] [] (0, 0) (z, P, M) _
  refine e_iload (k := 26) (xi50 26) rfl ?_
  refine e_iret (k := 27) (xi50 27) ?_
  exact y_fV (Q := fun v => 0 ≤ v ∧ v ≤ 60) (show v_movableAt s M = (l_movableAt_a s M 61 0 0).1 from rfl) (by omega)
def v_surplusAt (s : Int) (M : Int → Int → Int) : Int := if ¬ M (3 + 7 * s) 6 = (-1) then v_movableAt s M - M (3 + 7 * s) 6 else 0
theorem k_surplusAt {z : Int} {P M : Int → Int → Int} (hS : x_Sh z P) (hT : y_TC M) (s : Int) (hs : 0 ≤ s ∧ s < 12)  : x_CallR 51 [.inr 1, .inr (3 + 7 * s)] (z, P, M) (fun q => q = (some (.inl (v_surplusAt s M)), (z, P, M)) ∧ (fun v => -12 ≤ v ∧ v ≤ 60) (v_surplusAt s M)) := by
  refine e_body (ls0 := [.inr 1, .inr (3 + 7 * s)]) xm51 rfl ?_
  refine e_aload (k := 0) (xi51 0) rfl (by omega) ?_
  have t1 := ty_st6 hT hs
  refine e_getI (j := 6) (w := M (3 + 7 * s) 6) (k := 1) (xi51 1) (ok_st hS hs) rfl rfl ?_
  refine e_iconst (k := 2) (xi51 2) ?_
  refine e_c_ne (k := 3) (xi51 3) (fun c0 => ?_) (fun c0 => ?_)
  · skip
    refine e_aload (k := 6) (xi51 6) rfl (by decide) ?_
    refine e_aload (k := 7) (xi51 7) rfl (by omega) ?_
    refine e_getI (j := 0) (w := s) (k := 8) (xi51 8) (ok_st hS hs) rfl ((nu_st hT hs)) ?_
    refine e_callR (k := 9) (c1 := 0) (c2 := 0) (rest := []) (as := [.inr 1, .inl (s)]) (xi51 9) (by decide) xm50 rfl ⟨rfl, Nat.le_of_ble_eq_true rfl, by decide⟩ (Or.inr (x_okt (ok_town hS))) (k_movableAt hS hT s  ) ?_
    rintro v_ h_ ⟨e2, q4⟩
    cases e2
    show x_Ev 51 10 [.inr 1, .inr (3 + 7 * s)] [.inl (v_movableAt s M)] (0, 0) (z, P, M) _
    refine e_aload (k := 10) (xi51 10) rfl (by omega) ?_
    refine e_getI (j := 6) (w := M (3 + 7 * s) 6) (k := 11) (xi51 11) (ok_st hS hs) rfl rfl ?_
    refine e_isub (w := v_movableAt s M - M (3 + 7 * s) 6) (k := 12) (xi51 12) (x_wn (by omega)) ?_
    refine e_iret (k := 13) (xi51 13) ?_
    exact y_fV (Q := fun v => -12 ≤ v ∧ v ≤ 60) (show v_surplusAt s M = v_movableAt s M - M (3 + 7 * s) 6 from by rw [v_surplusAt, if_pos c0]) (by omega)
  · skip
    refine e_iconst (k := 4) (xi51 4) ?_
    refine e_goto (k := 5) (xi51 5) ?_
    refine e_iret (k := 13) (xi51 13) ?_
    exact y_fV (Q := fun v => -12 ≤ v ∧ v ≤ 60) (show v_surplusAt s M = 0 from by rw [v_surplusAt, if_neg c0]) (by omega)
def v_lengthBetween (a b : Int) (M : Int → Int → Int) : Int := if 0 ≤ a ∧ a < M 1 1 then v_lengthTo a b M else 999
theorem k_lengthBetween {z : Int} {P M : Int → Int → Int} (hS : x_Sh z P) (hT : y_TC M) (a : Int) (b : Int)   : x_CallR 52 [.inr 1, .inl (a), .inl (b)] (z, P, M) (fun q => q = (some (.inl (v_lengthBetween a b M)), (z, P, M)) ∧ (fun v => 0 ≤ v ∧ v ≤ 999) (v_lengthBetween a b M)) := by
  refine e_body (ls0 := [.inr 1, .inl (a), .inl (b), x_un]) xm52 rfl ?_
  refine e_aload (k := 0) (xi52 0) rfl (by decide) ?_
  refine e_iload (k := 1) (xi52 1) rfl ?_
  have t1 := ty_town1 hT 
  by_cases c0 : 0 ≤ a ∧ a < M 1 1
  · skip
    refine e_call (k := 2) (v := some (.inr (3 + 7 * a))) (h1 := (z, P, M)) (c1 := 0) (c2 := 0) (rest := []) (as := [.inr 1, .inl (a)]) (xi52 2) (by decide) xm40 rfl ⟨rfl, Nat.le_of_ble_eq_true rfl, by decide⟩ (Or.inr (x_okt (ok_town hS))) (k_standAtT hS hT a c0) ?_
    refine e_astore (k := 3) (xi52 3) (Nat.le_of_ble_eq_true rfl) (by omega) ?_
    show x_Ev 52 4 [.inr 1, .inl (a), .inl (b), .inr (3 + 7 * a)] [] (0, 0) (z, P, M) _
    refine e_aload (k := 4) (xi52 4) rfl (by omega) ?_
    refine e_ifnonnull (k := 5) (xi52 5) (by omega) (fun _ => ?_) (fun q => absurd q (by omega))
    refine e_aload (k := 8) (xi52 8) rfl (by omega) ?_
    refine e_iload (k := 9) (xi52 9) rfl ?_
    refine e_callR (k := 10) (c1 := 0) (c2 := 0) (rest := []) (as := [.inr (3 + 7 * a), .inl (b)]) (xi52 10) (by decide) xm20 rfl ⟨rfl, Nat.le_of_ble_eq_true rfl, by decide⟩ (Or.inr (x_okt (ok_st hS (show 0 ≤ a ∧ a < 12 by omega)))) (k_lengthTo hS hT a b (show 0 ≤ a ∧ a < 12 by omega) ) ?_
    rintro v_ h_ ⟨e2, q4⟩
    cases e2
    show x_Ev 52 11 [.inr 1, .inl (a), .inl (b), .inr (3 + 7 * a)] [.inl (v_lengthTo a b M)] (0, 0) (z, P, M) _
    refine e_iret (k := 11) (xi52 11) ?_
    exact y_fV (Q := fun v => 0 ≤ v ∧ v ≤ 999) (show v_lengthBetween a b M = v_lengthTo a b M from by rw [v_lengthBetween, if_pos c0]) (by omega)
  · skip
    refine e_call (k := 2) (v := some (.inr (-1))) (h1 := (z, P, M)) (c1 := 0) (c2 := 0) (rest := []) (as := [.inr 1, .inl (a)]) (xi52 2) (by decide) xm40 rfl ⟨rfl, Nat.le_of_ble_eq_true rfl, by decide⟩ (Or.inr (x_okt (ok_town hS))) (k_standAtF hS hT a c0) ?_
    refine e_astore (k := 3) (xi52 3) (Nat.le_of_ble_eq_true rfl) (by decide) ?_
    show x_Ev 52 4 [.inr 1, .inl (a), .inl (b), .inr (-1)] [] (0, 0) (z, P, M) _
    refine e_aload (k := 4) (xi52 4) rfl (by decide) ?_
    refine e_ifnonnull (k := 5) (xi52 5) (by omega) (fun q => absurd (by omega) q) (fun _ => ?_)
    refine e_iconst (k := 6) (xi52 6) ?_
    refine e_goto (k := 7) (xi52 7) ?_
    refine e_iret (k := 11) (xi52 11) ?_
    exact y_fV (Q := fun v => 0 ≤ v ∧ v ≤ 999) (show v_lengthBetween a b M = 999 from by rw [v_lengthBetween, if_neg c0]) (by omega)
def l_nearestLength_a (s : Int) (M : Int → Int → Int) : Nat → Int → Int → Int × Int
  | 0, m, i => (m, i)
  | k + 1, m, i => if M 1 1 ≤ i then (m, i) else if i = s then l_nearestLength_a s M k m (1 + i) else l_nearestLength_a s M k (min m (v_lengthBetween s i M)) (1 + i)
theorem kl_nearestLength_a {z : Int} {P M : Int → Int → Int} {r : Option xV × xH → Prop} (hS : x_Sh z P) (hT : y_TC M) (s : Int)    : ∀ k : Nat, ∀ m : Int, ∀ i : Int, ((0 ≤ m ∧ m ≤ 1000) ∧ 0 ≤ i ∧ i ≤ M 1 1) → 12 - i < (k : Int) → (0 ≤ ((l_nearestLength_a s M k m i).1) ∧ ((l_nearestLength_a s M k m i).1) ≤ 1000 → x_Ev 53 20 [.inr 1, .inl (s), .inl ((l_nearestLength_a s M k m i).1), .inl ((l_nearestLength_a s M k m i).2)] [] (0, 0) (z, P, M) r) → x_Ev 53 4 [.inr 1, .inl (s), .inl (m), .inl (i)] [] (0, 0) (z, P, M) r := by
  have hk1 := ty_town1 hT
  intro k
  induction k with
  | zero => intro m i hi hm; omega
  | succ k ih =>
    intro m i hi hm kk
    refine e_iload (k := 4) (xi53 4) rfl ?_
    refine e_aload (k := 5) (xi53 5) rfl (by decide) ?_
    have t1 := ty_town1 hT 
    refine e_getI (j := 1) (w := M 1 1) (k := 6) (xi53 6) (ok_town hS) rfl rfl ?_
    refine e_c_ge (k := 7) (xi53 7) (fun c0 => ?_) (fun c0 => ?_)
    · skip
      rw [(show l_nearestLength_a s M (k + 1) m i = (m, i) from by rw [l_nearestLength_a, if_pos c0])] at kk
      try dsimp only at kk
      exact kk (by first | exact trivial | omega)
    · skip
      refine e_iload (k := 8) (xi53 8) rfl ?_
      refine e_iload (k := 9) (xi53 9) rfl ?_
      refine e_c_eq (k := 10) (xi53 10) (fun c1 => ?_) (fun c1 => ?_)
      · skip
        refine e_iinc (w := 1 + i) (k := 18) (xi53 18) rfl (x_wn (by omega)) ?_
        show x_Ev 53 19 [.inr 1, .inl (s), .inl (m), .inl (1 + i)] [] (0, 0) (z, P, M) _
        refine e_goto (k := 19) (xi53 19) ?_
        rw [(show l_nearestLength_a s M (k + 1) m i = l_nearestLength_a s M k m (1 + i) from by rw [l_nearestLength_a, if_neg c0, if_pos c1])] at kk
        exact ih m (1 + i) (by omega) (by omega) kk
      · skip
        refine e_iload (k := 11) (xi53 11) rfl ?_
        refine e_aload (k := 12) (xi53 12) rfl (by decide) ?_
        refine e_iload (k := 13) (xi53 13) rfl ?_
        refine e_iload (k := 14) (xi53 14) rfl ?_
        refine e_callR (k := 15) (c1 := 0) (c2 := 0) (rest := [.inl (m)]) (as := [.inr 1, .inl (s), .inl (i)]) (xi53 15) (by decide) xm52 rfl ⟨rfl, Nat.le_of_ble_eq_true rfl, by decide⟩ (Or.inr (x_okt (ok_town hS))) (k_lengthBetween hS hT s i  ) ?_
        rintro v_ h_ ⟨e2, q4⟩
        cases e2
        show x_Ev 53 16 [.inr 1, .inl (s), .inl (m), .inl (i)] [.inl (v_lengthBetween s i M), .inl (m)] (0, 0) (z, P, M) _
        refine e_min (k := 16) (xi53 16) (Nat.le_of_ble_eq_true rfl) ?_
        refine e_istore (k := 17) (xi53 17) (Nat.le_of_ble_eq_true rfl) ?_
        show x_Ev 53 18 [.inr 1, .inl (s), .inl (min m (v_lengthBetween s i M)), .inl (i)] [] (0, 0) (z, P, M) _
        refine e_iinc (w := 1 + i) (k := 18) (xi53 18) rfl (x_wn (by omega)) ?_
        show x_Ev 53 19 [.inr 1, .inl (s), .inl (min m (v_lengthBetween s i M)), .inl (1 + i)] [] (0, 0) (z, P, M) _
        refine e_goto (k := 19) (xi53 19) ?_
        rw [(show l_nearestLength_a s M (k + 1) m i = l_nearestLength_a s M k (min m (v_lengthBetween s i M)) (1 + i) from by rw [l_nearestLength_a, if_neg c0, if_neg c1])] at kk
        exact ih (min m (v_lengthBetween s i M)) (1 + i) (by omega) (by omega) kk
def v_nearestLength (s : Int) (M : Int → Int → Int) : Int := if (l_nearestLength_a s M 13 1000 0).1 ≤ 999 then (l_nearestLength_a s M 13 1000 0).1 else 0
theorem k_nearestLength {z : Int} {P M : Int → Int → Int} (hS : x_Sh z P) (hT : y_TC M) (s : Int)   : x_CallR 53 [.inr 1, .inl (s)] (z, P, M) (fun q => q = (some (.inl (v_nearestLength s M)), (z, P, M)) ∧ (fun v => 0 ≤ v ∧ v ≤ 999) (v_nearestLength s M)) := by
  have hk1 := ty_town1 hT
  refine e_body (ls0 := [.inr 1, .inl (s), x_un, x_un]) xm53 rfl ?_
  refine e_iconst (k := 0) (xi53 0) ?_
  refine e_istore (k := 1) (xi53 1) (Nat.le_of_ble_eq_true rfl) ?_
  show x_Ev 53 2 [.inr 1, .inl (s), .inl 1000, x_un] [] (0, 0) (z, P, M) _
  refine e_iconst (k := 2) (xi53 2) ?_
  refine e_istore (k := 3) (xi53 3) (Nat.le_of_ble_eq_true rfl) ?_
  show x_Ev 53 4 [.inr 1, .inl (s), .inl 1000, .inl 0] [] (0, 0) (z, P, M) _
  refine kl_nearestLength_a hS hT s     13 1000 0 (by omega) (by omega) ?_
  intro q2
  show x_Ev 53 20 [.inr 1, .inl (s), .inl ((l_nearestLength_a s M 13 1000 0).1), .inl ((l_nearestLength_a s M 13 1000 0).2)] [] (0, 0) (z, P, M) _
  refine e_iload (k := 20) (xi53 20) rfl ?_
  refine e_iconst (k := 21) (xi53 21) ?_
  refine e_c_le (k := 22) (xi53 22) (fun c0 => ?_) (fun c0 => ?_)
  · skip
    refine e_iload (k := 25) (xi53 25) rfl ?_
    refine e_iret (k := 26) (xi53 26) ?_
    exact y_fV (Q := fun v => 0 ≤ v ∧ v ≤ 999) (show v_nearestLength s M = (l_nearestLength_a s M 13 1000 0).1 from by rw [v_nearestLength, if_pos c0]) (by omega)
  · skip
    refine e_iconst (k := 23) (xi53 23) ?_
    refine e_goto (k := 24) (xi53 24) ?_
    refine e_iret (k := 26) (xi53 26) ?_
    exact y_fV (Q := fun v => 0 ≤ v ∧ v ≤ 999) (show v_nearestLength s M = 0 from by rw [v_nearestLength, if_neg c0]) (by omega)
def u_putInDock (w s d : Int) (M : Int → Int → Int) : Int → Int → Int := (u_moveTo w 0 s d ((u_fill s d (y_sz (M (88 + w) 1)) w M)))
theorem k_putInDock {z : Int} {P M : Int → Int → Int} (hS : x_Sh z P) (hT : y_TC M) (w : Int) (s : Int) (d : Int) (hw : 0 ≤ w ∧ w < 60) (hs : 0 ≤ s ∧ s < 12) (hd : -1 ≤ d ∧ d ≤ 11) : x_CallR 54 [.inr 1, .inr (88 + w), .inr (3 + 7 * s), .inl (d)] (z, P, M) (fun q => q = (none, (z, P, u_putInDock w s d M)) ∧ y_TL 0 M (u_putInDock w s d M)) := by
  have tl0 : y_TL 0 M M := tl_refl hT
  refine e_body (ls0 := [.inr 1, .inr (88 + w), .inr (3 + 7 * s), .inl (d)]) xm54 rfl ?_
  refine e_aload (k := 0) (xi54 0) rfl (by omega) ?_
  refine e_iload (k := 1) (xi54 1) rfl ?_
  refine e_aload (k := 2) (xi54 2) rfl (by omega) ?_
  have s1 := y_sz_in ((M (88 + w) 1))
  refine e_call (k := 3) (v := some (.inl (y_sz (M (88 + w) 1)))) (h1 := (z, P, M)) (c1 := 0) (c2 := 0) (rest := [.inl (d), .inr (3 + 7 * s)]) (as := [.inr (88 + w)]) (xi54 3) (by decide) xm70 rfl ⟨rfl, Nat.le_of_ble_eq_true rfl, by decide⟩ (Or.inr (x_okt (ok_wh hS hw))) (k_size hS tl0.1 w hw ) ?_
  refine e_aload (k := 4) (xi54 4) rfl (by omega) ?_
  refine e_getI (j := 0) (w := w) (k := 5) (xi54 5) (ok_wh hS hw) rfl ((nu_wh tl0.1 hw)) ?_
  refine e_callR (k := 6) (c1 := 0) (c2 := 0) (rest := []) (as := [.inr (3 + 7 * s), .inl (d), .inl (y_sz (M (88 + w) 1)), .inl (w)]) (xi54 6) (by decide) xm26 rfl ⟨rfl, Nat.le_of_ble_eq_true rfl, by decide⟩ (Or.inr (x_okt (ok_st hS hs))) (k_fill hS tl0.1 s d (y_sz (M (88 + w) 1)) w hs (by omega) (by omega) (by omega)) ?_
  rintro v_ h_ ⟨e2, tl3⟩
  cases e2
  have tl5 := tl_trans tl0 (tl3)
  have n6 := tl_n tl3
  show x_Ev 54 7 [.inr 1, .inr (88 + w), .inr (3 + 7 * s), .inl (d)] [] (0, 0) (z, P, (u_fill s d (y_sz (M (88 + w) 1)) w M)) _
  refine e_aload (k := 7) (xi54 7) rfl (by omega) ?_
  refine e_iconst (k := 8) (xi54 8) ?_
  refine e_aload (k := 9) (xi54 9) rfl (by omega) ?_
  refine e_getI (j := 0) (w := s) (k := 10) (xi54 10) (ok_st hS hs) rfl ((nu_st tl5.1 hs)) ?_
  refine e_iload (k := 11) (xi54 11) rfl ?_
  refine e_callR (k := 12) (c1 := 0) (c2 := 0) (rest := []) (as := [.inr (88 + w), .inl 0, .inl (s), .inl (d)]) (xi54 12) (by decide) xm68 rfl ⟨rfl, Nat.le_of_ble_eq_true rfl, by decide⟩ (Or.inr (x_okt (ok_wh hS hw))) (k_moveTo hS tl5.1 w 0 s d hw (by omega) (by omega) (by omega)) ?_
  rintro v_ h_ ⟨e7, tl8⟩
  cases e7
  have tl10 := tl_trans tl5 (tl8)
  have n11 := tl_n tl8
  show x_Ev 54 13 [.inr 1, .inr (88 + w), .inr (3 + 7 * s), .inl (d)] [] (0, 0) (z, P, (u_moveTo w 0 s d ((u_fill s d (y_sz (M (88 + w) 1)) w M)))) _
  refine e_vret (k := 13) (xi54 13) ?_
  exact y_fU (show u_putInDock w s d M = (u_moveTo w 0 s d ((u_fill s d (y_sz (M (88 + w) 1)) w M))) from rfl) tl10
def u_clearDock (w : Int) (M : Int → Int → Int) : Int → Int → Int := if 0 ≤ (M (88 + w) 4) ∧ (M (88 + w) 4) < M 1 1 then (if ¬ M (88 + w) 3 = 0 then M else (u_fill ((M (88 + w) 4)) (M (88 + w) 5) (y_sz (M (88 + w) 1)) ((-1)) M)) else M
theorem k_clearDock {z : Int} {P M : Int → Int → Int} (hS : x_Sh z P) (hT : y_TC M) (w : Int) (hw : 0 ≤ w ∧ w < 60)  : x_CallR 55 [.inr 1, .inr (88 + w)] (z, P, M) (fun q => q = (none, (z, P, u_clearDock w M)) ∧ y_TL 0 M (u_clearDock w M)) := by
  have tl0 : y_TL 0 M M := tl_refl hT
  refine e_body (ls0 := [.inr 1, .inr (88 + w), x_un]) xm55 rfl ?_
  refine e_aload (k := 0) (xi55 0) rfl (by decide) ?_
  refine e_aload (k := 1) (xi55 1) rfl (by omega) ?_
  have t1 := ty_wh4 tl0.1 hw
  refine e_getI (j := 4) (w := M (88 + w) 4) (k := 2) (xi55 2) (ok_wh hS hw) rfl rfl ?_
  have t2 := ty_town1 tl0.1 
  by_cases c0 : 0 ≤ (M (88 + w) 4) ∧ (M (88 + w) 4) < M 1 1
  · skip
    refine e_call (k := 3) (v := some (.inr (3 + 7 * ((M (88 + w) 4))))) (h1 := (z, P, M)) (c1 := 0) (c2 := 0) (rest := []) (as := [.inr 1, .inl (M (88 + w) 4)]) (xi55 3) (by decide) xm40 rfl ⟨rfl, Nat.le_of_ble_eq_true rfl, by decide⟩ (Or.inr (x_okt (ok_town hS))) (k_standAtT hS tl0.1 (M (88 + w) 4) c0) ?_
    refine e_astore (k := 4) (xi55 4) (Nat.le_of_ble_eq_true rfl) (by omega) ?_
    show x_Ev 55 5 [.inr 1, .inr (88 + w), .inr (3 + 7 * ((M (88 + w) 4)))] [] (0, 0) (z, P, M) _
    refine e_aload (k := 5) (xi55 5) rfl (by omega) ?_
    refine e_ifnull (k := 6) (xi55 6) (by omega) (fun q => absurd q (by omega)) (fun _ => ?_)
    refine e_aload (k := 7) (xi55 7) rfl (by omega) ?_
    have t3 := ty_wh3 tl0.1 hw
    refine e_getI (j := 3) (w := M (88 + w) 3) (k := 8) (xi55 8) (ok_wh hS hw) rfl rfl ?_
    refine e_z_ne (k := 9) (xi55 9) (fun c1 => ?_) (fun c1 => ?_)
    · skip
      refine e_vret (k := 17) (xi55 17) ?_
      exact y_fU (show u_clearDock w M = M from by rw [u_clearDock, if_pos c0, if_pos c1]) tl0
    · skip
      refine e_aload (k := 10) (xi55 10) rfl (by omega) ?_
      refine e_aload (k := 11) (xi55 11) rfl (by omega) ?_
      have t4 := ty_wh5 tl0.1 hw
      refine e_getI (j := 5) (w := M (88 + w) 5) (k := 12) (xi55 12) (ok_wh hS hw) rfl rfl ?_
      refine e_aload (k := 13) (xi55 13) rfl (by omega) ?_
      have s5 := y_sz_in ((M (88 + w) 1))
      refine e_call (k := 14) (v := some (.inl (y_sz (M (88 + w) 1)))) (h1 := (z, P, M)) (c1 := 0) (c2 := 0) (rest := [.inl (M (88 + w) 5), .inr (3 + 7 * ((M (88 + w) 4)))]) (as := [.inr (88 + w)]) (xi55 14) (by decide) xm70 rfl ⟨rfl, Nat.le_of_ble_eq_true rfl, by decide⟩ (Or.inr (x_okt (ok_wh hS hw))) (k_size hS tl0.1 w hw ) ?_
      refine e_iconst (k := 15) (xi55 15) ?_
      refine e_callR (k := 16) (c1 := 0) (c2 := 0) (rest := []) (as := [.inr (3 + 7 * ((M (88 + w) 4))), .inl (M (88 + w) 5), .inl (y_sz (M (88 + w) 1)), .inl ((-1))]) (xi55 16) (by decide) xm26 rfl ⟨rfl, Nat.le_of_ble_eq_true rfl, by decide⟩ (Or.inr (x_okt (ok_st hS (show 0 ≤ (M (88 + w) 4) ∧ (M (88 + w) 4) < 12 by omega)))) (k_fill hS tl0.1 ((M (88 + w) 4)) (M (88 + w) 5) (y_sz (M (88 + w) 1)) ((-1)) (show 0 ≤ (M (88 + w) 4) ∧ (M (88 + w) 4) < 12 by omega) (by omega) (by omega) (by omega)) ?_
      rintro v_ h_ ⟨e6, tl7⟩
      cases e6
      have tl9 := tl_trans tl0 (tl7)
      have n10 := tl_n tl7
      show x_Ev 55 17 [.inr 1, .inr (88 + w), .inr (3 + 7 * ((M (88 + w) 4)))] [] (0, 0) (z, P, (u_fill ((M (88 + w) 4)) (M (88 + w) 5) (y_sz (M (88 + w) 1)) ((-1)) M)) _
      refine e_vret (k := 17) (xi55 17) ?_
      exact y_fU (show u_clearDock w M = (u_fill ((M (88 + w) 4)) (M (88 + w) 5) (y_sz (M (88 + w) 1)) ((-1)) M) from by rw [u_clearDock, if_pos c0, if_neg c1]) tl9
  · skip
    refine e_call (k := 3) (v := some (.inr (-1))) (h1 := (z, P, M)) (c1 := 0) (c2 := 0) (rest := []) (as := [.inr 1, .inl (M (88 + w) 4)]) (xi55 3) (by decide) xm40 rfl ⟨rfl, Nat.le_of_ble_eq_true rfl, by decide⟩ (Or.inr (x_okt (ok_town hS))) (k_standAtF hS tl0.1 (M (88 + w) 4) c0) ?_
    refine e_astore (k := 4) (xi55 4) (Nat.le_of_ble_eq_true rfl) (by decide) ?_
    show x_Ev 55 5 [.inr 1, .inr (88 + w), .inr (-1)] [] (0, 0) (z, P, M) _
    refine e_aload (k := 5) (xi55 5) rfl (by decide) ?_
    refine e_ifnull (k := 6) (xi55 6) (by omega) (fun _ => ?_) (fun q => absurd (by omega) q)
    refine e_vret (k := 17) (xi55 17) ?_
    exact y_fU (show u_clearDock w M = M from by rw [u_clearDock, if_neg c0]) tl0
def v_addWheel (kd s d : Int) (M : Int → Int → Int) : Int := if M 1 3 < 60 then M 1 3 else (-1)
def u_addWheel (kd s d : Int) (M : Int → Int → Int) : Int → Int → Int := if M 1 3 < 60 then (x_up ((u_putInDock (M 1 3) s d ((u_wSetUp (M 1 3) kd M)))) 1 3 (1 + ((u_putInDock (M 1 3) s d ((u_wSetUp (M 1 3) kd M)))) 1 3)) else M
theorem k_addWheel {z : Int} {P M : Int → Int → Int} (hS : x_Sh z P) (hT : y_TC M) (kd : Int) (s : Int) (d : Int) (hs : 0 ≤ s ∧ s < 12) (hkd : 0 ≤ kd ∧ kd ≤ 3) (hd : -1 ≤ d ∧ d ≤ 11) : x_CallR 45 [.inr 1, .inl (kd), .inr (3 + 7 * s), .inl (d)] (z, P, M) (fun q => q = (some (.inl (v_addWheel kd s d M)), (z, P, u_addWheel kd s d M)) ∧ y_TL 9 M (u_addWheel kd s d M) ∧ True) := by
  have tl0 : y_TL 9 M M := tl_refl hT
  refine e_body (ls0 := [.inr 1, .inl (kd), .inr (3 + 7 * s), .inl (d), x_un]) xm45 rfl ?_
  refine e_aload (k := 0) (xi45 0) rfl (by decide) ?_
  have t1 := ty_town3 tl0.1 
  refine e_getI (j := 3) (w := M 1 3) (k := 1) (xi45 1) (ok_town hS) rfl rfl ?_
  refine e_iconst (k := 2) (xi45 2) ?_
  refine e_c_lt (k := 3) (xi45 3) (fun c0 => ?_) (fun c0 => ?_)
  · skip
    refine e_aload (k := 6) (xi45 6) rfl (by decide) ?_
    refine e_getR (j := 2) (w := 87) (k := 7) (xi45 7) (ok_town hS) rfl (sh_whs hS) ?_
    refine e_aload (k := 8) (xi45 8) rfl (by decide) ?_
    refine e_getI (j := 3) (w := M 1 3) (k := 9) (xi45 9) (ok_town hS) rfl rfl ?_
    refine e_aald (w := 88 + (M 1 3)) (k := 10) (xi45 10) (x_ok4 (ok_whs hS) (by decide)) (by rw [ln_whs]; omega) (sh_wh hS (show 0 ≤ M 1 3 ∧ M 1 3 < 60 by omega)) ?_
    refine e_astore (k := 11) (xi45 11) (Nat.le_of_ble_eq_true rfl) (by omega) ?_
    show x_Ev 45 12 [.inr 1, .inl (kd), .inr (3 + 7 * s), .inl (d), .inr (88 + (M 1 3))] [] (0, 0) (z, P, M) _
    refine e_aload (k := 12) (xi45 12) rfl (by omega) ?_
    refine e_iload (k := 13) (xi45 13) rfl ?_
    refine e_callR (k := 14) (c1 := 0) (c2 := 0) (rest := []) (as := [.inr (88 + (M 1 3)), .inl (kd)]) (xi45 14) (by decide) xm66 rfl ⟨rfl, Nat.le_of_ble_eq_true rfl, by decide⟩ (Or.inr (x_okt (ok_wh hS (show 0 ≤ M 1 3 ∧ M 1 3 < 60 by omega)))) (k_wSetUp hS tl0.1 (M 1 3) kd (show 0 ≤ M 1 3 ∧ M 1 3 < 60 by omega) (by omega)) ?_
    rintro v_ h_ ⟨e2, tl3⟩
    cases e2
    have tl5 := tl_trans tl0 (tl_90 tl3)
    have n6 := tl_n tl3
    show x_Ev 45 15 [.inr 1, .inl (kd), .inr (3 + 7 * s), .inl (d), .inr (88 + (M 1 3))] [] (0, 0) (z, P, (u_wSetUp (M 1 3) kd M)) _
    refine e_aload (k := 15) (xi45 15) rfl (by decide) ?_
    refine e_aload (k := 16) (xi45 16) rfl (by omega) ?_
    refine e_aload (k := 17) (xi45 17) rfl (by omega) ?_
    refine e_iload (k := 18) (xi45 18) rfl ?_
    refine e_callR (k := 19) (c1 := 0) (c2 := 0) (rest := []) (as := [.inr 1, .inr (88 + (M 1 3)), .inr (3 + 7 * s), .inl (d)]) (xi45 19) (by decide) xm54 rfl ⟨rfl, Nat.le_of_ble_eq_true rfl, by decide⟩ (Or.inr (x_okt (ok_town hS))) (k_putInDock hS tl5.1 (M 1 3) s d (show 0 ≤ M 1 3 ∧ M 1 3 < 60 by omega) hs (by omega)) ?_
    rintro v_ h_ ⟨e7, tl8⟩
    cases e7
    have tl10 := tl_trans tl5 (tl_90 tl8)
    have n11 := tl_n tl8
    show x_Ev 45 20 [.inr 1, .inl (kd), .inr (3 + 7 * s), .inl (d), .inr (88 + (M 1 3))] [] (0, 0) (z, P, (u_putInDock (M 1 3) s d ((u_wSetUp (M 1 3) kd M)))) _
    refine e_aload (k := 20) (xi45 20) rfl (by decide) ?_
    refine e_dup (k := 21) (xi45 21) ?_
    have t12 := ty_town3 tl10.1 
    refine e_getI (j := 3) (w := ((u_putInDock (M 1 3) s d ((u_wSetUp (M 1 3) kd M)))) 1 3) (k := 22) (xi45 22) (ok_town hS) rfl rfl ?_
    refine e_iconst (k := 23) (xi45 23) ?_
    refine e_iadd (w := 1 + ((u_putInDock (M 1 3) s d ((u_wSetUp (M 1 3) kd M)))) 1 3) (k := 24) (xi45 24) (x_wn (by omega)) ?_
    refine e_putI (j := 3) (k := 25) (xi45 25) (ok_town hS) rfl ?_
    have tl13 : y_TL 9 M (x_up ((u_putInDock (M 1 3) s d ((u_wSetUp (M 1 3) kd M)))) 1 3 (1 + ((u_putInDock (M 1 3) s d ((u_wSetUp (M 1 3) kd M)))) 1 3)) := tl_up tl10 (sl_town3  (by omega)) (nf9)
    refine e_aload (k := 26) (xi45 26) rfl (by omega) ?_
    refine e_getI (j := 0) (w := M 1 3) (k := 27) (xi45 27) (ok_wh hS (show 0 ≤ M 1 3 ∧ M 1 3 < 60 by omega)) rfl (((x_up_ne (by omega)).trans ((nu_wh tl10.1 (show 0 ≤ M 1 3 ∧ M 1 3 < 60 by omega))))) ?_
    refine e_iret (k := 28) (xi45 28) ?_
    exact y_fW (Q := fun _ => True) (show v_addWheel kd s d M = M 1 3 from by rw [v_addWheel, if_pos c0]) (show u_addWheel kd s d M = (x_up ((u_putInDock (M 1 3) s d ((u_wSetUp (M 1 3) kd M)))) 1 3 (1 + ((u_putInDock (M 1 3) s d ((u_wSetUp (M 1 3) kd M)))) 1 3)) from by rw [u_addWheel, if_pos c0]) tl13 trivial
  · skip
    refine e_iconst (k := 4) (xi45 4) ?_
    refine e_iret (k := 5) (xi45 5) ?_
    exact y_fW (Q := fun _ => True) (show v_addWheel kd s d M = (-1) from by rw [v_addWheel, if_neg c0]) (show u_addWheel kd s d M = M from by rw [u_addWheel, if_neg c0]) tl0 trivial
def v_addCart (l s : Int) (M : Int → Int → Int) : Int := if M 1 5 < 3 then ((u_cSetUp (M 1 5) l s M)) 1 5 else (-1)
def u_addCart (l s : Int) (M : Int → Int → Int) : Int → Int → Int := if M 1 5 < 3 then (x_up ((u_cSetUp (M 1 5) l s M)) 1 5 (1 + ((u_cSetUp (M 1 5) l s M)) 1 5)) else M
theorem k_addCart {z : Int} {P M : Int → Int → Int} (hS : x_Sh z P) (hT : y_TC M) (l : Int) (s : Int)  (hl : 1 ≤ l ∧ l ≤ 8) (hs : 0 ≤ s ∧ s ≤ 11) : x_CallR 46 [.inr 1, .inl (l), .inl (s)] (z, P, M) (fun q => q = (some (.inl (v_addCart l s M)), (z, P, u_addCart l s M)) ∧ y_TL 2 M (u_addCart l s M) ∧ True) := by
  have tl0 : y_TL 2 M M := tl_refl hT
  refine e_body (ls0 := [.inr 1, .inl (l), .inl (s)]) xm46 rfl ?_
  refine e_aload (k := 0) (xi46 0) rfl (by decide) ?_
  have t1 := ty_town5 tl0.1 
  refine e_getI (j := 5) (w := M 1 5) (k := 1) (xi46 1) (ok_town hS) rfl rfl ?_
  refine e_iconst (k := 2) (xi46 2) ?_
  refine e_c_lt (k := 3) (xi46 3) (fun c0 => ?_) (fun c0 => ?_)
  · skip
    refine e_aload (k := 6) (xi46 6) rfl (by decide) ?_
    refine e_getR (j := 4) (w := 148) (k := 7) (xi46 7) (ok_town hS) rfl (sh_cas hS) ?_
    refine e_aload (k := 8) (xi46 8) rfl (by decide) ?_
    refine e_getI (j := 5) (w := M 1 5) (k := 9) (xi46 9) (ok_town hS) rfl rfl ?_
    refine e_aald (w := 149 + 2 * (M 1 5)) (k := 10) (xi46 10) (x_ok4 (ok_cas hS) (by decide)) (by rw [ln_cas]; omega) (sh_ca hS (show 0 ≤ M 1 5 ∧ M 1 5 < 3 by omega)) ?_
    refine e_iload (k := 11) (xi46 11) rfl ?_
    refine e_iload (k := 12) (xi46 12) rfl ?_
    refine e_callR (k := 13) (c1 := 0) (c2 := 0) (rest := []) (as := [.inr (149 + 2 * (M 1 5)), .inl (l), .inl (s)]) (xi46 13) (by decide) xm1 rfl ⟨rfl, Nat.le_of_ble_eq_true rfl, by decide⟩ (Or.inr (x_okt (ok_ca hS (show 0 ≤ M 1 5 ∧ M 1 5 < 3 by omega)))) (k_cSetUp hS tl0.1 (M 1 5) l s (show 0 ≤ M 1 5 ∧ M 1 5 < 3 by omega) (by omega) (by omega)) ?_
    rintro v_ h_ ⟨e2, tl3⟩
    cases e2
    have tl5 := tl_trans tl0 (tl_20 tl3)
    have n6 := tl_n tl3
    show x_Ev 46 14 [.inr 1, .inl (l), .inl (s)] [] (0, 0) (z, P, (u_cSetUp (M 1 5) l s M)) _
    refine e_aload (k := 14) (xi46 14) rfl (by decide) ?_
    refine e_dup (k := 15) (xi46 15) ?_
    have t7 := ty_town5 tl5.1 
    refine e_getI (j := 5) (w := ((u_cSetUp (M 1 5) l s M)) 1 5) (k := 16) (xi46 16) (ok_town hS) rfl rfl ?_
    refine e_iconst (k := 17) (xi46 17) ?_
    refine e_iadd (w := 1 + ((u_cSetUp (M 1 5) l s M)) 1 5) (k := 18) (xi46 18) (x_wn (by omega)) ?_
    refine e_putI (j := 5) (k := 19) (xi46 19) (ok_town hS) rfl ?_
    have tl8 : y_TL 2 M (x_up ((u_cSetUp (M 1 5) l s M)) 1 5 (1 + ((u_cSetUp (M 1 5) l s M)) 1 5)) := tl_up tl5 (sl_town5  (by omega)) (nf2 (by omega))
    refine e_aload (k := 20) (xi46 20) rfl (by decide) ?_
    refine e_getI (j := 5) (w := 1 + ((u_cSetUp (M 1 5) l s M)) 1 5) (k := 21) (xi46 21) (ok_town hS) rfl x_up_self ?_
    refine e_iconst (k := 22) (xi46 22) ?_
    refine e_isub (w := ((u_cSetUp (M 1 5) l s M)) 1 5) (k := 23) (xi46 23) (x_wn (by omega)) ?_
    refine e_iret (k := 24) (xi46 24) ?_
    exact y_fW (Q := fun _ => True) (show v_addCart l s M = ((u_cSetUp (M 1 5) l s M)) 1 5 from by rw [v_addCart, if_pos c0]) (show u_addCart l s M = (x_up ((u_cSetUp (M 1 5) l s M)) 1 5 (1 + ((u_cSetUp (M 1 5) l s M)) 1 5)) from by rw [u_addCart, if_pos c0]) tl8 trivial
  · skip
    refine e_iconst (k := 4) (xi46 4) ?_
    refine e_iret (k := 5) (xi46 5) ?_
    exact y_fW (Q := fun _ => True) (show v_addCart l s M = (-1) from by rw [v_addCart, if_neg c0]) (show u_addCart l s M = M from by rw [u_addCart, if_neg c0]) tl0 trivial
def u_lendOne0 (w : Int) (M : Int → Int → Int) : Int → Int → Int := (x_up ((x_up ((u_moveTo w 2 (((u_clearDock w M)) (88 + w) 4) ((-1)) ((u_clearDock w M)))) (88 + w) 9 ((-1)))) (88 + w) 6 0)
theorem k_lendOne0 {z : Int} {P M : Int → Int → Int} (hS : x_Sh z P) (hT : y_TC M) (w : Int) (hw : 0 ≤ w ∧ w < 60)  : x_CallR 57 [.inr 1, .inr (88 + w), .inr (-1)] (z, P, M) (fun q => q = (none, (z, P, u_lendOne0 w M)) ∧ y_TL 0 M (u_lendOne0 w M)) := by
  have tl0 : y_TL 0 M M := tl_refl hT
  refine e_body (ls0 := [.inr 1, .inr (88 + w), .inr (-1)]) xm57 rfl ?_
  refine e_aload (k := 0) (xi57 0) rfl (by decide) ?_
  refine e_aload (k := 1) (xi57 1) rfl (by omega) ?_
  refine e_callR (k := 2) (c1 := 0) (c2 := 0) (rest := []) (as := [.inr 1, .inr (88 + w)]) (xi57 2) (by decide) xm55 rfl ⟨rfl, Nat.le_of_ble_eq_true rfl, by decide⟩ (Or.inr (x_okt (ok_town hS))) (k_clearDock hS tl0.1 w hw ) ?_
  rintro v_ h_ ⟨e1, tl2⟩
  cases e1
  have tl4 := tl_trans tl0 (tl2)
  have n5 := tl_n tl2
  show x_Ev 57 3 [.inr 1, .inr (88 + w), .inr (-1)] [] (0, 0) (z, P, (u_clearDock w M)) _
  refine e_aload (k := 3) (xi57 3) rfl (by omega) ?_
  refine e_iconst (k := 4) (xi57 4) ?_
  refine e_aload (k := 5) (xi57 5) rfl (by omega) ?_
  have t6 := ty_wh4 tl4.1 hw
  refine e_getI (j := 4) (w := ((u_clearDock w M)) (88 + w) 4) (k := 6) (xi57 6) (ok_wh hS hw) rfl rfl ?_
  refine e_iconst (k := 7) (xi57 7) ?_
  refine e_callR (k := 8) (c1 := 0) (c2 := 0) (rest := []) (as := [.inr (88 + w), .inl 2, .inl (((u_clearDock w M)) (88 + w) 4), .inl ((-1))]) (xi57 8) (by decide) xm68 rfl ⟨rfl, Nat.le_of_ble_eq_true rfl, by decide⟩ (Or.inr (x_okt (ok_wh hS hw))) (k_moveTo hS tl4.1 w 2 (((u_clearDock w M)) (88 + w) 4) ((-1)) hw (by omega) (by omega) (by omega)) ?_
  rintro v_ h_ ⟨e7, tl8⟩
  cases e7
  have tl10 := tl_trans tl4 (tl8)
  have n11 := tl_n tl8
  show x_Ev 57 9 [.inr 1, .inr (88 + w), .inr (-1)] [] (0, 0) (z, P, (u_moveTo w 2 (((u_clearDock w M)) (88 + w) 4) ((-1)) ((u_clearDock w M)))) _
  refine e_aload (k := 9) (xi57 9) rfl (by omega) ?_
  refine e_aload (k := 10) (xi57 10) rfl (by decide) ?_
  refine e_ifnonnull (k := 11) (xi57 11) (by omega) (fun q => absurd (by omega) q) (fun _ => ?_)
  refine e_iconst (k := 12) (xi57 12) ?_
  refine e_goto (k := 13) (xi57 13) ?_
  refine e_putI (j := 9) (k := 16) (xi57 16) (ok_wh hS hw) rfl ?_
  have tl12 : y_TL 0 M (x_up ((u_moveTo w 2 (((u_clearDock w M)) (88 + w) 4) ((-1)) ((u_clearDock w M)))) (88 + w) 9 ((-1))) := tl_up tl10 (sl_wh9 hw (by omega)) (nf_wh9 hw)
  refine e_aload (k := 17) (xi57 17) rfl (by omega) ?_
  refine e_iconst (k := 18) (xi57 18) ?_
  refine e_putI (j := 6) (k := 19) (xi57 19) (ok_wh hS hw) rfl ?_
  have tl13 : y_TL 0 M (x_up ((x_up ((u_moveTo w 2 (((u_clearDock w M)) (88 + w) 4) ((-1)) ((u_clearDock w M)))) (88 + w) 9 ((-1)))) (88 + w) 6 0) := tl_up tl12 (sl_wh6 hw ) (nf_wh6 hw)
  refine e_vret (k := 20) (xi57 20) ?_
  exact y_fU (show u_lendOne0 w M = (x_up ((x_up ((u_moveTo w 2 (((u_clearDock w M)) (88 + w) 4) ((-1)) ((u_clearDock w M)))) (88 + w) 9 ((-1)))) (88 + w) 6 0) from rfl) tl13
def u_lendOne1 (w p : Int) (M : Int → Int → Int) : Int → Int → Int := (x_up ((x_up ((u_moveTo w 2 (((u_clearDock w M)) (88 + w) 4) ((-1)) ((u_clearDock w M)))) (88 + w) 9 p)) (88 + w) 6 0)
theorem k_lendOne1 {z : Int} {P M : Int → Int → Int} (hS : x_Sh z P) (hT : y_TC M) (w : Int) (p : Int) (hw : 0 ≤ w ∧ w < 60) (hp : 0 ≤ p ∧ p < 60)  : x_CallR 57 [.inr 1, .inr (88 + w), .inr (88 + p)] (z, P, M) (fun q => q = (none, (z, P, u_lendOne1 w p M)) ∧ y_TL 0 M (u_lendOne1 w p M)) := by
  have tl0 : y_TL 0 M M := tl_refl hT
  refine e_body (ls0 := [.inr 1, .inr (88 + w), .inr (88 + p)]) xm57 rfl ?_
  refine e_aload (k := 0) (xi57 0) rfl (by decide) ?_
  refine e_aload (k := 1) (xi57 1) rfl (by omega) ?_
  refine e_callR (k := 2) (c1 := 0) (c2 := 0) (rest := []) (as := [.inr 1, .inr (88 + w)]) (xi57 2) (by decide) xm55 rfl ⟨rfl, Nat.le_of_ble_eq_true rfl, by decide⟩ (Or.inr (x_okt (ok_town hS))) (k_clearDock hS tl0.1 w hw ) ?_
  rintro v_ h_ ⟨e1, tl2⟩
  cases e1
  have tl4 := tl_trans tl0 (tl2)
  have n5 := tl_n tl2
  show x_Ev 57 3 [.inr 1, .inr (88 + w), .inr (88 + p)] [] (0, 0) (z, P, (u_clearDock w M)) _
  refine e_aload (k := 3) (xi57 3) rfl (by omega) ?_
  refine e_iconst (k := 4) (xi57 4) ?_
  refine e_aload (k := 5) (xi57 5) rfl (by omega) ?_
  have t6 := ty_wh4 tl4.1 hw
  refine e_getI (j := 4) (w := ((u_clearDock w M)) (88 + w) 4) (k := 6) (xi57 6) (ok_wh hS hw) rfl rfl ?_
  refine e_iconst (k := 7) (xi57 7) ?_
  refine e_callR (k := 8) (c1 := 0) (c2 := 0) (rest := []) (as := [.inr (88 + w), .inl 2, .inl (((u_clearDock w M)) (88 + w) 4), .inl ((-1))]) (xi57 8) (by decide) xm68 rfl ⟨rfl, Nat.le_of_ble_eq_true rfl, by decide⟩ (Or.inr (x_okt (ok_wh hS hw))) (k_moveTo hS tl4.1 w 2 (((u_clearDock w M)) (88 + w) 4) ((-1)) hw (by omega) (by omega) (by omega)) ?_
  rintro v_ h_ ⟨e7, tl8⟩
  cases e7
  have tl10 := tl_trans tl4 (tl8)
  have n11 := tl_n tl8
  show x_Ev 57 9 [.inr 1, .inr (88 + w), .inr (88 + p)] [] (0, 0) (z, P, (u_moveTo w 2 (((u_clearDock w M)) (88 + w) 4) ((-1)) ((u_clearDock w M)))) _
  refine e_aload (k := 9) (xi57 9) rfl (by omega) ?_
  refine e_aload (k := 10) (xi57 10) rfl (by omega) ?_
  refine e_ifnonnull (k := 11) (xi57 11) (by omega) (fun _ => ?_) (fun q => absurd q (by omega))
  refine e_aload (k := 14) (xi57 14) rfl (by omega) ?_
  refine e_getI (j := 0) (w := p) (k := 15) (xi57 15) (ok_wh hS hp) rfl ((nu_wh tl10.1 hp)) ?_
  refine e_putI (j := 9) (k := 16) (xi57 16) (ok_wh hS hw) rfl ?_
  have tl12 : y_TL 0 M (x_up ((u_moveTo w 2 (((u_clearDock w M)) (88 + w) 4) ((-1)) ((u_clearDock w M)))) (88 + w) 9 p) := tl_up tl10 (sl_wh9 hw (by omega)) (nf_wh9 hw)
  refine e_aload (k := 17) (xi57 17) rfl (by omega) ?_
  refine e_iconst (k := 18) (xi57 18) ?_
  refine e_putI (j := 6) (k := 19) (xi57 19) (ok_wh hS hw) rfl ?_
  have tl13 : y_TL 0 M (x_up ((x_up ((u_moveTo w 2 (((u_clearDock w M)) (88 + w) 4) ((-1)) ((u_clearDock w M)))) (88 + w) 9 p)) (88 + w) 6 0) := tl_up tl12 (sl_wh6 hw ) (nf_wh6 hw)
  refine e_vret (k := 20) (xi57 20) ?_
  exact y_fU (show u_lendOne1 w p M = (x_up ((x_up ((u_moveTo w 2 (((u_clearDock w M)) (88 + w) 4) ((-1)) ((u_clearDock w M)))) (88 + w) 9 p)) (88 + w) 6 0) from rfl) tl13
def l_lend0_a (w t : Int) : Nat → (Int → Int → Int) → Int → (Int → Int → Int) × Int
  | 0, M, i => (M, i)
  | k + 1, M, i => if M 1 3 ≤ i then (M, i) else if M (88 + i) 3 = 0 ∧ M (88 + i) 4 = t then l_lend0_a w t k ((x_up M (88 + i) 6 (x_w (1 + M (88 + i) 6)))) (1 + i) else l_lend0_a w t k M (1 + i)
theorem kl_lend0_a {z : Int} {P M0 : Int → Int → Int} {r : Option xV × xH → Prop} (hS : x_Sh z P) (w : Int) (t : Int) (hw : 0 ≤ w ∧ w < 60)   : ∀ k : Nat, ∀ M : (Int → Int → Int), ∀ i : Int, y_TL 0 M0 M → (0 ≤ i ∧ i ≤ 60) → 60 - i < (k : Int) → (y_TL 0 M0 ((l_lend0_a w t k M i).1) → True → x_Ev 56 38 [.inr 1, .inr (88 + w), .inr (-1), .inl (t), .inl ((l_lend0_a w t k M i).2)] [] (0, 0) (z, P, (l_lend0_a w t k M i).1) r) → x_Ev 56 15 [.inr 1, .inr (88 + w), .inr (-1), .inl (t), .inl (i)] [] (0, 0) (z, P, M) r := by
  intro k
  induction k with
  | zero => intro M i tl0 hi hm; omega
  | succ k ih =>
    intro M i tl0 hi hm kk
    refine e_iload (k := 15) (xi56 15) rfl ?_
    refine e_aload (k := 16) (xi56 16) rfl (by decide) ?_
    have t1 := ty_town3 tl0.1 
    refine e_getI (j := 3) (w := M 1 3) (k := 17) (xi56 17) (ok_town hS) rfl rfl ?_
    refine e_c_ge (k := 18) (xi56 18) (fun c0 => ?_) (fun c0 => ?_)
    · skip
      rw [(show l_lend0_a w t (k + 1) M i = (M, i) from by rw [l_lend0_a, if_pos c0])] at kk
      try dsimp only at kk
      exact kk tl0 (by first | exact trivial | omega)
    · skip
      refine e_aload (k := 19) (xi56 19) rfl (by decide) ?_
      refine e_getR (j := 2) (w := 87) (k := 20) (xi56 20) (ok_town hS) rfl (sh_whs hS) ?_
      refine e_iload (k := 21) (xi56 21) rfl ?_
      refine e_aald (w := 88 + i) (k := 22) (xi56 22) (x_ok4 (ok_whs hS) (by decide)) (by rw [ln_whs]; omega) (sh_wh hS (show 0 ≤ i ∧ i < 60 by omega)) ?_
      refine e_iload (k := 23) (xi56 23) rfl ?_
      refine e_iconst (k := 24) (xi56 24) ?_
      have t2 := ty_wh3 tl0.1 (show 0 ≤ i ∧ i < 60 by omega)
      have t3 := ty_wh4 tl0.1 (show 0 ≤ i ∧ i < 60 by omega)
      refine e_call (k := 25) (v := some (.inl (x_b (M (88 + i) 3 = 0 ∧ M (88 + i) 4 = t)))) (h1 := (z, P, M)) (c1 := 0) (c2 := 0) (rest := []) (as := [.inr (88 + i), .inl (t), .inl 0]) (xi56 25) (by decide) xm76 rfl ⟨rfl, Nat.le_of_ble_eq_true rfl, by decide⟩ (Or.inr (x_okt (ok_wh hS (show 0 ≤ i ∧ i < 60 by omega)))) (k_isAt hS tl0.1 i t 0 (show 0 ≤ i ∧ i < 60 by omega) ) ?_
      refine e_b_eq (k := 26) (xi56 26) (fun c1 => ?_) (fun c1 => ?_)
      · skip
        refine e_aload (k := 27) (xi56 27) rfl (by decide) ?_
        refine e_getR (j := 2) (w := 87) (k := 28) (xi56 28) (ok_town hS) rfl (sh_whs hS) ?_
        refine e_iload (k := 29) (xi56 29) rfl ?_
        refine e_aald (w := 88 + i) (k := 30) (xi56 30) (x_ok4 (ok_whs hS) (by decide)) (by rw [ln_whs]; omega) (sh_wh hS (show 0 ≤ i ∧ i < 60 by omega)) ?_
        refine e_dup (k := 31) (xi56 31) ?_
        refine e_getI (j := 6) (w := M (88 + i) 6) (k := 32) (xi56 32) (ok_wh hS (show 0 ≤ i ∧ i < 60 by omega)) rfl rfl ?_
        refine e_iconst (k := 33) (xi56 33) ?_
        refine e_iadd (w := x_w (1 + M (88 + i) 6)) (k := 34) (xi56 34) (x_wr (by omega)) ?_
        refine e_putI (j := 6) (k := 35) (xi56 35) (ok_wh hS (show 0 ≤ i ∧ i < 60 by omega)) rfl ?_
        have tl4 : y_TL 0 M0 (x_up M (88 + i) 6 (x_w (1 + M (88 + i) 6))) := tl_up tl0 (sl_wh6 (show 0 ≤ i ∧ i < 60 by omega) ) (nf_wh6 (show 0 ≤ i ∧ i < 60 by omega))
        refine e_iinc (w := 1 + i) (k := 36) (xi56 36) rfl (x_wn (by omega)) ?_
        show x_Ev 56 37 [.inr 1, .inr (88 + w), .inr (-1), .inl (t), .inl (1 + i)] [] (0, 0) (z, P, (x_up M (88 + i) 6 (x_w (1 + M (88 + i) 6)))) _
        refine e_goto (k := 37) (xi56 37) ?_
        have t5 := ty_town3 tl4.1 
        have t6 : ((x_up M (88 + i) 6 (x_w (1 + M (88 + i) 6)))) 1 3 = M 1 3 := ((x_up_ne (by omega)).trans rfl)
        rw [(show l_lend0_a w t (k + 1) M i = l_lend0_a w t k ((x_up M (88 + i) 6 (x_w (1 + M (88 + i) 6)))) (1 + i) from by rw [l_lend0_a, if_neg c0, if_pos c1])] at kk
        exact ih ((x_up M (88 + i) 6 (x_w (1 + M (88 + i) 6)))) (1 + i) tl4 (by omega) (by omega) kk
      · skip
        refine e_iinc (w := 1 + i) (k := 36) (xi56 36) rfl (x_wn (by omega)) ?_
        show x_Ev 56 37 [.inr 1, .inr (88 + w), .inr (-1), .inl (t), .inl (1 + i)] [] (0, 0) (z, P, M) _
        refine e_goto (k := 37) (xi56 37) ?_
        rw [(show l_lend0_a w t (k + 1) M i = l_lend0_a w t k M (1 + i) from by rw [l_lend0_a, if_neg c0, if_neg c1])] at kk
        exact ih M (1 + i) tl0 (by omega) (by omega) kk
def u_lend0 (w : Int) (M : Int → Int → Int) : Int → Int → Int := (l_lend0_a w (M (88 + w) 4) 61 ((u_lendOne0 w M)) 0).1
theorem k_lend0 {z : Int} {P M : Int → Int → Int} (hS : x_Sh z P) (hT : y_TC M) (w : Int) (hw : 0 ≤ w ∧ w < 60)  : x_CallR 56 [.inr 1, .inr (88 + w), .inr (-1)] (z, P, M) (fun q => q = (none, (z, P, u_lend0 w M)) ∧ y_TL 0 M (u_lend0 w M)) := by
  have tl0 : y_TL 0 M M := tl_refl hT
  refine e_body (ls0 := [.inr 1, .inr (88 + w), .inr (-1), x_un, x_un]) xm56 rfl ?_
  refine e_aload (k := 0) (xi56 0) rfl (by omega) ?_
  have t1 := ty_wh4 tl0.1 hw
  refine e_getI (j := 4) (w := M (88 + w) 4) (k := 1) (xi56 1) (ok_wh hS hw) rfl rfl ?_
  refine e_istore (k := 2) (xi56 2) (Nat.le_of_ble_eq_true rfl) ?_
  show x_Ev 56 3 [.inr 1, .inr (88 + w), .inr (-1), .inl (M (88 + w) 4), x_un] [] (0, 0) (z, P, M) _
  refine e_aload (k := 3) (xi56 3) rfl (by decide) ?_
  refine e_aload (k := 4) (xi56 4) rfl (by omega) ?_
  refine e_aload (k := 5) (xi56 5) rfl (by decide) ?_
  refine e_callR (k := 6) (c1 := 0) (c2 := 0) (rest := []) (as := [.inr 1, .inr (88 + w), .inr (-1)]) (xi56 6) (by decide) xm57 rfl ⟨rfl, Nat.le_of_ble_eq_true rfl, by decide⟩ (Or.inr (x_okt (ok_town hS))) (k_lendOne0 hS tl0.1 w hw ) ?_
  rintro v_ h_ ⟨e2, tl3⟩
  cases e2
  have tl5 := tl_trans tl0 (tl3)
  have n6 := tl_n tl3
  show x_Ev 56 7 [.inr 1, .inr (88 + w), .inr (-1), .inl (M (88 + w) 4), x_un] [] (0, 0) (z, P, (u_lendOne0 w M)) _
  refine e_aload (k := 7) (xi56 7) rfl (by decide) ?_
  refine e_ifnull (k := 8) (xi56 8) (by omega) (fun _ => ?_) (fun q => absurd (by omega) q)
  refine e_iconst (k := 13) (xi56 13) ?_
  refine e_istore (k := 14) (xi56 14) (Nat.le_of_ble_eq_true rfl) ?_
  show x_Ev 56 15 [.inr 1, .inr (88 + w), .inr (-1), .inl (M (88 + w) 4), .inl 0] [] (0, 0) (z, P, (u_lendOne0 w M)) _
  have t7 := ty_town3 tl5.1 
  refine kl_lend0_a hS w (M (88 + w) 4) hw   61 ((u_lendOne0 w M)) 0 tl5 (by omega) (by omega) ?_
  intro tl8 q9
  show x_Ev 56 38 [.inr 1, .inr (88 + w), .inr (-1), .inl (M (88 + w) 4), .inl ((l_lend0_a w (M (88 + w) 4) 61 ((u_lendOne0 w M)) 0).2)] [] (0, 0) (z, P, (l_lend0_a w (M (88 + w) 4) 61 ((u_lendOne0 w M)) 0).1) _
  refine e_vret (k := 38) (xi56 38) ?_
  exact y_fU (show u_lend0 w M = (l_lend0_a w (M (88 + w) 4) 61 ((u_lendOne0 w M)) 0).1 from rfl) tl8
def v_docksBoth0 (w s : Int) (M : Int → Int → Int) : Int := if ¬ v_roomFor s (y_sz (M (88 + w) 1)) M = (-1) then 1 else 0
def u_docksBoth0 (w s : Int) (M : Int → Int → Int) : Int → Int → Int := if ¬ v_roomFor s (y_sz (M (88 + w) 1)) M = (-1) then (u_putInDock w s (v_roomFor s (y_sz (M (88 + w) 1)) M) M) else (x_up M (3 + 7 * s) 7 (x_w (1 + M (3 + 7 * s) 7)))
theorem k_docksBoth0 {z : Int} {P M : Int → Int → Int} (hS : x_Sh z P) (hT : y_TC M) (w : Int) (s : Int) (hw : 0 ≤ w ∧ w < 60) (hs : 0 ≤ s ∧ s < 12)  : x_CallR 59 [.inr 1, .inr (88 + w), .inr (-1), .inr (3 + 7 * s)] (z, P, M) (fun q => q = (some (.inl (v_docksBoth0 w s M)), (z, P, u_docksBoth0 w s M)) ∧ y_TL 0 M (u_docksBoth0 w s M) ∧ (fun v => 0 ≤ v ∧ v ≤ 1) (v_docksBoth0 w s M)) := by
  have tl0 : y_TL 0 M M := tl_refl hT
  refine e_body (ls0 := [.inr 1, .inr (88 + w), .inr (-1), .inr (3 + 7 * s), x_un, x_un]) xm59 rfl ?_
  refine e_aload (k := 0) (xi59 0) rfl (by omega) ?_
  refine e_aload (k := 1) (xi59 1) rfl (by omega) ?_
  have s1 := y_sz_in ((M (88 + w) 1))
  refine e_call (k := 2) (v := some (.inl (y_sz (M (88 + w) 1)))) (h1 := (z, P, M)) (c1 := 0) (c2 := 0) (rest := [.inr (3 + 7 * s)]) (as := [.inr (88 + w)]) (xi59 2) (by decide) xm70 rfl ⟨rfl, Nat.le_of_ble_eq_true rfl, by decide⟩ (Or.inr (x_okt (ok_wh hS hw))) (k_size hS tl0.1 w hw ) ?_
  refine e_callR (k := 3) (c1 := 0) (c2 := 0) (rest := []) (as := [.inr (3 + 7 * s), .inl (y_sz (M (88 + w) 1))]) (xi59 3) (by decide) xm25 rfl ⟨rfl, Nat.le_of_ble_eq_true rfl, by decide⟩ (Or.inr (x_okt (ok_st hS hs))) (k_roomFor hS tl0.1 s (y_sz (M (88 + w) 1)) hs (by omega)) ?_
  rintro v_ h_ ⟨e2, q4⟩
  cases e2
  show x_Ev 59 4 [.inr 1, .inr (88 + w), .inr (-1), .inr (3 + 7 * s), x_un, x_un] [.inl (v_roomFor s (y_sz (M (88 + w) 1)) M)] (0, 0) (z, P, M) _
  refine e_istore (k := 4) (xi59 4) (Nat.le_of_ble_eq_true rfl) ?_
  show x_Ev 59 5 [.inr 1, .inr (88 + w), .inr (-1), .inr (3 + 7 * s), .inl (v_roomFor s (y_sz (M (88 + w) 1)) M), x_un] [] (0, 0) (z, P, M) _
  refine e_iload (k := 5) (xi59 5) rfl ?_
  refine e_iconst (k := 6) (xi59 6) ?_
  refine e_c_ne (k := 7) (xi59 7) (fun c0 => ?_) (fun c0 => ?_)
  · skip
    refine e_aload (k := 16) (xi59 16) rfl (by decide) ?_
    refine e_ifnull (k := 17) (xi59 17) (by omega) (fun _ => ?_) (fun q => absurd (by omega) q)
    refine e_aload (k := 52) (xi59 52) rfl (by decide) ?_
    refine e_aload (k := 53) (xi59 53) rfl (by omega) ?_
    refine e_aload (k := 54) (xi59 54) rfl (by omega) ?_
    refine e_iload (k := 55) (xi59 55) rfl ?_
    refine e_callR (k := 56) (c1 := 0) (c2 := 0) (rest := []) (as := [.inr 1, .inr (88 + w), .inr (3 + 7 * s), .inl (v_roomFor s (y_sz (M (88 + w) 1)) M)]) (xi59 56) (by decide) xm54 rfl ⟨rfl, Nat.le_of_ble_eq_true rfl, by decide⟩ (Or.inr (x_okt (ok_town hS))) (k_putInDock hS tl0.1 w s (v_roomFor s (y_sz (M (88 + w) 1)) M) hw hs (by omega)) ?_
    rintro v_ h_ ⟨e5, tl6⟩
    cases e5
    have tl8 := tl_trans tl0 (tl6)
    have n9 := tl_n tl6
    show x_Ev 59 57 [.inr 1, .inr (88 + w), .inr (-1), .inr (3 + 7 * s), .inl (v_roomFor s (y_sz (M (88 + w) 1)) M), x_un] [] (0, 0) (z, P, (u_putInDock w s (v_roomFor s (y_sz (M (88 + w) 1)) M) M)) _
    refine e_iconst (k := 57) (xi59 57) ?_
    refine e_zret (k := 58) (xi59 58) (by first | decide | omega) ?_
    exact y_fW (Q := fun v => 0 ≤ v ∧ v ≤ 1) (show v_docksBoth0 w s M = 1 from by rw [v_docksBoth0, if_pos c0]) (show u_docksBoth0 w s M = (u_putInDock w s (v_roomFor s (y_sz (M (88 + w) 1)) M) M) from by rw [u_docksBoth0, if_pos c0]) tl8 (by omega)
  · skip
    refine e_aload (k := 8) (xi59 8) rfl (by omega) ?_
    refine e_dup (k := 9) (xi59 9) ?_
    refine e_getI (j := 7) (w := M (3 + 7 * s) 7) (k := 10) (xi59 10) (ok_st hS hs) rfl rfl ?_
    refine e_iconst (k := 11) (xi59 11) ?_
    refine e_iadd (w := x_w (1 + M (3 + 7 * s) 7)) (k := 12) (xi59 12) (x_wr (by omega)) ?_
    refine e_putI (j := 7) (k := 13) (xi59 13) (ok_st hS hs) rfl ?_
    have tl10 : y_TL 0 M (x_up M (3 + 7 * s) 7 (x_w (1 + M (3 + 7 * s) 7))) := tl_up tl0 (sl_st7 hs ) (nf_st7 hs)
    refine e_iconst (k := 14) (xi59 14) ?_
    refine e_zret (k := 15) (xi59 15) (by first | decide | omega) ?_
    exact y_fW (Q := fun v => 0 ≤ v ∧ v ≤ 1) (show v_docksBoth0 w s M = 0 from by rw [v_docksBoth0, if_neg c0]) (show u_docksBoth0 w s M = (x_up M (3 + 7 * s) 7 (x_w (1 + M (3 + 7 * s) 7))) from by rw [u_docksBoth0, if_neg c0]) tl10 (by omega)
def u_leaveOnStreet0 (w s : Int) (M : Int → Int → Int) : Int → Int → Int := (u_moveTo w 3 s ((-1)) M)
theorem k_leaveOnStreet0 {z : Int} {P M : Int → Int → Int} (hS : x_Sh z P) (hT : y_TC M) (w : Int) (s : Int) (hw : 0 ≤ w ∧ w < 60) (hs : -1 ≤ s ∧ s ≤ 11) : x_CallR 60 [.inr 1, .inr (88 + w), .inr (-1), .inl (s)] (z, P, M) (fun q => q = (none, (z, P, u_leaveOnStreet0 w s M)) ∧ y_TL 0 M (u_leaveOnStreet0 w s M)) := by
  have tl0 : y_TL 0 M M := tl_refl hT
  refine e_body (ls0 := [.inr 1, .inr (88 + w), .inr (-1), .inl (s)]) xm60 rfl ?_
  refine e_aload (k := 0) (xi60 0) rfl (by omega) ?_
  refine e_iconst (k := 1) (xi60 1) ?_
  refine e_iload (k := 2) (xi60 2) rfl ?_
  refine e_iconst (k := 3) (xi60 3) ?_
  refine e_callR (k := 4) (c1 := 0) (c2 := 0) (rest := []) (as := [.inr (88 + w), .inl 3, .inl (s), .inl ((-1))]) (xi60 4) (by decide) xm68 rfl ⟨rfl, Nat.le_of_ble_eq_true rfl, by decide⟩ (Or.inr (x_okt (ok_wh hS hw))) (k_moveTo hS tl0.1 w 3 s ((-1)) hw (by omega) (by omega) (by omega)) ?_
  rintro v_ h_ ⟨e1, tl2⟩
  cases e1
  have tl4 := tl_trans tl0 (tl2)
  have n5 := tl_n tl2
  show x_Ev 60 5 [.inr 1, .inr (88 + w), .inr (-1), .inl (s)] [] (0, 0) (z, P, (u_moveTo w 3 s ((-1)) M)) _
  refine e_aload (k := 5) (xi60 5) rfl (by decide) ?_
  refine e_ifnull (k := 6) (xi60 6) (by omega) (fun _ => ?_) (fun q => absurd (by omega) q)
  refine e_vret (k := 12) (xi60 12) ?_
  exact y_fU (show u_leaveOnStreet0 w s M = (u_moveTo w 3 s ((-1)) M) from rfl) tl4
def l_lend1_a (w p t : Int) : Nat → (Int → Int → Int) → Int → (Int → Int → Int) × Int
  | 0, M, i => (M, i)
  | k + 1, M, i => if M 1 3 ≤ i then (M, i) else if M (88 + i) 3 = 0 ∧ M (88 + i) 4 = t then l_lend1_a w p t k ((x_up M (88 + i) 6 (x_w (1 + M (88 + i) 6)))) (1 + i) else l_lend1_a w p t k M (1 + i)
theorem kl_lend1_a {z : Int} {P M0 : Int → Int → Int} {r : Option xV × xH → Prop} (hS : x_Sh z P) (w : Int) (p : Int) (t : Int) (hw : 0 ≤ w ∧ w < 60) (hp : 0 ≤ p ∧ p < 60)   : ∀ k : Nat, ∀ M : (Int → Int → Int), ∀ i : Int, y_TL 0 M0 M → (0 ≤ i ∧ i ≤ 60) → 60 - i < (k : Int) → (y_TL 0 M0 ((l_lend1_a w p t k M i).1) → True → x_Ev 56 38 [.inr 1, .inr (88 + w), .inr (88 + p), .inl (t), .inl ((l_lend1_a w p t k M i).2)] [] (0, 0) (z, P, (l_lend1_a w p t k M i).1) r) → x_Ev 56 15 [.inr 1, .inr (88 + w), .inr (88 + p), .inl (t), .inl (i)] [] (0, 0) (z, P, M) r := by
  intro k
  induction k with
  | zero => intro M i tl0 hi hm; omega
  | succ k ih =>
    intro M i tl0 hi hm kk
    refine e_iload (k := 15) (xi56 15) rfl ?_
    refine e_aload (k := 16) (xi56 16) rfl (by decide) ?_
    have t1 := ty_town3 tl0.1 
    refine e_getI (j := 3) (w := M 1 3) (k := 17) (xi56 17) (ok_town hS) rfl rfl ?_
    refine e_c_ge (k := 18) (xi56 18) (fun c0 => ?_) (fun c0 => ?_)
    · skip
      rw [(show l_lend1_a w p t (k + 1) M i = (M, i) from by rw [l_lend1_a, if_pos c0])] at kk
      try dsimp only at kk
      exact kk tl0 (by first | exact trivial | omega)
    · skip
      refine e_aload (k := 19) (xi56 19) rfl (by decide) ?_
      refine e_getR (j := 2) (w := 87) (k := 20) (xi56 20) (ok_town hS) rfl (sh_whs hS) ?_
      refine e_iload (k := 21) (xi56 21) rfl ?_
      refine e_aald (w := 88 + i) (k := 22) (xi56 22) (x_ok4 (ok_whs hS) (by decide)) (by rw [ln_whs]; omega) (sh_wh hS (show 0 ≤ i ∧ i < 60 by omega)) ?_
      refine e_iload (k := 23) (xi56 23) rfl ?_
      refine e_iconst (k := 24) (xi56 24) ?_
      have t2 := ty_wh3 tl0.1 (show 0 ≤ i ∧ i < 60 by omega)
      have t3 := ty_wh4 tl0.1 (show 0 ≤ i ∧ i < 60 by omega)
      refine e_call (k := 25) (v := some (.inl (x_b (M (88 + i) 3 = 0 ∧ M (88 + i) 4 = t)))) (h1 := (z, P, M)) (c1 := 0) (c2 := 0) (rest := []) (as := [.inr (88 + i), .inl (t), .inl 0]) (xi56 25) (by decide) xm76 rfl ⟨rfl, Nat.le_of_ble_eq_true rfl, by decide⟩ (Or.inr (x_okt (ok_wh hS (show 0 ≤ i ∧ i < 60 by omega)))) (k_isAt hS tl0.1 i t 0 (show 0 ≤ i ∧ i < 60 by omega) ) ?_
      refine e_b_eq (k := 26) (xi56 26) (fun c1 => ?_) (fun c1 => ?_)
      · skip
        refine e_aload (k := 27) (xi56 27) rfl (by decide) ?_
        refine e_getR (j := 2) (w := 87) (k := 28) (xi56 28) (ok_town hS) rfl (sh_whs hS) ?_
        refine e_iload (k := 29) (xi56 29) rfl ?_
        refine e_aald (w := 88 + i) (k := 30) (xi56 30) (x_ok4 (ok_whs hS) (by decide)) (by rw [ln_whs]; omega) (sh_wh hS (show 0 ≤ i ∧ i < 60 by omega)) ?_
        refine e_dup (k := 31) (xi56 31) ?_
        refine e_getI (j := 6) (w := M (88 + i) 6) (k := 32) (xi56 32) (ok_wh hS (show 0 ≤ i ∧ i < 60 by omega)) rfl rfl ?_
        refine e_iconst (k := 33) (xi56 33) ?_
        refine e_iadd (w := x_w (1 + M (88 + i) 6)) (k := 34) (xi56 34) (x_wr (by omega)) ?_
        refine e_putI (j := 6) (k := 35) (xi56 35) (ok_wh hS (show 0 ≤ i ∧ i < 60 by omega)) rfl ?_
        have tl4 : y_TL 0 M0 (x_up M (88 + i) 6 (x_w (1 + M (88 + i) 6))) := tl_up tl0 (sl_wh6 (show 0 ≤ i ∧ i < 60 by omega) ) (nf_wh6 (show 0 ≤ i ∧ i < 60 by omega))
        refine e_iinc (w := 1 + i) (k := 36) (xi56 36) rfl (x_wn (by omega)) ?_
        show x_Ev 56 37 [.inr 1, .inr (88 + w), .inr (88 + p), .inl (t), .inl (1 + i)] [] (0, 0) (z, P, (x_up M (88 + i) 6 (x_w (1 + M (88 + i) 6)))) _
        refine e_goto (k := 37) (xi56 37) ?_
        have t5 := ty_town3 tl4.1 
        have t6 : ((x_up M (88 + i) 6 (x_w (1 + M (88 + i) 6)))) 1 3 = M 1 3 := ((x_up_ne (by omega)).trans rfl)
        rw [(show l_lend1_a w p t (k + 1) M i = l_lend1_a w p t k ((x_up M (88 + i) 6 (x_w (1 + M (88 + i) 6)))) (1 + i) from by rw [l_lend1_a, if_neg c0, if_pos c1])] at kk
        exact ih ((x_up M (88 + i) 6 (x_w (1 + M (88 + i) 6)))) (1 + i) tl4 (by omega) (by omega) kk
      · skip
        refine e_iinc (w := 1 + i) (k := 36) (xi56 36) rfl (x_wn (by omega)) ?_
        show x_Ev 56 37 [.inr 1, .inr (88 + w), .inr (88 + p), .inl (t), .inl (1 + i)] [] (0, 0) (z, P, M) _
        refine e_goto (k := 37) (xi56 37) ?_
        rw [(show l_lend1_a w p t (k + 1) M i = l_lend1_a w p t k M (1 + i) from by rw [l_lend1_a, if_neg c0, if_neg c1])] at kk
        exact ih M (1 + i) tl0 (by omega) (by omega) kk
def u_lend1 (w p : Int) (M : Int → Int → Int) : Int → Int → Int := (l_lend1_a w p (M (88 + w) 4) 61 ((u_lendOne1 p w ((u_lendOne1 w p M)))) 0).1
theorem k_lend1 {z : Int} {P M : Int → Int → Int} (hS : x_Sh z P) (hT : y_TC M) (w : Int) (p : Int) (hw : 0 ≤ w ∧ w < 60) (hp : 0 ≤ p ∧ p < 60)  : x_CallR 56 [.inr 1, .inr (88 + w), .inr (88 + p)] (z, P, M) (fun q => q = (none, (z, P, u_lend1 w p M)) ∧ y_TL 0 M (u_lend1 w p M)) := by
  have tl0 : y_TL 0 M M := tl_refl hT
  refine e_body (ls0 := [.inr 1, .inr (88 + w), .inr (88 + p), x_un, x_un]) xm56 rfl ?_
  refine e_aload (k := 0) (xi56 0) rfl (by omega) ?_
  have t1 := ty_wh4 tl0.1 hw
  refine e_getI (j := 4) (w := M (88 + w) 4) (k := 1) (xi56 1) (ok_wh hS hw) rfl rfl ?_
  refine e_istore (k := 2) (xi56 2) (Nat.le_of_ble_eq_true rfl) ?_
  show x_Ev 56 3 [.inr 1, .inr (88 + w), .inr (88 + p), .inl (M (88 + w) 4), x_un] [] (0, 0) (z, P, M) _
  refine e_aload (k := 3) (xi56 3) rfl (by decide) ?_
  refine e_aload (k := 4) (xi56 4) rfl (by omega) ?_
  refine e_aload (k := 5) (xi56 5) rfl (by omega) ?_
  refine e_callR (k := 6) (c1 := 0) (c2 := 0) (rest := []) (as := [.inr 1, .inr (88 + w), .inr (88 + p)]) (xi56 6) (by decide) xm57 rfl ⟨rfl, Nat.le_of_ble_eq_true rfl, by decide⟩ (Or.inr (x_okt (ok_town hS))) (k_lendOne1 hS tl0.1 w p hw hp ) ?_
  rintro v_ h_ ⟨e2, tl3⟩
  cases e2
  have tl5 := tl_trans tl0 (tl3)
  have n6 := tl_n tl3
  show x_Ev 56 7 [.inr 1, .inr (88 + w), .inr (88 + p), .inl (M (88 + w) 4), x_un] [] (0, 0) (z, P, (u_lendOne1 w p M)) _
  refine e_aload (k := 7) (xi56 7) rfl (by omega) ?_
  refine e_ifnull (k := 8) (xi56 8) (by omega) (fun q => absurd q (by omega)) (fun _ => ?_)
  refine e_aload (k := 9) (xi56 9) rfl (by decide) ?_
  refine e_aload (k := 10) (xi56 10) rfl (by omega) ?_
  refine e_aload (k := 11) (xi56 11) rfl (by omega) ?_
  refine e_callR (k := 12) (c1 := 0) (c2 := 0) (rest := []) (as := [.inr 1, .inr (88 + p), .inr (88 + w)]) (xi56 12) (by decide) xm57 rfl ⟨rfl, Nat.le_of_ble_eq_true rfl, by decide⟩ (Or.inr (x_okt (ok_town hS))) (k_lendOne1 hS tl5.1 p w hp hw ) ?_
  rintro v_ h_ ⟨e7, tl8⟩
  cases e7
  have tl10 := tl_trans tl5 (tl8)
  have n11 := tl_n tl8
  show x_Ev 56 13 [.inr 1, .inr (88 + w), .inr (88 + p), .inl (M (88 + w) 4), x_un] [] (0, 0) (z, P, (u_lendOne1 p w ((u_lendOne1 w p M)))) _
  refine e_iconst (k := 13) (xi56 13) ?_
  refine e_istore (k := 14) (xi56 14) (Nat.le_of_ble_eq_true rfl) ?_
  show x_Ev 56 15 [.inr 1, .inr (88 + w), .inr (88 + p), .inl (M (88 + w) 4), .inl 0] [] (0, 0) (z, P, (u_lendOne1 p w ((u_lendOne1 w p M)))) _
  have t12 := ty_town3 tl10.1 
  refine kl_lend1_a hS w p (M (88 + w) 4) hw hp   61 ((u_lendOne1 p w ((u_lendOne1 w p M)))) 0 tl10 (by omega) (by omega) ?_
  intro tl13 q14
  show x_Ev 56 38 [.inr 1, .inr (88 + w), .inr (88 + p), .inl (M (88 + w) 4), .inl ((l_lend1_a w p (M (88 + w) 4) 61 ((u_lendOne1 p w ((u_lendOne1 w p M)))) 0).2)] [] (0, 0) (z, P, (l_lend1_a w p (M (88 + w) 4) 61 ((u_lendOne1 p w ((u_lendOne1 w p M)))) 0).1) _
  refine e_vret (k := 38) (xi56 38) ?_
  exact y_fU (show u_lend1 w p M = (l_lend1_a w p (M (88 + w) 4) 61 ((u_lendOne1 p w ((u_lendOne1 w p M)))) 0).1 from rfl) tl13
def v_docksBoth1 (w p s : Int) (M : Int → Int → Int) : Int := if ¬ v_roomFor s (y_sz (M (88 + w) 1)) M = (-1) then (if ¬ v_roomFor s (y_sz (((u_fill s (v_roomFor s (y_sz (M (88 + w) 1)) M) (y_sz (M (88 + w) 1)) w M)) (88 + p) 1)) ((u_fill s (v_roomFor s (y_sz (M (88 + w) 1)) M) (y_sz (M (88 + w) 1)) w M)) = (-1) then 1 else 0) else 0
def u_docksBoth1 (w p s : Int) (M : Int → Int → Int) : Int → Int → Int := if ¬ v_roomFor s (y_sz (M (88 + w) 1)) M = (-1) then (if ¬ v_roomFor s (y_sz (((u_fill s (v_roomFor s (y_sz (M (88 + w) 1)) M) (y_sz (M (88 + w) 1)) w M)) (88 + p) 1)) ((u_fill s (v_roomFor s (y_sz (M (88 + w) 1)) M) (y_sz (M (88 + w) 1)) w M)) = (-1) then (u_putInDock w s (v_roomFor s (y_sz (M (88 + w) 1)) M) ((u_putInDock p s (v_roomFor s (y_sz (((u_fill s (v_roomFor s (y_sz (M (88 + w) 1)) M) (y_sz (M (88 + w) 1)) w M)) (88 + p) 1)) ((u_fill s (v_roomFor s (y_sz (M (88 + w) 1)) M) (y_sz (M (88 + w) 1)) w M))) ((u_fill s (v_roomFor s (y_sz (M (88 + w) 1)) M) (y_sz (M (88 + w) 1)) w M))))) else (x_up ((u_fill s (v_roomFor s (y_sz (M (88 + w) 1)) M) (y_sz (((u_fill s (v_roomFor s (y_sz (M (88 + w) 1)) M) (y_sz (M (88 + w) 1)) w M)) (88 + w) 1)) ((-1)) ((u_fill s (v_roomFor s (y_sz (M (88 + w) 1)) M) (y_sz (M (88 + w) 1)) w M)))) (3 + 7 * s) 7 (x_w (1 + ((u_fill s (v_roomFor s (y_sz (M (88 + w) 1)) M) (y_sz (((u_fill s (v_roomFor s (y_sz (M (88 + w) 1)) M) (y_sz (M (88 + w) 1)) w M)) (88 + w) 1)) ((-1)) ((u_fill s (v_roomFor s (y_sz (M (88 + w) 1)) M) (y_sz (M (88 + w) 1)) w M)))) (3 + 7 * s) 7)))) else (x_up M (3 + 7 * s) 7 (x_w (1 + M (3 + 7 * s) 7)))
theorem k_docksBoth1 {z : Int} {P M : Int → Int → Int} (hS : x_Sh z P) (hT : y_TC M) (w : Int) (p : Int) (s : Int) (hw : 0 ≤ w ∧ w < 60) (hp : 0 ≤ p ∧ p < 60) (hs : 0 ≤ s ∧ s < 12)  : x_CallR 59 [.inr 1, .inr (88 + w), .inr (88 + p), .inr (3 + 7 * s)] (z, P, M) (fun q => q = (some (.inl (v_docksBoth1 w p s M)), (z, P, u_docksBoth1 w p s M)) ∧ y_TL 0 M (u_docksBoth1 w p s M) ∧ (fun v => 0 ≤ v ∧ v ≤ 1) (v_docksBoth1 w p s M)) := by
  have tl0 : y_TL 0 M M := tl_refl hT
  refine e_body (ls0 := [.inr 1, .inr (88 + w), .inr (88 + p), .inr (3 + 7 * s), x_un, x_un]) xm59 rfl ?_
  refine e_aload (k := 0) (xi59 0) rfl (by omega) ?_
  refine e_aload (k := 1) (xi59 1) rfl (by omega) ?_
  have s1 := y_sz_in ((M (88 + w) 1))
  refine e_call (k := 2) (v := some (.inl (y_sz (M (88 + w) 1)))) (h1 := (z, P, M)) (c1 := 0) (c2 := 0) (rest := [.inr (3 + 7 * s)]) (as := [.inr (88 + w)]) (xi59 2) (by decide) xm70 rfl ⟨rfl, Nat.le_of_ble_eq_true rfl, by decide⟩ (Or.inr (x_okt (ok_wh hS hw))) (k_size hS tl0.1 w hw ) ?_
  refine e_callR (k := 3) (c1 := 0) (c2 := 0) (rest := []) (as := [.inr (3 + 7 * s), .inl (y_sz (M (88 + w) 1))]) (xi59 3) (by decide) xm25 rfl ⟨rfl, Nat.le_of_ble_eq_true rfl, by decide⟩ (Or.inr (x_okt (ok_st hS hs))) (k_roomFor hS tl0.1 s (y_sz (M (88 + w) 1)) hs (by omega)) ?_
  rintro v_ h_ ⟨e2, q4⟩
  cases e2
  show x_Ev 59 4 [.inr 1, .inr (88 + w), .inr (88 + p), .inr (3 + 7 * s), x_un, x_un] [.inl (v_roomFor s (y_sz (M (88 + w) 1)) M)] (0, 0) (z, P, M) _
  refine e_istore (k := 4) (xi59 4) (Nat.le_of_ble_eq_true rfl) ?_
  show x_Ev 59 5 [.inr 1, .inr (88 + w), .inr (88 + p), .inr (3 + 7 * s), .inl (v_roomFor s (y_sz (M (88 + w) 1)) M), x_un] [] (0, 0) (z, P, M) _
  refine e_iload (k := 5) (xi59 5) rfl ?_
  refine e_iconst (k := 6) (xi59 6) ?_
  refine e_c_ne (k := 7) (xi59 7) (fun c0 => ?_) (fun c0 => ?_)
  · skip
    refine e_aload (k := 16) (xi59 16) rfl (by omega) ?_
    refine e_ifnull (k := 17) (xi59 17) (by omega) (fun q => absurd q (by omega)) (fun _ => ?_)
    refine e_aload (k := 18) (xi59 18) rfl (by omega) ?_
    refine e_iload (k := 19) (xi59 19) rfl ?_
    refine e_aload (k := 20) (xi59 20) rfl (by omega) ?_
    have s5 := y_sz_in ((M (88 + w) 1))
    refine e_call (k := 21) (v := some (.inl (y_sz (M (88 + w) 1)))) (h1 := (z, P, M)) (c1 := 0) (c2 := 0) (rest := [.inl (v_roomFor s (y_sz (M (88 + w) 1)) M), .inr (3 + 7 * s)]) (as := [.inr (88 + w)]) (xi59 21) (by decide) xm70 rfl ⟨rfl, Nat.le_of_ble_eq_true rfl, by decide⟩ (Or.inr (x_okt (ok_wh hS hw))) (k_size hS tl0.1 w hw ) ?_
    refine e_aload (k := 22) (xi59 22) rfl (by omega) ?_
    refine e_getI (j := 0) (w := w) (k := 23) (xi59 23) (ok_wh hS hw) rfl ((nu_wh tl0.1 hw)) ?_
    refine e_callR (k := 24) (c1 := 0) (c2 := 0) (rest := []) (as := [.inr (3 + 7 * s), .inl (v_roomFor s (y_sz (M (88 + w) 1)) M), .inl (y_sz (M (88 + w) 1)), .inl (w)]) (xi59 24) (by decide) xm26 rfl ⟨rfl, Nat.le_of_ble_eq_true rfl, by decide⟩ (Or.inr (x_okt (ok_st hS hs))) (k_fill hS tl0.1 s (v_roomFor s (y_sz (M (88 + w) 1)) M) (y_sz (M (88 + w) 1)) w hs (by omega) (by omega) (by omega)) ?_
    rintro v_ h_ ⟨e6, tl7⟩
    cases e6
    have tl9 := tl_trans tl0 (tl7)
    have n10 := tl_n tl7
    show x_Ev 59 25 [.inr 1, .inr (88 + w), .inr (88 + p), .inr (3 + 7 * s), .inl (v_roomFor s (y_sz (M (88 + w) 1)) M), x_un] [] (0, 0) (z, P, (u_fill s (v_roomFor s (y_sz (M (88 + w) 1)) M) (y_sz (M (88 + w) 1)) w M)) _
    refine e_aload (k := 25) (xi59 25) rfl (by omega) ?_
    refine e_aload (k := 26) (xi59 26) rfl (by omega) ?_
    have s11 := y_sz_in ((((u_fill s (v_roomFor s (y_sz (M (88 + w) 1)) M) (y_sz (M (88 + w) 1)) w M)) (88 + p) 1))
    refine e_call (k := 27) (v := some (.inl (y_sz (((u_fill s (v_roomFor s (y_sz (M (88 + w) 1)) M) (y_sz (M (88 + w) 1)) w M)) (88 + p) 1)))) (h1 := (z, P, (u_fill s (v_roomFor s (y_sz (M (88 + w) 1)) M) (y_sz (M (88 + w) 1)) w M))) (c1 := 0) (c2 := 0) (rest := [.inr (3 + 7 * s)]) (as := [.inr (88 + p)]) (xi59 27) (by decide) xm70 rfl ⟨rfl, Nat.le_of_ble_eq_true rfl, by decide⟩ (Or.inr (x_okt (ok_wh hS hp))) (k_size hS tl9.1 p hp ) ?_
    refine e_callR (k := 28) (c1 := 0) (c2 := 0) (rest := []) (as := [.inr (3 + 7 * s), .inl (y_sz (((u_fill s (v_roomFor s (y_sz (M (88 + w) 1)) M) (y_sz (M (88 + w) 1)) w M)) (88 + p) 1))]) (xi59 28) (by decide) xm25 rfl ⟨rfl, Nat.le_of_ble_eq_true rfl, by decide⟩ (Or.inr (x_okt (ok_st hS hs))) (k_roomFor hS tl9.1 s (y_sz (((u_fill s (v_roomFor s (y_sz (M (88 + w) 1)) M) (y_sz (M (88 + w) 1)) w M)) (88 + p) 1)) hs (by omega)) ?_
    rintro v_ h_ ⟨e12, q14⟩
    cases e12
    show x_Ev 59 29 [.inr 1, .inr (88 + w), .inr (88 + p), .inr (3 + 7 * s), .inl (v_roomFor s (y_sz (M (88 + w) 1)) M), x_un] [.inl (v_roomFor s (y_sz (((u_fill s (v_roomFor s (y_sz (M (88 + w) 1)) M) (y_sz (M (88 + w) 1)) w M)) (88 + p) 1)) ((u_fill s (v_roomFor s (y_sz (M (88 + w) 1)) M) (y_sz (M (88 + w) 1)) w M)))] (0, 0) (z, P, (u_fill s (v_roomFor s (y_sz (M (88 + w) 1)) M) (y_sz (M (88 + w) 1)) w M)) _
    refine e_istore (k := 29) (xi59 29) (Nat.le_of_ble_eq_true rfl) ?_
    show x_Ev 59 30 [.inr 1, .inr (88 + w), .inr (88 + p), .inr (3 + 7 * s), .inl (v_roomFor s (y_sz (M (88 + w) 1)) M), .inl (v_roomFor s (y_sz (((u_fill s (v_roomFor s (y_sz (M (88 + w) 1)) M) (y_sz (M (88 + w) 1)) w M)) (88 + p) 1)) ((u_fill s (v_roomFor s (y_sz (M (88 + w) 1)) M) (y_sz (M (88 + w) 1)) w M)))] [] (0, 0) (z, P, (u_fill s (v_roomFor s (y_sz (M (88 + w) 1)) M) (y_sz (M (88 + w) 1)) w M)) _
    refine e_iload (k := 30) (xi59 30) rfl ?_
    refine e_iconst (k := 31) (xi59 31) ?_
    refine e_c_ne (k := 32) (xi59 32) (fun c1 => ?_) (fun c1 => ?_)
    · skip
      refine e_aload (k := 47) (xi59 47) rfl (by decide) ?_
      refine e_aload (k := 48) (xi59 48) rfl (by omega) ?_
      refine e_aload (k := 49) (xi59 49) rfl (by omega) ?_
      refine e_iload (k := 50) (xi59 50) rfl ?_
      refine e_callR (k := 51) (c1 := 0) (c2 := 0) (rest := []) (as := [.inr 1, .inr (88 + p), .inr (3 + 7 * s), .inl (v_roomFor s (y_sz (((u_fill s (v_roomFor s (y_sz (M (88 + w) 1)) M) (y_sz (M (88 + w) 1)) w M)) (88 + p) 1)) ((u_fill s (v_roomFor s (y_sz (M (88 + w) 1)) M) (y_sz (M (88 + w) 1)) w M)))]) (xi59 51) (by decide) xm54 rfl ⟨rfl, Nat.le_of_ble_eq_true rfl, by decide⟩ (Or.inr (x_okt (ok_town hS))) (k_putInDock hS tl9.1 p s (v_roomFor s (y_sz (((u_fill s (v_roomFor s (y_sz (M (88 + w) 1)) M) (y_sz (M (88 + w) 1)) w M)) (88 + p) 1)) ((u_fill s (v_roomFor s (y_sz (M (88 + w) 1)) M) (y_sz (M (88 + w) 1)) w M))) hp hs (by omega)) ?_
      rintro v_ h_ ⟨e15, tl16⟩
      cases e15
      have tl18 := tl_trans tl9 (tl16)
      have n19 := tl_n tl16
      show x_Ev 59 52 [.inr 1, .inr (88 + w), .inr (88 + p), .inr (3 + 7 * s), .inl (v_roomFor s (y_sz (M (88 + w) 1)) M), .inl (v_roomFor s (y_sz (((u_fill s (v_roomFor s (y_sz (M (88 + w) 1)) M) (y_sz (M (88 + w) 1)) w M)) (88 + p) 1)) ((u_fill s (v_roomFor s (y_sz (M (88 + w) 1)) M) (y_sz (M (88 + w) 1)) w M)))] [] (0, 0) (z, P, (u_putInDock p s (v_roomFor s (y_sz (((u_fill s (v_roomFor s (y_sz (M (88 + w) 1)) M) (y_sz (M (88 + w) 1)) w M)) (88 + p) 1)) ((u_fill s (v_roomFor s (y_sz (M (88 + w) 1)) M) (y_sz (M (88 + w) 1)) w M))) ((u_fill s (v_roomFor s (y_sz (M (88 + w) 1)) M) (y_sz (M (88 + w) 1)) w M)))) _
      refine e_aload (k := 52) (xi59 52) rfl (by decide) ?_
      refine e_aload (k := 53) (xi59 53) rfl (by omega) ?_
      refine e_aload (k := 54) (xi59 54) rfl (by omega) ?_
      refine e_iload (k := 55) (xi59 55) rfl ?_
      refine e_callR (k := 56) (c1 := 0) (c2 := 0) (rest := []) (as := [.inr 1, .inr (88 + w), .inr (3 + 7 * s), .inl (v_roomFor s (y_sz (M (88 + w) 1)) M)]) (xi59 56) (by decide) xm54 rfl ⟨rfl, Nat.le_of_ble_eq_true rfl, by decide⟩ (Or.inr (x_okt (ok_town hS))) (k_putInDock hS tl18.1 w s (v_roomFor s (y_sz (M (88 + w) 1)) M) hw hs (by omega)) ?_
      rintro v_ h_ ⟨e20, tl21⟩
      cases e20
      have tl23 := tl_trans tl18 (tl21)
      have n24 := tl_n tl21
      show x_Ev 59 57 [.inr 1, .inr (88 + w), .inr (88 + p), .inr (3 + 7 * s), .inl (v_roomFor s (y_sz (M (88 + w) 1)) M), .inl (v_roomFor s (y_sz (((u_fill s (v_roomFor s (y_sz (M (88 + w) 1)) M) (y_sz (M (88 + w) 1)) w M)) (88 + p) 1)) ((u_fill s (v_roomFor s (y_sz (M (88 + w) 1)) M) (y_sz (M (88 + w) 1)) w M)))] [] (0, 0) (z, P, (u_putInDock w s (v_roomFor s (y_sz (M (88 + w) 1)) M) ((u_putInDock p s (v_roomFor s (y_sz (((u_fill s (v_roomFor s (y_sz (M (88 + w) 1)) M) (y_sz (M (88 + w) 1)) w M)) (88 + p) 1)) ((u_fill s (v_roomFor s (y_sz (M (88 + w) 1)) M) (y_sz (M (88 + w) 1)) w M))) ((u_fill s (v_roomFor s (y_sz (M (88 + w) 1)) M) (y_sz (M (88 + w) 1)) w M)))))) _
      refine e_iconst (k := 57) (xi59 57) ?_
      refine e_zret (k := 58) (xi59 58) (by first | decide | omega) ?_
      exact y_fW (Q := fun v => 0 ≤ v ∧ v ≤ 1) (show v_docksBoth1 w p s M = 1 from by rw [v_docksBoth1, if_pos c0, if_pos c1]) (show u_docksBoth1 w p s M = (u_putInDock w s (v_roomFor s (y_sz (M (88 + w) 1)) M) ((u_putInDock p s (v_roomFor s (y_sz (((u_fill s (v_roomFor s (y_sz (M (88 + w) 1)) M) (y_sz (M (88 + w) 1)) w M)) (88 + p) 1)) ((u_fill s (v_roomFor s (y_sz (M (88 + w) 1)) M) (y_sz (M (88 + w) 1)) w M))) ((u_fill s (v_roomFor s (y_sz (M (88 + w) 1)) M) (y_sz (M (88 + w) 1)) w M))))) from by rw [u_docksBoth1, if_pos c0, if_pos c1]) tl23 (by omega)
    · skip
      refine e_aload (k := 33) (xi59 33) rfl (by omega) ?_
      refine e_iload (k := 34) (xi59 34) rfl ?_
      refine e_aload (k := 35) (xi59 35) rfl (by omega) ?_
      have s25 := y_sz_in ((((u_fill s (v_roomFor s (y_sz (M (88 + w) 1)) M) (y_sz (M (88 + w) 1)) w M)) (88 + w) 1))
      refine e_call (k := 36) (v := some (.inl (y_sz (((u_fill s (v_roomFor s (y_sz (M (88 + w) 1)) M) (y_sz (M (88 + w) 1)) w M)) (88 + w) 1)))) (h1 := (z, P, (u_fill s (v_roomFor s (y_sz (M (88 + w) 1)) M) (y_sz (M (88 + w) 1)) w M))) (c1 := 0) (c2 := 0) (rest := [.inl (v_roomFor s (y_sz (M (88 + w) 1)) M), .inr (3 + 7 * s)]) (as := [.inr (88 + w)]) (xi59 36) (by decide) xm70 rfl ⟨rfl, Nat.le_of_ble_eq_true rfl, by decide⟩ (Or.inr (x_okt (ok_wh hS hw))) (k_size hS tl9.1 w hw ) ?_
      refine e_iconst (k := 37) (xi59 37) ?_
      refine e_callR (k := 38) (c1 := 0) (c2 := 0) (rest := []) (as := [.inr (3 + 7 * s), .inl (v_roomFor s (y_sz (M (88 + w) 1)) M), .inl (y_sz (((u_fill s (v_roomFor s (y_sz (M (88 + w) 1)) M) (y_sz (M (88 + w) 1)) w M)) (88 + w) 1)), .inl ((-1))]) (xi59 38) (by decide) xm26 rfl ⟨rfl, Nat.le_of_ble_eq_true rfl, by decide⟩ (Or.inr (x_okt (ok_st hS hs))) (k_fill hS tl9.1 s (v_roomFor s (y_sz (M (88 + w) 1)) M) (y_sz (((u_fill s (v_roomFor s (y_sz (M (88 + w) 1)) M) (y_sz (M (88 + w) 1)) w M)) (88 + w) 1)) ((-1)) hs (by omega) (by omega) (by omega)) ?_
      rintro v_ h_ ⟨e26, tl27⟩
      cases e26
      have tl29 := tl_trans tl9 (tl27)
      have n30 := tl_n tl27
      show x_Ev 59 39 [.inr 1, .inr (88 + w), .inr (88 + p), .inr (3 + 7 * s), .inl (v_roomFor s (y_sz (M (88 + w) 1)) M), .inl (v_roomFor s (y_sz (((u_fill s (v_roomFor s (y_sz (M (88 + w) 1)) M) (y_sz (M (88 + w) 1)) w M)) (88 + p) 1)) ((u_fill s (v_roomFor s (y_sz (M (88 + w) 1)) M) (y_sz (M (88 + w) 1)) w M)))] [] (0, 0) (z, P, (u_fill s (v_roomFor s (y_sz (M (88 + w) 1)) M) (y_sz (((u_fill s (v_roomFor s (y_sz (M (88 + w) 1)) M) (y_sz (M (88 + w) 1)) w M)) (88 + w) 1)) ((-1)) ((u_fill s (v_roomFor s (y_sz (M (88 + w) 1)) M) (y_sz (M (88 + w) 1)) w M)))) _
      refine e_aload (k := 39) (xi59 39) rfl (by omega) ?_
      refine e_dup (k := 40) (xi59 40) ?_
      refine e_getI (j := 7) (w := ((u_fill s (v_roomFor s (y_sz (M (88 + w) 1)) M) (y_sz (((u_fill s (v_roomFor s (y_sz (M (88 + w) 1)) M) (y_sz (M (88 + w) 1)) w M)) (88 + w) 1)) ((-1)) ((u_fill s (v_roomFor s (y_sz (M (88 + w) 1)) M) (y_sz (M (88 + w) 1)) w M)))) (3 + 7 * s) 7) (k := 41) (xi59 41) (ok_st hS hs) rfl rfl ?_
      refine e_iconst (k := 42) (xi59 42) ?_
      refine e_iadd (w := x_w (1 + ((u_fill s (v_roomFor s (y_sz (M (88 + w) 1)) M) (y_sz (((u_fill s (v_roomFor s (y_sz (M (88 + w) 1)) M) (y_sz (M (88 + w) 1)) w M)) (88 + w) 1)) ((-1)) ((u_fill s (v_roomFor s (y_sz (M (88 + w) 1)) M) (y_sz (M (88 + w) 1)) w M)))) (3 + 7 * s) 7)) (k := 43) (xi59 43) (x_wr (by omega)) ?_
      refine e_putI (j := 7) (k := 44) (xi59 44) (ok_st hS hs) rfl ?_
      have tl31 : y_TL 0 M (x_up ((u_fill s (v_roomFor s (y_sz (M (88 + w) 1)) M) (y_sz (((u_fill s (v_roomFor s (y_sz (M (88 + w) 1)) M) (y_sz (M (88 + w) 1)) w M)) (88 + w) 1)) ((-1)) ((u_fill s (v_roomFor s (y_sz (M (88 + w) 1)) M) (y_sz (M (88 + w) 1)) w M)))) (3 + 7 * s) 7 (x_w (1 + ((u_fill s (v_roomFor s (y_sz (M (88 + w) 1)) M) (y_sz (((u_fill s (v_roomFor s (y_sz (M (88 + w) 1)) M) (y_sz (M (88 + w) 1)) w M)) (88 + w) 1)) ((-1)) ((u_fill s (v_roomFor s (y_sz (M (88 + w) 1)) M) (y_sz (M (88 + w) 1)) w M)))) (3 + 7 * s) 7))) := tl_up tl29 (sl_st7 hs ) (nf_st7 hs)
      refine e_iconst (k := 45) (xi59 45) ?_
      refine e_zret (k := 46) (xi59 46) (by first | decide | omega) ?_
      exact y_fW (Q := fun v => 0 ≤ v ∧ v ≤ 1) (show v_docksBoth1 w p s M = 0 from by rw [v_docksBoth1, if_pos c0, if_neg c1]) (show u_docksBoth1 w p s M = (x_up ((u_fill s (v_roomFor s (y_sz (M (88 + w) 1)) M) (y_sz (((u_fill s (v_roomFor s (y_sz (M (88 + w) 1)) M) (y_sz (M (88 + w) 1)) w M)) (88 + w) 1)) ((-1)) ((u_fill s (v_roomFor s (y_sz (M (88 + w) 1)) M) (y_sz (M (88 + w) 1)) w M)))) (3 + 7 * s) 7 (x_w (1 + ((u_fill s (v_roomFor s (y_sz (M (88 + w) 1)) M) (y_sz (((u_fill s (v_roomFor s (y_sz (M (88 + w) 1)) M) (y_sz (M (88 + w) 1)) w M)) (88 + w) 1)) ((-1)) ((u_fill s (v_roomFor s (y_sz (M (88 + w) 1)) M) (y_sz (M (88 + w) 1)) w M)))) (3 + 7 * s) 7))) from by rw [u_docksBoth1, if_pos c0, if_neg c1]) tl31 (by omega)
  · skip
    refine e_aload (k := 8) (xi59 8) rfl (by omega) ?_
    refine e_dup (k := 9) (xi59 9) ?_
    refine e_getI (j := 7) (w := M (3 + 7 * s) 7) (k := 10) (xi59 10) (ok_st hS hs) rfl rfl ?_
    refine e_iconst (k := 11) (xi59 11) ?_
    refine e_iadd (w := x_w (1 + M (3 + 7 * s) 7)) (k := 12) (xi59 12) (x_wr (by omega)) ?_
    refine e_putI (j := 7) (k := 13) (xi59 13) (ok_st hS hs) rfl ?_
    have tl32 : y_TL 0 M (x_up M (3 + 7 * s) 7 (x_w (1 + M (3 + 7 * s) 7))) := tl_up tl0 (sl_st7 hs ) (nf_st7 hs)
    refine e_iconst (k := 14) (xi59 14) ?_
    refine e_zret (k := 15) (xi59 15) (by first | decide | omega) ?_
    exact y_fW (Q := fun v => 0 ≤ v ∧ v ≤ 1) (show v_docksBoth1 w p s M = 0 from by rw [v_docksBoth1, if_neg c0]) (show u_docksBoth1 w p s M = (x_up M (3 + 7 * s) 7 (x_w (1 + M (3 + 7 * s) 7))) from by rw [u_docksBoth1, if_neg c0]) tl32 (by omega)
def u_leaveOnStreet1 (w p s : Int) (M : Int → Int → Int) : Int → Int → Int := (u_moveTo p 3 s ((-1)) ((u_moveTo w 3 s ((-1)) M)))
theorem k_leaveOnStreet1 {z : Int} {P M : Int → Int → Int} (hS : x_Sh z P) (hT : y_TC M) (w : Int) (p : Int) (s : Int) (hw : 0 ≤ w ∧ w < 60) (hp : 0 ≤ p ∧ p < 60) (hs : -1 ≤ s ∧ s ≤ 11) : x_CallR 60 [.inr 1, .inr (88 + w), .inr (88 + p), .inl (s)] (z, P, M) (fun q => q = (none, (z, P, u_leaveOnStreet1 w p s M)) ∧ y_TL 0 M (u_leaveOnStreet1 w p s M)) := by
  have tl0 : y_TL 0 M M := tl_refl hT
  refine e_body (ls0 := [.inr 1, .inr (88 + w), .inr (88 + p), .inl (s)]) xm60 rfl ?_
  refine e_aload (k := 0) (xi60 0) rfl (by omega) ?_
  refine e_iconst (k := 1) (xi60 1) ?_
  refine e_iload (k := 2) (xi60 2) rfl ?_
  refine e_iconst (k := 3) (xi60 3) ?_
  refine e_callR (k := 4) (c1 := 0) (c2 := 0) (rest := []) (as := [.inr (88 + w), .inl 3, .inl (s), .inl ((-1))]) (xi60 4) (by decide) xm68 rfl ⟨rfl, Nat.le_of_ble_eq_true rfl, by decide⟩ (Or.inr (x_okt (ok_wh hS hw))) (k_moveTo hS tl0.1 w 3 s ((-1)) hw (by omega) (by omega) (by omega)) ?_
  rintro v_ h_ ⟨e1, tl2⟩
  cases e1
  have tl4 := tl_trans tl0 (tl2)
  have n5 := tl_n tl2
  show x_Ev 60 5 [.inr 1, .inr (88 + w), .inr (88 + p), .inl (s)] [] (0, 0) (z, P, (u_moveTo w 3 s ((-1)) M)) _
  refine e_aload (k := 5) (xi60 5) rfl (by omega) ?_
  refine e_ifnull (k := 6) (xi60 6) (by omega) (fun q => absurd q (by omega)) (fun _ => ?_)
  refine e_aload (k := 7) (xi60 7) rfl (by omega) ?_
  refine e_iconst (k := 8) (xi60 8) ?_
  refine e_iload (k := 9) (xi60 9) rfl ?_
  refine e_iconst (k := 10) (xi60 10) ?_
  refine e_callR (k := 11) (c1 := 0) (c2 := 0) (rest := []) (as := [.inr (88 + p), .inl 3, .inl (s), .inl ((-1))]) (xi60 11) (by decide) xm68 rfl ⟨rfl, Nat.le_of_ble_eq_true rfl, by decide⟩ (Or.inr (x_okt (ok_wh hS hp))) (k_moveTo hS tl4.1 p 3 s ((-1)) hp (by omega) (by omega) (by omega)) ?_
  rintro v_ h_ ⟨e6, tl7⟩
  cases e6
  have tl9 := tl_trans tl4 (tl7)
  have n10 := tl_n tl7
  show x_Ev 60 12 [.inr 1, .inr (88 + w), .inr (88 + p), .inl (s)] [] (0, 0) (z, P, (u_moveTo p 3 s ((-1)) ((u_moveTo w 3 s ((-1)) M)))) _
  refine e_vret (k := 12) (xi60 12) ?_
  exact y_fU (show u_leaveOnStreet1 w p s M = (u_moveTo p 3 s ((-1)) ((u_moveTo w 3 s ((-1)) M))) from rfl) tl9
def u_moveCart (c s : Int) (M : Int → Int → Int) : Int → Int → Int := (x_up ((x_up M (149 + 2 * c) 4 (x_w (M (149 + 2 * c) 4 + v_lengthBetween (M (149 + 2 * c) 2) s M)))) (149 + 2 * c) 2 s)
theorem k_moveCart {z : Int} {P M : Int → Int → Int} (hS : x_Sh z P) (hT : y_TC M) (c : Int) (s : Int) (hc : 0 ≤ c ∧ c < 3) (hs : 0 ≤ s ∧ s ≤ 11) : x_CallR 61 [.inr 1, .inr (149 + 2 * c), .inl (s)] (z, P, M) (fun q => q = (none, (z, P, u_moveCart c s M)) ∧ y_TL 0 M (u_moveCart c s M)) := by
  have tl0 : y_TL 0 M M := tl_refl hT
  refine e_body (ls0 := [.inr 1, .inr (149 + 2 * c), .inl (s)]) xm61 rfl ?_
  refine e_aload (k := 0) (xi61 0) rfl (by omega) ?_
  refine e_dup (k := 1) (xi61 1) ?_
  refine e_getI (j := 4) (w := M (149 + 2 * c) 4) (k := 2) (xi61 2) (ok_ca hS hc) rfl rfl ?_
  refine e_aload (k := 3) (xi61 3) rfl (by decide) ?_
  refine e_aload (k := 4) (xi61 4) rfl (by omega) ?_
  have t1 := ty_ca2 tl0.1 hc
  refine e_getI (j := 2) (w := M (149 + 2 * c) 2) (k := 5) (xi61 5) (ok_ca hS hc) rfl rfl ?_
  refine e_iload (k := 6) (xi61 6) rfl ?_
  refine e_callR (k := 7) (c1 := 0) (c2 := 0) (rest := [.inl (M (149 + 2 * c) 4), .inr (149 + 2 * c)]) (as := [.inr 1, .inl (M (149 + 2 * c) 2), .inl (s)]) (xi61 7) (by decide) xm52 rfl ⟨rfl, Nat.le_of_ble_eq_true rfl, by decide⟩ (Or.inr (x_okt (ok_town hS))) (k_lengthBetween hS tl0.1 (M (149 + 2 * c) 2) s  ) ?_
  rintro v_ h_ ⟨e2, q4⟩
  cases e2
  show x_Ev 61 8 [.inr 1, .inr (149 + 2 * c), .inl (s)] [.inl (v_lengthBetween (M (149 + 2 * c) 2) s M), .inl (M (149 + 2 * c) 4), .inr (149 + 2 * c)] (0, 0) (z, P, M) _
  refine e_iadd (w := x_w (M (149 + 2 * c) 4 + v_lengthBetween (M (149 + 2 * c) 2) s M)) (k := 8) (xi61 8) (x_wr (by omega)) ?_
  refine e_putI (j := 4) (k := 9) (xi61 9) (ok_ca hS hc) rfl ?_
  have tl5 : y_TL 0 M (x_up M (149 + 2 * c) 4 (x_w (M (149 + 2 * c) 4 + v_lengthBetween (M (149 + 2 * c) 2) s M))) := tl_up tl0 (sl_ca4 hc ) (nf_ca4 hc)
  refine e_aload (k := 10) (xi61 10) rfl (by omega) ?_
  refine e_iload (k := 11) (xi61 11) rfl ?_
  refine e_putI (j := 2) (k := 12) (xi61 12) (ok_ca hS hc) rfl ?_
  have tl6 : y_TL 0 M (x_up ((x_up M (149 + 2 * c) 4 (x_w (M (149 + 2 * c) 4 + v_lengthBetween (M (149 + 2 * c) 2) s M)))) (149 + 2 * c) 2 s) := tl_up tl5 (sl_ca2 hc (by omega)) (nf_ca2 hc)
  refine e_vret (k := 13) (xi61 13) ?_
  exact y_fU (show u_moveCart c s M = (x_up ((x_up M (149 + 2 * c) 4 (x_w (M (149 + 2 * c) 4 + v_lengthBetween (M (149 + 2 * c) 2) s M)))) (149 + 2 * c) 2 s) from rfl) tl6
def u_takeFromDock (c w : Int) (M : Int → Int → Int) : Int → Int → Int := if x_w (M (149 + 2 * c) 3 + y_sz (M (88 + w) 1)) ≤ M (149 + 2 * c) 1 ∧ M (149 + 2 * c) 6 < 8 then (u_takeOn c w ((u_clearDock w M))) else M
theorem k_takeFromDock {z : Int} {P M : Int → Int → Int} (hS : x_Sh z P) (hT : y_TC M) (c : Int) (w : Int) (hc : 0 ≤ c ∧ c < 3) (hw : 0 ≤ w ∧ w < 60)  : x_CallR 62 [.inr 1, .inr (149 + 2 * c), .inr (88 + w)] (z, P, M) (fun q => q = (none, (z, P, u_takeFromDock c w M)) ∧ y_TL 0 M (u_takeFromDock c w M)) := by
  have tl0 : y_TL 0 M M := tl_refl hT
  refine e_body (ls0 := [.inr 1, .inr (149 + 2 * c), .inr (88 + w)]) xm62 rfl ?_
  refine e_aload (k := 0) (xi62 0) rfl (by omega) ?_
  refine e_aload (k := 1) (xi62 1) rfl (by omega) ?_
  have t1 := ty_ca6 tl0.1 hc
  refine e_call (k := 2) (v := some (.inl (x_b (x_w (M (149 + 2 * c) 3 + y_sz (M (88 + w) 1)) ≤ M (149 + 2 * c) 1 ∧ M (149 + 2 * c) 6 < 8)))) (h1 := (z, P, M)) (c1 := 0) (c2 := 0) (rest := []) (as := [.inr (149 + 2 * c), .inr (88 + w)]) (xi62 2) (by decide) xm3 rfl ⟨rfl, Nat.le_of_ble_eq_true rfl, by decide⟩ (Or.inr (x_okt (ok_ca hS hc))) (k_hasRoomFor hS tl0.1 c w hc hw ) ?_
  refine e_b_eq (k := 3) (xi62 3) (fun c0 => ?_) (fun c0 => ?_)
  · skip
    refine e_aload (k := 4) (xi62 4) rfl (by decide) ?_
    refine e_aload (k := 5) (xi62 5) rfl (by omega) ?_
    refine e_callR (k := 6) (c1 := 0) (c2 := 0) (rest := []) (as := [.inr 1, .inr (88 + w)]) (xi62 6) (by decide) xm55 rfl ⟨rfl, Nat.le_of_ble_eq_true rfl, by decide⟩ (Or.inr (x_okt (ok_town hS))) (k_clearDock hS tl0.1 w hw ) ?_
    rintro v_ h_ ⟨e2, tl3⟩
    cases e2
    have tl5 := tl_trans tl0 (tl3)
    have n6 := tl_n tl3
    show x_Ev 62 7 [.inr 1, .inr (149 + 2 * c), .inr (88 + w)] [] (0, 0) (z, P, (u_clearDock w M)) _
    refine e_aload (k := 7) (xi62 7) rfl (by omega) ?_
    refine e_aload (k := 8) (xi62 8) rfl (by omega) ?_
    refine e_callR (k := 9) (c1 := 0) (c2 := 0) (rest := []) (as := [.inr (149 + 2 * c), .inr (88 + w)]) (xi62 9) (by decide) xm5 rfl ⟨rfl, Nat.le_of_ble_eq_true rfl, by decide⟩ (Or.inr (x_okt (ok_ca hS hc))) (k_takeOn hS tl5.1 c w hc hw ) ?_
    rintro v_ h_ ⟨e7, tl8⟩
    cases e7
    have tl10 := tl_trans tl5 (tl8)
    have n11 := tl_n tl8
    show x_Ev 62 10 [.inr 1, .inr (149 + 2 * c), .inr (88 + w)] [] (0, 0) (z, P, (u_takeOn c w ((u_clearDock w M)))) _
    refine e_vret (k := 10) (xi62 10) ?_
    exact y_fU (show u_takeFromDock c w M = (u_takeOn c w ((u_clearDock w M))) from by rw [u_takeFromDock, if_pos c0]) tl10
  · skip
    refine e_vret (k := 10) (xi62 10) ?_
    exact y_fU (show u_takeFromDock c w M = M from by rw [u_takeFromDock, if_neg c0]) tl0
def v_giveFirst (c w : Int) (M : Int → Int → Int) : Int := if 0 ≤ (M (149 + 2 * c) 2) ∧ (M (149 + 2 * c) 2) < M 1 1 then (if v_roomFor ((M (149 + 2 * c) 2)) (y_sz (M (88 + w) 1)) M = (-1) then 0 else if v_wheelOn c 0 M = w then 1 else 0) else 0
def u_giveFirst (c w : Int) (M : Int → Int → Int) : Int → Int → Int := if 0 ≤ (M (149 + 2 * c) 2) ∧ (M (149 + 2 * c) 2) < M 1 1 then (if v_roomFor ((M (149 + 2 * c) 2)) (y_sz (M (88 + w) 1)) M = (-1) then M else if v_wheelOn c 0 M = w then (u_putInDock w ((M (149 + 2 * c) 2)) (v_roomFor ((M (149 + 2 * c) 2)) (y_sz (M (88 + w) 1)) M) ((u_letFirstGo c w M))) else M) else M
theorem k_giveFirst {z : Int} {P M : Int → Int → Int} (hS : x_Sh z P) (hT : y_TC M) (c : Int) (w : Int) (hc : 0 ≤ c ∧ c < 3) (hw : 0 ≤ w ∧ w < 60)  : x_CallR 63 [.inr 1, .inr (149 + 2 * c), .inr (88 + w)] (z, P, M) (fun q => q = (some (.inl (v_giveFirst c w M)), (z, P, u_giveFirst c w M)) ∧ y_TL 0 M (u_giveFirst c w M) ∧ (fun v => 0 ≤ v ∧ v ≤ 1) (v_giveFirst c w M)) := by
  have tl0 : y_TL 0 M M := tl_refl hT
  refine e_body (ls0 := [.inr 1, .inr (149 + 2 * c), .inr (88 + w), x_un, x_un]) xm63 rfl ?_
  refine e_aload (k := 0) (xi63 0) rfl (by decide) ?_
  refine e_aload (k := 1) (xi63 1) rfl (by omega) ?_
  have t1 := ty_ca2 tl0.1 hc
  refine e_getI (j := 2) (w := M (149 + 2 * c) 2) (k := 2) (xi63 2) (ok_ca hS hc) rfl rfl ?_
  have t2 := ty_town1 tl0.1 
  by_cases c0 : 0 ≤ (M (149 + 2 * c) 2) ∧ (M (149 + 2 * c) 2) < M 1 1
  · skip
    refine e_call (k := 3) (v := some (.inr (3 + 7 * ((M (149 + 2 * c) 2))))) (h1 := (z, P, M)) (c1 := 0) (c2 := 0) (rest := []) (as := [.inr 1, .inl (M (149 + 2 * c) 2)]) (xi63 3) (by decide) xm40 rfl ⟨rfl, Nat.le_of_ble_eq_true rfl, by decide⟩ (Or.inr (x_okt (ok_town hS))) (k_standAtT hS tl0.1 (M (149 + 2 * c) 2) c0) ?_
    refine e_astore (k := 4) (xi63 4) (Nat.le_of_ble_eq_true rfl) (by omega) ?_
    show x_Ev 63 5 [.inr 1, .inr (149 + 2 * c), .inr (88 + w), .inr (3 + 7 * ((M (149 + 2 * c) 2))), x_un] [] (0, 0) (z, P, M) _
    refine e_aload (k := 5) (xi63 5) rfl (by omega) ?_
    refine e_ifnonnull (k := 6) (xi63 6) (by omega) (fun _ => ?_) (fun q => absurd q (by omega))
    refine e_aload (k := 9) (xi63 9) rfl (by omega) ?_
    refine e_aload (k := 10) (xi63 10) rfl (by omega) ?_
    have s3 := y_sz_in ((M (88 + w) 1))
    refine e_call (k := 11) (v := some (.inl (y_sz (M (88 + w) 1)))) (h1 := (z, P, M)) (c1 := 0) (c2 := 0) (rest := [.inr (3 + 7 * ((M (149 + 2 * c) 2)))]) (as := [.inr (88 + w)]) (xi63 11) (by decide) xm70 rfl ⟨rfl, Nat.le_of_ble_eq_true rfl, by decide⟩ (Or.inr (x_okt (ok_wh hS hw))) (k_size hS tl0.1 w hw ) ?_
    refine e_callR (k := 12) (c1 := 0) (c2 := 0) (rest := []) (as := [.inr (3 + 7 * ((M (149 + 2 * c) 2))), .inl (y_sz (M (88 + w) 1))]) (xi63 12) (by decide) xm25 rfl ⟨rfl, Nat.le_of_ble_eq_true rfl, by decide⟩ (Or.inr (x_okt (ok_st hS (show 0 ≤ (M (149 + 2 * c) 2) ∧ (M (149 + 2 * c) 2) < 12 by omega)))) (k_roomFor hS tl0.1 ((M (149 + 2 * c) 2)) (y_sz (M (88 + w) 1)) (show 0 ≤ (M (149 + 2 * c) 2) ∧ (M (149 + 2 * c) 2) < 12 by omega) (by omega)) ?_
    rintro v_ h_ ⟨e4, q6⟩
    cases e4
    show x_Ev 63 13 [.inr 1, .inr (149 + 2 * c), .inr (88 + w), .inr (3 + 7 * ((M (149 + 2 * c) 2))), x_un] [.inl (v_roomFor ((M (149 + 2 * c) 2)) (y_sz (M (88 + w) 1)) M)] (0, 0) (z, P, M) _
    refine e_istore (k := 13) (xi63 13) (Nat.le_of_ble_eq_true rfl) ?_
    show x_Ev 63 14 [.inr 1, .inr (149 + 2 * c), .inr (88 + w), .inr (3 + 7 * ((M (149 + 2 * c) 2))), .inl (v_roomFor ((M (149 + 2 * c) 2)) (y_sz (M (88 + w) 1)) M)] [] (0, 0) (z, P, M) _
    refine e_aload (k := 14) (xi63 14) rfl (by omega) ?_
    refine e_ifnull (k := 15) (xi63 15) (by omega) (fun q => absurd q (by omega)) (fun _ => ?_)
    refine e_iload (k := 16) (xi63 16) rfl ?_
    refine e_iconst (k := 17) (xi63 17) ?_
    refine e_c_eq (k := 18) (xi63 18) (fun c1 => ?_) (fun c1 => ?_)
    · skip
      refine e_iconst (k := 25) (xi63 25) ?_
      refine e_zret (k := 26) (xi63 26) (by first | decide | omega) ?_
      exact y_fW (Q := fun v => 0 ≤ v ∧ v ≤ 1) (show v_giveFirst c w M = 0 from by rw [v_giveFirst, if_pos c0, if_pos c1]) (show u_giveFirst c w M = M from by rw [u_giveFirst, if_pos c0, if_pos c1]) tl0 (by omega)
    · skip
      refine e_aload (k := 19) (xi63 19) rfl (by omega) ?_
      refine e_iconst (k := 20) (xi63 20) ?_
      refine e_callR (k := 21) (c1 := 0) (c2 := 0) (rest := []) (as := [.inr (149 + 2 * c), .inl 0]) (xi63 21) (by decide) xm4 rfl ⟨rfl, Nat.le_of_ble_eq_true rfl, by decide⟩ (Or.inr (x_okt (ok_ca hS hc))) (k_wheelOn hS tl0.1 c 0 hc ) ?_
      rintro v_ h_ ⟨e7, q9⟩
      cases e7
      show x_Ev 63 22 [.inr 1, .inr (149 + 2 * c), .inr (88 + w), .inr (3 + 7 * ((M (149 + 2 * c) 2))), .inl (v_roomFor ((M (149 + 2 * c) 2)) (y_sz (M (88 + w) 1)) M)] [.inl (v_wheelOn c 0 M)] (0, 0) (z, P, M) _
      refine e_aload (k := 22) (xi63 22) rfl (by omega) ?_
      refine e_getI (j := 0) (w := w) (k := 23) (xi63 23) (ok_wh hS hw) rfl ((nu_wh tl0.1 hw)) ?_
      refine e_c_eq (k := 24) (xi63 24) (fun c2 => ?_) (fun c2 => ?_)
      · skip
        refine e_aload (k := 27) (xi63 27) rfl (by omega) ?_
        refine e_aload (k := 28) (xi63 28) rfl (by omega) ?_
        refine e_callR (k := 29) (c1 := 0) (c2 := 0) (rest := []) (as := [.inr (149 + 2 * c), .inr (88 + w)]) (xi63 29) (by decide) xm6 rfl ⟨rfl, Nat.le_of_ble_eq_true rfl, by decide⟩ (Or.inr (x_okt (ok_ca hS hc))) (k_letFirstGo hS tl0.1 c w hc hw (by omega)) ?_
        rintro v_ h_ ⟨e10, tl11⟩
        cases e10
        have tl13 := tl_trans tl0 (tl11)
        have n14 := tl_n tl11
        show x_Ev 63 30 [.inr 1, .inr (149 + 2 * c), .inr (88 + w), .inr (3 + 7 * ((M (149 + 2 * c) 2))), .inl (v_roomFor ((M (149 + 2 * c) 2)) (y_sz (M (88 + w) 1)) M)] [] (0, 0) (z, P, (u_letFirstGo c w M)) _
        refine e_aload (k := 30) (xi63 30) rfl (by decide) ?_
        refine e_aload (k := 31) (xi63 31) rfl (by omega) ?_
        refine e_aload (k := 32) (xi63 32) rfl (by omega) ?_
        refine e_iload (k := 33) (xi63 33) rfl ?_
        refine e_callR (k := 34) (c1 := 0) (c2 := 0) (rest := []) (as := [.inr 1, .inr (88 + w), .inr (3 + 7 * ((M (149 + 2 * c) 2))), .inl (v_roomFor ((M (149 + 2 * c) 2)) (y_sz (M (88 + w) 1)) M)]) (xi63 34) (by decide) xm54 rfl ⟨rfl, Nat.le_of_ble_eq_true rfl, by decide⟩ (Or.inr (x_okt (ok_town hS))) (k_putInDock hS tl13.1 w ((M (149 + 2 * c) 2)) (v_roomFor ((M (149 + 2 * c) 2)) (y_sz (M (88 + w) 1)) M) hw (show 0 ≤ (M (149 + 2 * c) 2) ∧ (M (149 + 2 * c) 2) < 12 by omega) (by omega)) ?_
        rintro v_ h_ ⟨e15, tl16⟩
        cases e15
        have tl18 := tl_trans tl13 (tl16)
        have n19 := tl_n tl16
        show x_Ev 63 35 [.inr 1, .inr (149 + 2 * c), .inr (88 + w), .inr (3 + 7 * ((M (149 + 2 * c) 2))), .inl (v_roomFor ((M (149 + 2 * c) 2)) (y_sz (M (88 + w) 1)) M)] [] (0, 0) (z, P, (u_putInDock w ((M (149 + 2 * c) 2)) (v_roomFor ((M (149 + 2 * c) 2)) (y_sz (M (88 + w) 1)) M) ((u_letFirstGo c w M)))) _
        refine e_iconst (k := 35) (xi63 35) ?_
        refine e_zret (k := 36) (xi63 36) (by first | decide | omega) ?_
        exact y_fW (Q := fun v => 0 ≤ v ∧ v ≤ 1) (show v_giveFirst c w M = 1 from by rw [v_giveFirst, if_pos c0, if_neg c1, if_pos c2]) (show u_giveFirst c w M = (u_putInDock w ((M (149 + 2 * c) 2)) (v_roomFor ((M (149 + 2 * c) 2)) (y_sz (M (88 + w) 1)) M) ((u_letFirstGo c w M))) from by rw [u_giveFirst, if_pos c0, if_neg c1, if_pos c2]) tl18 (by omega)
      · skip
        refine e_iconst (k := 25) (xi63 25) ?_
        refine e_zret (k := 26) (xi63 26) (by first | decide | omega) ?_
        exact y_fW (Q := fun v => 0 ≤ v ∧ v ≤ 1) (show v_giveFirst c w M = 0 from by rw [v_giveFirst, if_pos c0, if_neg c1, if_neg c2]) (show u_giveFirst c w M = M from by rw [u_giveFirst, if_pos c0, if_neg c1, if_neg c2]) tl0 (by omega)
  · skip
    refine e_call (k := 3) (v := some (.inr (-1))) (h1 := (z, P, M)) (c1 := 0) (c2 := 0) (rest := []) (as := [.inr 1, .inl (M (149 + 2 * c) 2)]) (xi63 3) (by decide) xm40 rfl ⟨rfl, Nat.le_of_ble_eq_true rfl, by decide⟩ (Or.inr (x_okt (ok_town hS))) (k_standAtF hS tl0.1 (M (149 + 2 * c) 2) c0) ?_
    refine e_astore (k := 4) (xi63 4) (Nat.le_of_ble_eq_true rfl) (by decide) ?_
    show x_Ev 63 5 [.inr 1, .inr (149 + 2 * c), .inr (88 + w), .inr (-1), x_un] [] (0, 0) (z, P, M) _
    refine e_aload (k := 5) (xi63 5) rfl (by decide) ?_
    refine e_ifnonnull (k := 6) (xi63 6) (by omega) (fun q => absurd (by omega) q) (fun _ => ?_)
    refine e_iconst (k := 7) (xi63 7) ?_
    refine e_goto (k := 8) (xi63 8) ?_
    refine e_istore (k := 13) (xi63 13) (Nat.le_of_ble_eq_true rfl) ?_
    show x_Ev 63 14 [.inr 1, .inr (149 + 2 * c), .inr (88 + w), .inr (-1), .inl ((-1))] [] (0, 0) (z, P, M) _
    refine e_aload (k := 14) (xi63 14) rfl (by decide) ?_
    refine e_ifnull (k := 15) (xi63 15) (by omega) (fun _ => ?_) (fun q => absurd (by omega) q)
    refine e_iconst (k := 25) (xi63 25) ?_
    refine e_zret (k := 26) (xi63 26) (by first | decide | omega) ?_
    exact y_fW (Q := fun v => 0 ≤ v ∧ v ≤ 1) (show v_giveFirst c w M = 0 from by rw [v_giveFirst, if_neg c0]) (show u_giveFirst c w M = M from by rw [u_giveFirst, if_neg c0]) tl0 (by omega)
def l_bringBack_a (w f : Int) : Nat → (Int → Int → Int) → Int → Int → Int → Int → (Int → Int → Int) × Int × Int × Int × Int
  | 0, M, h, rd, dk, i => (M, h, rd, dk, i)
  | k + 1, M, h, rd, dk, i => if M (3 + 7 * f) 5 ≤ i then (M, h, rd, dk, i) else if ¬ dk = 0 then (M, h, rd, dk, i) else if 0 ≤ (v_otherAt f i M) ∧ (v_otherAt f i M) < M 1 1 then l_bringBack_a w f k ((u_docksBoth0 w ((v_otherAt f i M)) M)) ((v_otherAt f i M)) (rd + v_lengthBetween h ((v_otherAt f i M)) M) (v_docksBoth0 w ((v_otherAt f i M)) M) (1 + i) else l_bringBack_a w f k M h rd dk (1 + i)
theorem kl_bringBack_a {z : Int} {P M0 : Int → Int → Int} {r : Option xV × xH → Prop} (hS : x_Sh z P) (w : Int) (f : Int) (hw : 0 ≤ w ∧ w < 60) (hf : 0 ≤ f ∧ f < 12)   : ∀ k : Nat, ∀ x8 : xV, ∀ M : (Int → Int → Int), ∀ h : Int, ∀ rd : Int, ∀ dk : Int, ∀ i : Int, y_TL 0 M0 M → ((0 ≤ h ∧ h < 12) ∧ (0 ≤ rd ∧ rd ≤ 999 + 999 * i) ∧ 0 ≤ i ∧ i ≤ 8) → 8 - i < (k : Int) → (∀ x8 : xV, y_TL 0 M0 ((l_bringBack_a w f k M h rd dk i).1) → (0 ≤ ((l_bringBack_a w f k M h rd dk i).2.1) ∧ ((l_bringBack_a w f k M h rd dk i).2.1) < 12) ∧ (0 ≤ ((l_bringBack_a w f k M h rd dk i).2.2.1) ∧ ((l_bringBack_a w f k M h rd dk i).2.2.1) ≤ 9999) → x_Ev 58 55 [.inr 1, .inr (88 + w), .inr (3 + 7 * f), .inr (-1), .inr (3 + 7 * ((l_bringBack_a w f k M h rd dk i).2.1)), .inl ((l_bringBack_a w f k M h rd dk i).2.2.1), .inl ((l_bringBack_a w f k M h rd dk i).2.2.2.1), .inl ((l_bringBack_a w f k M h rd dk i).2.2.2.2), x8] [] (0, 0) (z, P, (l_bringBack_a w f k M h rd dk i).1) r) → x_Ev 58 22 [.inr 1, .inr (88 + w), .inr (3 + 7 * f), .inr (-1), .inr (3 + 7 * h), .inl (rd), .inl (dk), .inl (i), x8] [] (0, 0) (z, P, M) r := by
  intro k
  induction k with
  | zero => intro x8 M h rd dk i tl0 hi hm; omega
  | succ k ih =>
    intro x8 M h rd dk i tl0 hi hm kk
    refine e_iload (k := 22) (xi58 22) rfl ?_
    refine e_aload (k := 23) (xi58 23) rfl (by omega) ?_
    have t1 := ty_st5 tl0.1 hf
    refine e_getI (j := 5) (w := M (3 + 7 * f) 5) (k := 24) (xi58 24) (ok_st hS hf) rfl rfl ?_
    refine e_c_ge (k := 25) (xi58 25) (fun c0 => ?_) (fun c0 => ?_)
    · skip
      rw [(show l_bringBack_a w f (k + 1) M h rd dk i = (M, h, rd, dk, i) from by rw [l_bringBack_a, if_pos c0])] at kk
      try dsimp only at kk
      exact kk _ tl0 (by first | exact trivial | omega)
    · skip
      refine e_iload (k := 26) (xi58 26) rfl ?_
      refine e_z_ne (k := 27) (xi58 27) (fun c1 => ?_) (fun c1 => ?_)
      · skip
        rw [(show l_bringBack_a w f (k + 1) M h rd dk i = (M, h, rd, dk, i) from by rw [l_bringBack_a, if_neg c0, if_pos c1])] at kk
        try dsimp only at kk
        exact kk _ tl0 (by first | exact trivial | omega)
      · skip
        refine e_aload (k := 28) (xi58 28) rfl (by decide) ?_
        refine e_aload (k := 29) (xi58 29) rfl (by omega) ?_
        refine e_iload (k := 30) (xi58 30) rfl ?_
        refine e_callR (k := 31) (c1 := 0) (c2 := 0) (rest := [.inr 1]) (as := [.inr (3 + 7 * f), .inl (i)]) (xi58 31) (by decide) xm19 rfl ⟨rfl, Nat.le_of_ble_eq_true rfl, by decide⟩ (Or.inr (x_okt (ok_st hS hf))) (k_otherAt hS tl0.1 f i hf ) ?_
        rintro v_ h_ ⟨e2, q4⟩
        cases e2
        show x_Ev 58 32 [.inr 1, .inr (88 + w), .inr (3 + 7 * f), .inr (-1), .inr (3 + 7 * h), .inl (rd), .inl (dk), .inl (i), x8] [.inl (v_otherAt f i M), .inr 1] (0, 0) (z, P, M) _
        have t5 := ty_town1 tl0.1 
        by_cases c2 : 0 ≤ (v_otherAt f i M) ∧ (v_otherAt f i M) < M 1 1
        · skip
          refine e_call (k := 32) (v := some (.inr (3 + 7 * ((v_otherAt f i M))))) (h1 := (z, P, M)) (c1 := 0) (c2 := 0) (rest := []) (as := [.inr 1, .inl (v_otherAt f i M)]) (xi58 32) (by decide) xm40 rfl ⟨rfl, Nat.le_of_ble_eq_true rfl, by decide⟩ (Or.inr (x_okt (ok_town hS))) (k_standAtT hS tl0.1 (v_otherAt f i M) c2) ?_
          refine e_astore (k := 33) (xi58 33) (Nat.le_of_ble_eq_true rfl) (by omega) ?_
          show x_Ev 58 34 [.inr 1, .inr (88 + w), .inr (3 + 7 * f), .inr (-1), .inr (3 + 7 * h), .inl (rd), .inl (dk), .inl (i), .inr (3 + 7 * ((v_otherAt f i M)))] [] (0, 0) (z, P, M) _
          refine e_aload (k := 34) (xi58 34) rfl (by omega) ?_
          refine e_ifnull (k := 35) (xi58 35) (by omega) (fun q => absurd q (by omega)) (fun _ => ?_)
          refine e_iload (k := 36) (xi58 36) rfl ?_
          refine e_aload (k := 37) (xi58 37) rfl (by decide) ?_
          refine e_aload (k := 38) (xi58 38) rfl (by omega) ?_
          refine e_getI (j := 0) (w := h) (k := 39) (xi58 39) (ok_st hS (show 0 ≤ h ∧ h < 12 by omega)) rfl ((nu_st tl0.1 (show 0 ≤ h ∧ h < 12 by omega))) ?_
          refine e_aload (k := 40) (xi58 40) rfl (by omega) ?_
          refine e_getI (j := 0) (w := (v_otherAt f i M)) (k := 41) (xi58 41) (ok_st hS (show 0 ≤ (v_otherAt f i M) ∧ (v_otherAt f i M) < 12 by omega)) rfl ((nu_st tl0.1 (show 0 ≤ (v_otherAt f i M) ∧ (v_otherAt f i M) < 12 by omega))) ?_
          refine e_callR (k := 42) (c1 := 0) (c2 := 0) (rest := [.inl (rd)]) (as := [.inr 1, .inl (h), .inl ((v_otherAt f i M))]) (xi58 42) (by decide) xm52 rfl ⟨rfl, Nat.le_of_ble_eq_true rfl, by decide⟩ (Or.inr (x_okt (ok_town hS))) (k_lengthBetween hS tl0.1 h ((v_otherAt f i M))  ) ?_
          rintro v_ h_ ⟨e6, q8⟩
          cases e6
          show x_Ev 58 43 [.inr 1, .inr (88 + w), .inr (3 + 7 * f), .inr (-1), .inr (3 + 7 * h), .inl (rd), .inl (dk), .inl (i), .inr (3 + 7 * ((v_otherAt f i M)))] [.inl (v_lengthBetween h ((v_otherAt f i M)) M), .inl (rd)] (0, 0) (z, P, M) _
          refine e_iadd (w := rd + v_lengthBetween h ((v_otherAt f i M)) M) (k := 43) (xi58 43) (x_wn (by omega)) ?_
          refine e_istore (k := 44) (xi58 44) (Nat.le_of_ble_eq_true rfl) ?_
          show x_Ev 58 45 [.inr 1, .inr (88 + w), .inr (3 + 7 * f), .inr (-1), .inr (3 + 7 * h), .inl (rd + v_lengthBetween h ((v_otherAt f i M)) M), .inl (dk), .inl (i), .inr (3 + 7 * ((v_otherAt f i M)))] [] (0, 0) (z, P, M) _
          refine e_aload (k := 45) (xi58 45) rfl (by omega) ?_
          refine e_astore (k := 46) (xi58 46) (Nat.le_of_ble_eq_true rfl) (by omega) ?_
          show x_Ev 58 47 [.inr 1, .inr (88 + w), .inr (3 + 7 * f), .inr (-1), .inr (3 + 7 * ((v_otherAt f i M))), .inl (rd + v_lengthBetween h ((v_otherAt f i M)) M), .inl (dk), .inl (i), .inr (3 + 7 * ((v_otherAt f i M)))] [] (0, 0) (z, P, M) _
          refine e_aload (k := 47) (xi58 47) rfl (by decide) ?_
          refine e_aload (k := 48) (xi58 48) rfl (by omega) ?_
          refine e_aload (k := 49) (xi58 49) rfl (by decide) ?_
          refine e_aload (k := 50) (xi58 50) rfl (by omega) ?_
          refine e_callR (k := 51) (c1 := 0) (c2 := 0) (rest := []) (as := [.inr 1, .inr (88 + w), .inr (-1), .inr (3 + 7 * ((v_otherAt f i M)))]) (xi58 51) (by decide) xm59 rfl ⟨rfl, Nat.le_of_ble_eq_true rfl, by decide⟩ (Or.inr (x_okt (ok_town hS))) (k_docksBoth0 hS tl0.1 w ((v_otherAt f i M)) hw (show 0 ≤ (v_otherAt f i M) ∧ (v_otherAt f i M) < 12 by omega) ) ?_
          rintro v_ h_ ⟨e9, tl10, q11⟩
          cases e9
          have tl12 := tl_trans tl0 (tl10)
          have n13 := tl_n tl10
          show x_Ev 58 52 [.inr 1, .inr (88 + w), .inr (3 + 7 * f), .inr (-1), .inr (3 + 7 * ((v_otherAt f i M))), .inl (rd + v_lengthBetween h ((v_otherAt f i M)) M), .inl (dk), .inl (i), .inr (3 + 7 * ((v_otherAt f i M)))] [.inl (v_docksBoth0 w ((v_otherAt f i M)) M)] (0, 0) (z, P, (u_docksBoth0 w ((v_otherAt f i M)) M)) _
          refine e_istore (k := 52) (xi58 52) (Nat.le_of_ble_eq_true rfl) ?_
          show x_Ev 58 53 [.inr 1, .inr (88 + w), .inr (3 + 7 * f), .inr (-1), .inr (3 + 7 * ((v_otherAt f i M))), .inl (rd + v_lengthBetween h ((v_otherAt f i M)) M), .inl (v_docksBoth0 w ((v_otherAt f i M)) M), .inl (i), .inr (3 + 7 * ((v_otherAt f i M)))] [] (0, 0) (z, P, (u_docksBoth0 w ((v_otherAt f i M)) M)) _
          refine e_iinc (w := 1 + i) (k := 53) (xi58 53) rfl (x_wn (by omega)) ?_
          show x_Ev 58 54 [.inr 1, .inr (88 + w), .inr (3 + 7 * f), .inr (-1), .inr (3 + 7 * ((v_otherAt f i M))), .inl (rd + v_lengthBetween h ((v_otherAt f i M)) M), .inl (v_docksBoth0 w ((v_otherAt f i M)) M), .inl (1 + i), .inr (3 + 7 * ((v_otherAt f i M)))] [] (0, 0) (z, P, (u_docksBoth0 w ((v_otherAt f i M)) M)) _
          refine e_goto (k := 54) (xi58 54) ?_
          rw [(show l_bringBack_a w f (k + 1) M h rd dk i = l_bringBack_a w f k ((u_docksBoth0 w ((v_otherAt f i M)) M)) ((v_otherAt f i M)) (rd + v_lengthBetween h ((v_otherAt f i M)) M) (v_docksBoth0 w ((v_otherAt f i M)) M) (1 + i) from by rw [l_bringBack_a, if_neg c0, if_neg c1, if_pos c2])] at kk
          exact ih _ ((u_docksBoth0 w ((v_otherAt f i M)) M)) ((v_otherAt f i M)) (rd + v_lengthBetween h ((v_otherAt f i M)) M) (v_docksBoth0 w ((v_otherAt f i M)) M) (1 + i) tl12 (by omega) (by omega) kk
        · skip
          refine e_call (k := 32) (v := some (.inr (-1))) (h1 := (z, P, M)) (c1 := 0) (c2 := 0) (rest := []) (as := [.inr 1, .inl (v_otherAt f i M)]) (xi58 32) (by decide) xm40 rfl ⟨rfl, Nat.le_of_ble_eq_true rfl, by decide⟩ (Or.inr (x_okt (ok_town hS))) (k_standAtF hS tl0.1 (v_otherAt f i M) c2) ?_
          refine e_astore (k := 33) (xi58 33) (Nat.le_of_ble_eq_true rfl) (by decide) ?_
          show x_Ev 58 34 [.inr 1, .inr (88 + w), .inr (3 + 7 * f), .inr (-1), .inr (3 + 7 * h), .inl (rd), .inl (dk), .inl (i), .inr (-1)] [] (0, 0) (z, P, M) _
          refine e_aload (k := 34) (xi58 34) rfl (by decide) ?_
          refine e_ifnull (k := 35) (xi58 35) (by omega) (fun _ => ?_) (fun q => absurd (by omega) q)
          refine e_iinc (w := 1 + i) (k := 53) (xi58 53) rfl (x_wn (by omega)) ?_
          show x_Ev 58 54 [.inr 1, .inr (88 + w), .inr (3 + 7 * f), .inr (-1), .inr (3 + 7 * h), .inl (rd), .inl (dk), .inl (1 + i), .inr (-1)] [] (0, 0) (z, P, M) _
          refine e_goto (k := 54) (xi58 54) ?_
          rw [(show l_bringBack_a w f (k + 1) M h rd dk i = l_bringBack_a w f k M h rd dk (1 + i) from by rw [l_bringBack_a, if_neg c0, if_neg c1, if_neg c2])] at kk
          exact ih _ M h rd dk (1 + i) tl0 (by omega) (by omega) kk
def l_bringBack_b (w f ch : Int) : Nat → (Int → Int → Int) → Int → Int → Int → Int → (Int → Int → Int) × Int × Int × Int × Int
  | 0, M, h, rd, dk, i => (M, h, rd, dk, i)
  | k + 1, M, h, rd, dk, i => if M (3 + 7 * f) 5 ≤ i then (M, h, rd, dk, i) else if ¬ dk = 0 then (M, h, rd, dk, i) else if 0 ≤ (v_otherAt f i M) ∧ (v_otherAt f i M) < M 1 1 then l_bringBack_b w f ch k ((u_docksBoth1 w ch ((v_otherAt f i M)) M)) ((v_otherAt f i M)) (rd + v_lengthBetween h ((v_otherAt f i M)) M) (v_docksBoth1 w ch ((v_otherAt f i M)) M) (1 + i) else l_bringBack_b w f ch k M h rd dk (1 + i)
theorem kl_bringBack_b {z : Int} {P M0 : Int → Int → Int} {r : Option xV × xH → Prop} (hS : x_Sh z P) (w : Int) (f : Int) (ch : Int) (hw : 0 ≤ w ∧ w < 60) (hf : 0 ≤ f ∧ f < 12) (hch : 0 ≤ ch ∧ ch < 60)   : ∀ k : Nat, ∀ x8 : xV, ∀ M : (Int → Int → Int), ∀ h : Int, ∀ rd : Int, ∀ dk : Int, ∀ i : Int, y_TL 0 M0 M → ((0 ≤ h ∧ h < 12) ∧ (0 ≤ rd ∧ rd ≤ 999 + 999 * i) ∧ 0 ≤ i ∧ i ≤ 8) → 8 - i < (k : Int) → (∀ x8 : xV, y_TL 0 M0 ((l_bringBack_b w f ch k M h rd dk i).1) → (0 ≤ ((l_bringBack_b w f ch k M h rd dk i).2.1) ∧ ((l_bringBack_b w f ch k M h rd dk i).2.1) < 12) ∧ (0 ≤ ((l_bringBack_b w f ch k M h rd dk i).2.2.1) ∧ ((l_bringBack_b w f ch k M h rd dk i).2.2.1) ≤ 9999) → x_Ev 58 55 [.inr 1, .inr (88 + w), .inr (3 + 7 * f), .inr (88 + ch), .inr (3 + 7 * ((l_bringBack_b w f ch k M h rd dk i).2.1)), .inl ((l_bringBack_b w f ch k M h rd dk i).2.2.1), .inl ((l_bringBack_b w f ch k M h rd dk i).2.2.2.1), .inl ((l_bringBack_b w f ch k M h rd dk i).2.2.2.2), x8] [] (0, 0) (z, P, (l_bringBack_b w f ch k M h rd dk i).1) r) → x_Ev 58 22 [.inr 1, .inr (88 + w), .inr (3 + 7 * f), .inr (88 + ch), .inr (3 + 7 * h), .inl (rd), .inl (dk), .inl (i), x8] [] (0, 0) (z, P, M) r := by
  intro k
  induction k with
  | zero => intro x8 M h rd dk i tl0 hi hm; omega
  | succ k ih =>
    intro x8 M h rd dk i tl0 hi hm kk
    refine e_iload (k := 22) (xi58 22) rfl ?_
    refine e_aload (k := 23) (xi58 23) rfl (by omega) ?_
    have t1 := ty_st5 tl0.1 hf
    refine e_getI (j := 5) (w := M (3 + 7 * f) 5) (k := 24) (xi58 24) (ok_st hS hf) rfl rfl ?_
    refine e_c_ge (k := 25) (xi58 25) (fun c0 => ?_) (fun c0 => ?_)
    · skip
      rw [(show l_bringBack_b w f ch (k + 1) M h rd dk i = (M, h, rd, dk, i) from by rw [l_bringBack_b, if_pos c0])] at kk
      try dsimp only at kk
      exact kk _ tl0 (by first | exact trivial | omega)
    · skip
      refine e_iload (k := 26) (xi58 26) rfl ?_
      refine e_z_ne (k := 27) (xi58 27) (fun c1 => ?_) (fun c1 => ?_)
      · skip
        rw [(show l_bringBack_b w f ch (k + 1) M h rd dk i = (M, h, rd, dk, i) from by rw [l_bringBack_b, if_neg c0, if_pos c1])] at kk
        try dsimp only at kk
        exact kk _ tl0 (by first | exact trivial | omega)
      · skip
        refine e_aload (k := 28) (xi58 28) rfl (by decide) ?_
        refine e_aload (k := 29) (xi58 29) rfl (by omega) ?_
        refine e_iload (k := 30) (xi58 30) rfl ?_
        refine e_callR (k := 31) (c1 := 0) (c2 := 0) (rest := [.inr 1]) (as := [.inr (3 + 7 * f), .inl (i)]) (xi58 31) (by decide) xm19 rfl ⟨rfl, Nat.le_of_ble_eq_true rfl, by decide⟩ (Or.inr (x_okt (ok_st hS hf))) (k_otherAt hS tl0.1 f i hf ) ?_
        rintro v_ h_ ⟨e2, q4⟩
        cases e2
        show x_Ev 58 32 [.inr 1, .inr (88 + w), .inr (3 + 7 * f), .inr (88 + ch), .inr (3 + 7 * h), .inl (rd), .inl (dk), .inl (i), x8] [.inl (v_otherAt f i M), .inr 1] (0, 0) (z, P, M) _
        have t5 := ty_town1 tl0.1 
        by_cases c2 : 0 ≤ (v_otherAt f i M) ∧ (v_otherAt f i M) < M 1 1
        · skip
          refine e_call (k := 32) (v := some (.inr (3 + 7 * ((v_otherAt f i M))))) (h1 := (z, P, M)) (c1 := 0) (c2 := 0) (rest := []) (as := [.inr 1, .inl (v_otherAt f i M)]) (xi58 32) (by decide) xm40 rfl ⟨rfl, Nat.le_of_ble_eq_true rfl, by decide⟩ (Or.inr (x_okt (ok_town hS))) (k_standAtT hS tl0.1 (v_otherAt f i M) c2) ?_
          refine e_astore (k := 33) (xi58 33) (Nat.le_of_ble_eq_true rfl) (by omega) ?_
          show x_Ev 58 34 [.inr 1, .inr (88 + w), .inr (3 + 7 * f), .inr (88 + ch), .inr (3 + 7 * h), .inl (rd), .inl (dk), .inl (i), .inr (3 + 7 * ((v_otherAt f i M)))] [] (0, 0) (z, P, M) _
          refine e_aload (k := 34) (xi58 34) rfl (by omega) ?_
          refine e_ifnull (k := 35) (xi58 35) (by omega) (fun q => absurd q (by omega)) (fun _ => ?_)
          refine e_iload (k := 36) (xi58 36) rfl ?_
          refine e_aload (k := 37) (xi58 37) rfl (by decide) ?_
          refine e_aload (k := 38) (xi58 38) rfl (by omega) ?_
          refine e_getI (j := 0) (w := h) (k := 39) (xi58 39) (ok_st hS (show 0 ≤ h ∧ h < 12 by omega)) rfl ((nu_st tl0.1 (show 0 ≤ h ∧ h < 12 by omega))) ?_
          refine e_aload (k := 40) (xi58 40) rfl (by omega) ?_
          refine e_getI (j := 0) (w := (v_otherAt f i M)) (k := 41) (xi58 41) (ok_st hS (show 0 ≤ (v_otherAt f i M) ∧ (v_otherAt f i M) < 12 by omega)) rfl ((nu_st tl0.1 (show 0 ≤ (v_otherAt f i M) ∧ (v_otherAt f i M) < 12 by omega))) ?_
          refine e_callR (k := 42) (c1 := 0) (c2 := 0) (rest := [.inl (rd)]) (as := [.inr 1, .inl (h), .inl ((v_otherAt f i M))]) (xi58 42) (by decide) xm52 rfl ⟨rfl, Nat.le_of_ble_eq_true rfl, by decide⟩ (Or.inr (x_okt (ok_town hS))) (k_lengthBetween hS tl0.1 h ((v_otherAt f i M))  ) ?_
          rintro v_ h_ ⟨e6, q8⟩
          cases e6
          show x_Ev 58 43 [.inr 1, .inr (88 + w), .inr (3 + 7 * f), .inr (88 + ch), .inr (3 + 7 * h), .inl (rd), .inl (dk), .inl (i), .inr (3 + 7 * ((v_otherAt f i M)))] [.inl (v_lengthBetween h ((v_otherAt f i M)) M), .inl (rd)] (0, 0) (z, P, M) _
          refine e_iadd (w := rd + v_lengthBetween h ((v_otherAt f i M)) M) (k := 43) (xi58 43) (x_wn (by omega)) ?_
          refine e_istore (k := 44) (xi58 44) (Nat.le_of_ble_eq_true rfl) ?_
          show x_Ev 58 45 [.inr 1, .inr (88 + w), .inr (3 + 7 * f), .inr (88 + ch), .inr (3 + 7 * h), .inl (rd + v_lengthBetween h ((v_otherAt f i M)) M), .inl (dk), .inl (i), .inr (3 + 7 * ((v_otherAt f i M)))] [] (0, 0) (z, P, M) _
          refine e_aload (k := 45) (xi58 45) rfl (by omega) ?_
          refine e_astore (k := 46) (xi58 46) (Nat.le_of_ble_eq_true rfl) (by omega) ?_
          show x_Ev 58 47 [.inr 1, .inr (88 + w), .inr (3 + 7 * f), .inr (88 + ch), .inr (3 + 7 * ((v_otherAt f i M))), .inl (rd + v_lengthBetween h ((v_otherAt f i M)) M), .inl (dk), .inl (i), .inr (3 + 7 * ((v_otherAt f i M)))] [] (0, 0) (z, P, M) _
          refine e_aload (k := 47) (xi58 47) rfl (by decide) ?_
          refine e_aload (k := 48) (xi58 48) rfl (by omega) ?_
          refine e_aload (k := 49) (xi58 49) rfl (by omega) ?_
          refine e_aload (k := 50) (xi58 50) rfl (by omega) ?_
          refine e_callR (k := 51) (c1 := 0) (c2 := 0) (rest := []) (as := [.inr 1, .inr (88 + w), .inr (88 + ch), .inr (3 + 7 * ((v_otherAt f i M)))]) (xi58 51) (by decide) xm59 rfl ⟨rfl, Nat.le_of_ble_eq_true rfl, by decide⟩ (Or.inr (x_okt (ok_town hS))) (k_docksBoth1 hS tl0.1 w ch ((v_otherAt f i M)) hw hch (show 0 ≤ (v_otherAt f i M) ∧ (v_otherAt f i M) < 12 by omega) ) ?_
          rintro v_ h_ ⟨e9, tl10, q11⟩
          cases e9
          have tl12 := tl_trans tl0 (tl10)
          have n13 := tl_n tl10
          show x_Ev 58 52 [.inr 1, .inr (88 + w), .inr (3 + 7 * f), .inr (88 + ch), .inr (3 + 7 * ((v_otherAt f i M))), .inl (rd + v_lengthBetween h ((v_otherAt f i M)) M), .inl (dk), .inl (i), .inr (3 + 7 * ((v_otherAt f i M)))] [.inl (v_docksBoth1 w ch ((v_otherAt f i M)) M)] (0, 0) (z, P, (u_docksBoth1 w ch ((v_otherAt f i M)) M)) _
          refine e_istore (k := 52) (xi58 52) (Nat.le_of_ble_eq_true rfl) ?_
          show x_Ev 58 53 [.inr 1, .inr (88 + w), .inr (3 + 7 * f), .inr (88 + ch), .inr (3 + 7 * ((v_otherAt f i M))), .inl (rd + v_lengthBetween h ((v_otherAt f i M)) M), .inl (v_docksBoth1 w ch ((v_otherAt f i M)) M), .inl (i), .inr (3 + 7 * ((v_otherAt f i M)))] [] (0, 0) (z, P, (u_docksBoth1 w ch ((v_otherAt f i M)) M)) _
          refine e_iinc (w := 1 + i) (k := 53) (xi58 53) rfl (x_wn (by omega)) ?_
          show x_Ev 58 54 [.inr 1, .inr (88 + w), .inr (3 + 7 * f), .inr (88 + ch), .inr (3 + 7 * ((v_otherAt f i M))), .inl (rd + v_lengthBetween h ((v_otherAt f i M)) M), .inl (v_docksBoth1 w ch ((v_otherAt f i M)) M), .inl (1 + i), .inr (3 + 7 * ((v_otherAt f i M)))] [] (0, 0) (z, P, (u_docksBoth1 w ch ((v_otherAt f i M)) M)) _
          refine e_goto (k := 54) (xi58 54) ?_
          rw [(show l_bringBack_b w f ch (k + 1) M h rd dk i = l_bringBack_b w f ch k ((u_docksBoth1 w ch ((v_otherAt f i M)) M)) ((v_otherAt f i M)) (rd + v_lengthBetween h ((v_otherAt f i M)) M) (v_docksBoth1 w ch ((v_otherAt f i M)) M) (1 + i) from by rw [l_bringBack_b, if_neg c0, if_neg c1, if_pos c2])] at kk
          exact ih _ ((u_docksBoth1 w ch ((v_otherAt f i M)) M)) ((v_otherAt f i M)) (rd + v_lengthBetween h ((v_otherAt f i M)) M) (v_docksBoth1 w ch ((v_otherAt f i M)) M) (1 + i) tl12 (by omega) (by omega) kk
        · skip
          refine e_call (k := 32) (v := some (.inr (-1))) (h1 := (z, P, M)) (c1 := 0) (c2 := 0) (rest := []) (as := [.inr 1, .inl (v_otherAt f i M)]) (xi58 32) (by decide) xm40 rfl ⟨rfl, Nat.le_of_ble_eq_true rfl, by decide⟩ (Or.inr (x_okt (ok_town hS))) (k_standAtF hS tl0.1 (v_otherAt f i M) c2) ?_
          refine e_astore (k := 33) (xi58 33) (Nat.le_of_ble_eq_true rfl) (by decide) ?_
          show x_Ev 58 34 [.inr 1, .inr (88 + w), .inr (3 + 7 * f), .inr (88 + ch), .inr (3 + 7 * h), .inl (rd), .inl (dk), .inl (i), .inr (-1)] [] (0, 0) (z, P, M) _
          refine e_aload (k := 34) (xi58 34) rfl (by decide) ?_
          refine e_ifnull (k := 35) (xi58 35) (by omega) (fun _ => ?_) (fun q => absurd (by omega) q)
          refine e_iinc (w := 1 + i) (k := 53) (xi58 53) rfl (x_wn (by omega)) ?_
          show x_Ev 58 54 [.inr 1, .inr (88 + w), .inr (3 + 7 * f), .inr (88 + ch), .inr (3 + 7 * h), .inl (rd), .inl (dk), .inl (1 + i), .inr (-1)] [] (0, 0) (z, P, M) _
          refine e_goto (k := 54) (xi58 54) ?_
          rw [(show l_bringBack_b w f ch (k + 1) M h rd dk i = l_bringBack_b w f ch k M h rd dk (1 + i) from by rw [l_bringBack_b, if_neg c0, if_neg c1, if_neg c2])] at kk
          exact ih _ M h rd dk (1 + i) tl0 (by omega) (by omega) kk
def u_bringBack (w f : Int) (M : Int → Int → Int) : Int → Int → Int := if 0 ≤ (M (88 + w) 9) ∧ (M (88 + w) 9) < M 1 3 then (if ¬ (l_bringBack_b w f ((M (88 + w) 9)) 9 ((u_docksBoth1 w ((M (88 + w) 9)) f M)) f (v_lengthBetween (M (88 + w) 4) f M) (v_docksBoth1 w ((M (88 + w) 9)) f M) 0).2.2.2.1 = 0 then (x_up ((x_up ((u_ride w ((l_bringBack_b w f ((M (88 + w) 9)) 9 ((u_docksBoth1 w ((M (88 + w) 9)) f M)) f (v_lengthBetween (M (88 + w) 4) f M) (v_docksBoth1 w ((M (88 + w) 9)) f M) 0).2.2.1) ((l_bringBack_b w f ((M (88 + w) 9)) 9 ((u_docksBoth1 w ((M (88 + w) 9)) f M)) f (v_lengthBetween (M (88 + w) 4) f M) (v_docksBoth1 w ((M (88 + w) 9)) f M) 0).1))) (88 + w) 9 ((-1)))) (88 + ((M (88 + w) 9))) 9 ((-1))) else (x_up ((x_up ((u_ride w ((l_bringBack_b w f ((M (88 + w) 9)) 9 ((u_docksBoth1 w ((M (88 + w) 9)) f M)) f (v_lengthBetween (M (88 + w) 4) f M) (v_docksBoth1 w ((M (88 + w) 9)) f M) 0).2.2.1) ((u_leaveOnStreet1 w ((M (88 + w) 9)) ((l_bringBack_b w f ((M (88 + w) 9)) 9 ((u_docksBoth1 w ((M (88 + w) 9)) f M)) f (v_lengthBetween (M (88 + w) 4) f M) (v_docksBoth1 w ((M (88 + w) 9)) f M) 0).2.1) ((l_bringBack_b w f ((M (88 + w) 9)) 9 ((u_docksBoth1 w ((M (88 + w) 9)) f M)) f (v_lengthBetween (M (88 + w) 4) f M) (v_docksBoth1 w ((M (88 + w) 9)) f M) 0).1))))) (88 + w) 9 ((-1)))) (88 + ((M (88 + w) 9))) 9 ((-1)))) else if ¬ (l_bringBack_a w f 9 ((u_docksBoth0 w f M)) f (v_lengthBetween (M (88 + w) 4) f M) (v_docksBoth0 w f M) 0).2.2.2.1 = 0 then (x_up ((u_ride w ((l_bringBack_a w f 9 ((u_docksBoth0 w f M)) f (v_lengthBetween (M (88 + w) 4) f M) (v_docksBoth0 w f M) 0).2.2.1) ((l_bringBack_a w f 9 ((u_docksBoth0 w f M)) f (v_lengthBetween (M (88 + w) 4) f M) (v_docksBoth0 w f M) 0).1))) (88 + w) 9 ((-1))) else (x_up ((u_ride w ((l_bringBack_a w f 9 ((u_docksBoth0 w f M)) f (v_lengthBetween (M (88 + w) 4) f M) (v_docksBoth0 w f M) 0).2.2.1) ((u_leaveOnStreet0 w ((l_bringBack_a w f 9 ((u_docksBoth0 w f M)) f (v_lengthBetween (M (88 + w) 4) f M) (v_docksBoth0 w f M) 0).2.1) ((l_bringBack_a w f 9 ((u_docksBoth0 w f M)) f (v_lengthBetween (M (88 + w) 4) f M) (v_docksBoth0 w f M) 0).1))))) (88 + w) 9 ((-1)))
theorem k_bringBack {z : Int} {P M : Int → Int → Int} (hS : x_Sh z P) (hT : y_TC M) (w : Int) (f : Int) (hw : 0 ≤ w ∧ w < 60) (hf : 0 ≤ f ∧ f < 12)  : x_CallR 58 [.inr 1, .inr (88 + w), .inr (3 + 7 * f)] (z, P, M) (fun q => q = (none, (z, P, u_bringBack w f M)) ∧ y_TL 0 M (u_bringBack w f M)) := by
  have tl0 : y_TL 0 M M := tl_refl hT
  refine e_body (ls0 := [.inr 1, .inr (88 + w), .inr (3 + 7 * f), x_un, x_un, x_un, x_un, x_un, x_un]) xm58 rfl ?_
  refine e_aload (k := 0) (xi58 0) rfl (by decide) ?_
  refine e_aload (k := 1) (xi58 1) rfl (by omega) ?_
  have t1 := ty_wh9 tl0.1 hw
  refine e_getI (j := 9) (w := M (88 + w) 9) (k := 2) (xi58 2) (ok_wh hS hw) rfl rfl ?_
  have t2 := ty_town3 tl0.1 
  by_cases c0 : 0 ≤ (M (88 + w) 9) ∧ (M (88 + w) 9) < M 1 3
  · skip
    refine e_call (k := 3) (v := some (.inr (88 + ((M (88 + w) 9))))) (h1 := (z, P, M)) (c1 := 0) (c2 := 0) (rest := []) (as := [.inr 1, .inl (M (88 + w) 9)]) (xi58 3) (by decide) xm41 rfl ⟨rfl, Nat.le_of_ble_eq_true rfl, by decide⟩ (Or.inr (x_okt (ok_town hS))) (k_wheelAtT hS tl0.1 (M (88 + w) 9) c0) ?_
    refine e_astore (k := 4) (xi58 4) (Nat.le_of_ble_eq_true rfl) (by omega) ?_
    show x_Ev 58 5 [.inr 1, .inr (88 + w), .inr (3 + 7 * f), .inr (88 + ((M (88 + w) 9))), x_un, x_un, x_un, x_un, x_un] [] (0, 0) (z, P, M) _
    refine e_aload (k := 5) (xi58 5) rfl (by omega) ?_
    refine e_astore (k := 6) (xi58 6) (Nat.le_of_ble_eq_true rfl) (by omega) ?_
    show x_Ev 58 7 [.inr 1, .inr (88 + w), .inr (3 + 7 * f), .inr (88 + ((M (88 + w) 9))), .inr (3 + 7 * f), x_un, x_un, x_un, x_un] [] (0, 0) (z, P, M) _
    refine e_aload (k := 7) (xi58 7) rfl (by decide) ?_
    refine e_aload (k := 8) (xi58 8) rfl (by omega) ?_
    have t3 := ty_wh4 tl0.1 hw
    refine e_getI (j := 4) (w := M (88 + w) 4) (k := 9) (xi58 9) (ok_wh hS hw) rfl rfl ?_
    refine e_aload (k := 10) (xi58 10) rfl (by omega) ?_
    refine e_getI (j := 0) (w := f) (k := 11) (xi58 11) (ok_st hS hf) rfl ((nu_st tl0.1 hf)) ?_
    refine e_callR (k := 12) (c1 := 0) (c2 := 0) (rest := []) (as := [.inr 1, .inl (M (88 + w) 4), .inl (f)]) (xi58 12) (by decide) xm52 rfl ⟨rfl, Nat.le_of_ble_eq_true rfl, by decide⟩ (Or.inr (x_okt (ok_town hS))) (k_lengthBetween hS tl0.1 (M (88 + w) 4) f  ) ?_
    rintro v_ h_ ⟨e4, q6⟩
    cases e4
    show x_Ev 58 13 [.inr 1, .inr (88 + w), .inr (3 + 7 * f), .inr (88 + ((M (88 + w) 9))), .inr (3 + 7 * f), x_un, x_un, x_un, x_un] [.inl (v_lengthBetween (M (88 + w) 4) f M)] (0, 0) (z, P, M) _
    refine e_istore (k := 13) (xi58 13) (Nat.le_of_ble_eq_true rfl) ?_
    show x_Ev 58 14 [.inr 1, .inr (88 + w), .inr (3 + 7 * f), .inr (88 + ((M (88 + w) 9))), .inr (3 + 7 * f), .inl (v_lengthBetween (M (88 + w) 4) f M), x_un, x_un, x_un] [] (0, 0) (z, P, M) _
    refine e_aload (k := 14) (xi58 14) rfl (by decide) ?_
    refine e_aload (k := 15) (xi58 15) rfl (by omega) ?_
    refine e_aload (k := 16) (xi58 16) rfl (by omega) ?_
    refine e_aload (k := 17) (xi58 17) rfl (by omega) ?_
    refine e_callR (k := 18) (c1 := 0) (c2 := 0) (rest := []) (as := [.inr 1, .inr (88 + w), .inr (88 + ((M (88 + w) 9))), .inr (3 + 7 * f)]) (xi58 18) (by decide) xm59 rfl ⟨rfl, Nat.le_of_ble_eq_true rfl, by decide⟩ (Or.inr (x_okt (ok_town hS))) (k_docksBoth1 hS tl0.1 w ((M (88 + w) 9)) f hw (show 0 ≤ (M (88 + w) 9) ∧ (M (88 + w) 9) < 60 by omega) hf ) ?_
    rintro v_ h_ ⟨e7, tl8, q9⟩
    cases e7
    have tl10 := tl_trans tl0 (tl8)
    have n11 := tl_n tl8
    show x_Ev 58 19 [.inr 1, .inr (88 + w), .inr (3 + 7 * f), .inr (88 + ((M (88 + w) 9))), .inr (3 + 7 * f), .inl (v_lengthBetween (M (88 + w) 4) f M), x_un, x_un, x_un] [.inl (v_docksBoth1 w ((M (88 + w) 9)) f M)] (0, 0) (z, P, (u_docksBoth1 w ((M (88 + w) 9)) f M)) _
    refine e_istore (k := 19) (xi58 19) (Nat.le_of_ble_eq_true rfl) ?_
    show x_Ev 58 20 [.inr 1, .inr (88 + w), .inr (3 + 7 * f), .inr (88 + ((M (88 + w) 9))), .inr (3 + 7 * f), .inl (v_lengthBetween (M (88 + w) 4) f M), .inl (v_docksBoth1 w ((M (88 + w) 9)) f M), x_un, x_un] [] (0, 0) (z, P, (u_docksBoth1 w ((M (88 + w) 9)) f M)) _
    refine e_iconst (k := 20) (xi58 20) ?_
    refine e_istore (k := 21) (xi58 21) (Nat.le_of_ble_eq_true rfl) ?_
    show x_Ev 58 22 [.inr 1, .inr (88 + w), .inr (3 + 7 * f), .inr (88 + ((M (88 + w) 9))), .inr (3 + 7 * f), .inl (v_lengthBetween (M (88 + w) 4) f M), .inl (v_docksBoth1 w ((M (88 + w) 9)) f M), .inl 0, x_un] [] (0, 0) (z, P, (u_docksBoth1 w ((M (88 + w) 9)) f M)) _
    refine kl_bringBack_b hS w f ((M (88 + w) 9)) hw hf (show 0 ≤ (M (88 + w) 9) ∧ (M (88 + w) 9) < 60 by omega)  9 _ ((u_docksBoth1 w ((M (88 + w) 9)) f M)) f (v_lengthBetween (M (88 + w) 4) f M) (v_docksBoth1 w ((M (88 + w) 9)) f M) 0 tl10 (by omega) (by omega) ?_
    intro x14 tl12 q13
    show x_Ev 58 55 [.inr 1, .inr (88 + w), .inr (3 + 7 * f), .inr (88 + ((M (88 + w) 9))), .inr (3 + 7 * ((l_bringBack_b w f ((M (88 + w) 9)) 9 ((u_docksBoth1 w ((M (88 + w) 9)) f M)) f (v_lengthBetween (M (88 + w) 4) f M) (v_docksBoth1 w ((M (88 + w) 9)) f M) 0).2.1)), .inl ((l_bringBack_b w f ((M (88 + w) 9)) 9 ((u_docksBoth1 w ((M (88 + w) 9)) f M)) f (v_lengthBetween (M (88 + w) 4) f M) (v_docksBoth1 w ((M (88 + w) 9)) f M) 0).2.2.1), .inl ((l_bringBack_b w f ((M (88 + w) 9)) 9 ((u_docksBoth1 w ((M (88 + w) 9)) f M)) f (v_lengthBetween (M (88 + w) 4) f M) (v_docksBoth1 w ((M (88 + w) 9)) f M) 0).2.2.2.1), .inl ((l_bringBack_b w f ((M (88 + w) 9)) 9 ((u_docksBoth1 w ((M (88 + w) 9)) f M)) f (v_lengthBetween (M (88 + w) 4) f M) (v_docksBoth1 w ((M (88 + w) 9)) f M) 0).2.2.2.2), x14] [] (0, 0) (z, P, (l_bringBack_b w f ((M (88 + w) 9)) 9 ((u_docksBoth1 w ((M (88 + w) 9)) f M)) f (v_lengthBetween (M (88 + w) 4) f M) (v_docksBoth1 w ((M (88 + w) 9)) f M) 0).1) _
    refine e_iload (k := 55) (xi58 55) rfl ?_
    refine e_z_ne (k := 56) (xi58 56) (fun c1 => ?_) (fun c1 => ?_)
    · skip
      refine e_aload (k := 63) (xi58 63) rfl (by omega) ?_
      refine e_iload (k := 64) (xi58 64) rfl ?_
      refine e_callR (k := 65) (c1 := 0) (c2 := 0) (rest := []) (as := [.inr (88 + w), .inl ((l_bringBack_b w f ((M (88 + w) 9)) 9 ((u_docksBoth1 w ((M (88 + w) 9)) f M)) f (v_lengthBetween (M (88 + w) 4) f M) (v_docksBoth1 w ((M (88 + w) 9)) f M) 0).2.2.1)]) (xi58 65) (by decide) xm74 rfl ⟨rfl, Nat.le_of_ble_eq_true rfl, by decide⟩ (Or.inr (x_okt (ok_wh hS hw))) (k_ride hS tl12.1 w ((l_bringBack_b w f ((M (88 + w) 9)) 9 ((u_docksBoth1 w ((M (88 + w) 9)) f M)) f (v_lengthBetween (M (88 + w) 4) f M) (v_docksBoth1 w ((M (88 + w) 9)) f M) 0).2.2.1) hw (by omega)) ?_
      rintro v_ h_ ⟨e15, tl16⟩
      cases e15
      have tl18 := tl_trans tl12 (tl16)
      have n19 := tl_n tl16
      show x_Ev 58 66 [.inr 1, .inr (88 + w), .inr (3 + 7 * f), .inr (88 + ((M (88 + w) 9))), .inr (3 + 7 * ((l_bringBack_b w f ((M (88 + w) 9)) 9 ((u_docksBoth1 w ((M (88 + w) 9)) f M)) f (v_lengthBetween (M (88 + w) 4) f M) (v_docksBoth1 w ((M (88 + w) 9)) f M) 0).2.1)), .inl ((l_bringBack_b w f ((M (88 + w) 9)) 9 ((u_docksBoth1 w ((M (88 + w) 9)) f M)) f (v_lengthBetween (M (88 + w) 4) f M) (v_docksBoth1 w ((M (88 + w) 9)) f M) 0).2.2.1), .inl ((l_bringBack_b w f ((M (88 + w) 9)) 9 ((u_docksBoth1 w ((M (88 + w) 9)) f M)) f (v_lengthBetween (M (88 + w) 4) f M) (v_docksBoth1 w ((M (88 + w) 9)) f M) 0).2.2.2.1), .inl ((l_bringBack_b w f ((M (88 + w) 9)) 9 ((u_docksBoth1 w ((M (88 + w) 9)) f M)) f (v_lengthBetween (M (88 + w) 4) f M) (v_docksBoth1 w ((M (88 + w) 9)) f M) 0).2.2.2.2), x14] [] (0, 0) (z, P, (u_ride w ((l_bringBack_b w f ((M (88 + w) 9)) 9 ((u_docksBoth1 w ((M (88 + w) 9)) f M)) f (v_lengthBetween (M (88 + w) 4) f M) (v_docksBoth1 w ((M (88 + w) 9)) f M) 0).2.2.1) ((l_bringBack_b w f ((M (88 + w) 9)) 9 ((u_docksBoth1 w ((M (88 + w) 9)) f M)) f (v_lengthBetween (M (88 + w) 4) f M) (v_docksBoth1 w ((M (88 + w) 9)) f M) 0).1))) _
      refine e_aload (k := 66) (xi58 66) rfl (by omega) ?_
      refine e_iconst (k := 67) (xi58 67) ?_
      refine e_putI (j := 9) (k := 68) (xi58 68) (ok_wh hS hw) rfl ?_
      have tl20 : y_TL 0 M (x_up ((u_ride w ((l_bringBack_b w f ((M (88 + w) 9)) 9 ((u_docksBoth1 w ((M (88 + w) 9)) f M)) f (v_lengthBetween (M (88 + w) 4) f M) (v_docksBoth1 w ((M (88 + w) 9)) f M) 0).2.2.1) ((l_bringBack_b w f ((M (88 + w) 9)) 9 ((u_docksBoth1 w ((M (88 + w) 9)) f M)) f (v_lengthBetween (M (88 + w) 4) f M) (v_docksBoth1 w ((M (88 + w) 9)) f M) 0).1))) (88 + w) 9 ((-1))) := tl_up tl18 (sl_wh9 hw (by omega)) (nf_wh9 hw)
      refine e_aload (k := 69) (xi58 69) rfl (by omega) ?_
      refine e_ifnull (k := 70) (xi58 70) (by omega) (fun q => absurd q (by omega)) (fun _ => ?_)
      refine e_aload (k := 71) (xi58 71) rfl (by omega) ?_
      refine e_iconst (k := 72) (xi58 72) ?_
      refine e_putI (j := 9) (k := 73) (xi58 73) (ok_wh hS (show 0 ≤ (M (88 + w) 9) ∧ (M (88 + w) 9) < 60 by omega)) rfl ?_
      have tl21 : y_TL 0 M (x_up ((x_up ((u_ride w ((l_bringBack_b w f ((M (88 + w) 9)) 9 ((u_docksBoth1 w ((M (88 + w) 9)) f M)) f (v_lengthBetween (M (88 + w) 4) f M) (v_docksBoth1 w ((M (88 + w) 9)) f M) 0).2.2.1) ((l_bringBack_b w f ((M (88 + w) 9)) 9 ((u_docksBoth1 w ((M (88 + w) 9)) f M)) f (v_lengthBetween (M (88 + w) 4) f M) (v_docksBoth1 w ((M (88 + w) 9)) f M) 0).1))) (88 + w) 9 ((-1)))) (88 + ((M (88 + w) 9))) 9 ((-1))) := tl_up tl20 (sl_wh9 (show 0 ≤ (M (88 + w) 9) ∧ (M (88 + w) 9) < 60 by omega) (by omega)) (nf_wh9 (show 0 ≤ (M (88 + w) 9) ∧ (M (88 + w) 9) < 60 by omega))
      refine e_vret (k := 74) (xi58 74) ?_
      exact y_fU (show u_bringBack w f M = (x_up ((x_up ((u_ride w ((l_bringBack_b w f ((M (88 + w) 9)) 9 ((u_docksBoth1 w ((M (88 + w) 9)) f M)) f (v_lengthBetween (M (88 + w) 4) f M) (v_docksBoth1 w ((M (88 + w) 9)) f M) 0).2.2.1) ((l_bringBack_b w f ((M (88 + w) 9)) 9 ((u_docksBoth1 w ((M (88 + w) 9)) f M)) f (v_lengthBetween (M (88 + w) 4) f M) (v_docksBoth1 w ((M (88 + w) 9)) f M) 0).1))) (88 + w) 9 ((-1)))) (88 + ((M (88 + w) 9))) 9 ((-1))) from by rw [u_bringBack, if_pos c0, if_pos c1]) tl21
    · skip
      refine e_aload (k := 57) (xi58 57) rfl (by decide) ?_
      refine e_aload (k := 58) (xi58 58) rfl (by omega) ?_
      refine e_aload (k := 59) (xi58 59) rfl (by omega) ?_
      refine e_aload (k := 60) (xi58 60) rfl (by omega) ?_
      refine e_getI (j := 0) (w := (l_bringBack_b w f ((M (88 + w) 9)) 9 ((u_docksBoth1 w ((M (88 + w) 9)) f M)) f (v_lengthBetween (M (88 + w) 4) f M) (v_docksBoth1 w ((M (88 + w) 9)) f M) 0).2.1) (k := 61) (xi58 61) (ok_st hS (show 0 ≤ (l_bringBack_b w f ((M (88 + w) 9)) 9 ((u_docksBoth1 w ((M (88 + w) 9)) f M)) f (v_lengthBetween (M (88 + w) 4) f M) (v_docksBoth1 w ((M (88 + w) 9)) f M) 0).2.1 ∧ (l_bringBack_b w f ((M (88 + w) 9)) 9 ((u_docksBoth1 w ((M (88 + w) 9)) f M)) f (v_lengthBetween (M (88 + w) 4) f M) (v_docksBoth1 w ((M (88 + w) 9)) f M) 0).2.1 < 12 by omega)) rfl ((nu_st tl12.1 (show 0 ≤ (l_bringBack_b w f ((M (88 + w) 9)) 9 ((u_docksBoth1 w ((M (88 + w) 9)) f M)) f (v_lengthBetween (M (88 + w) 4) f M) (v_docksBoth1 w ((M (88 + w) 9)) f M) 0).2.1 ∧ (l_bringBack_b w f ((M (88 + w) 9)) 9 ((u_docksBoth1 w ((M (88 + w) 9)) f M)) f (v_lengthBetween (M (88 + w) 4) f M) (v_docksBoth1 w ((M (88 + w) 9)) f M) 0).2.1 < 12 by omega))) ?_
      refine e_callR (k := 62) (c1 := 0) (c2 := 0) (rest := []) (as := [.inr 1, .inr (88 + w), .inr (88 + ((M (88 + w) 9))), .inl ((l_bringBack_b w f ((M (88 + w) 9)) 9 ((u_docksBoth1 w ((M (88 + w) 9)) f M)) f (v_lengthBetween (M (88 + w) 4) f M) (v_docksBoth1 w ((M (88 + w) 9)) f M) 0).2.1)]) (xi58 62) (by decide) xm60 rfl ⟨rfl, Nat.le_of_ble_eq_true rfl, by decide⟩ (Or.inr (x_okt (ok_town hS))) (k_leaveOnStreet1 hS tl12.1 w ((M (88 + w) 9)) ((l_bringBack_b w f ((M (88 + w) 9)) 9 ((u_docksBoth1 w ((M (88 + w) 9)) f M)) f (v_lengthBetween (M (88 + w) 4) f M) (v_docksBoth1 w ((M (88 + w) 9)) f M) 0).2.1) hw (show 0 ≤ (M (88 + w) 9) ∧ (M (88 + w) 9) < 60 by omega) (by omega)) ?_
      rintro v_ h_ ⟨e22, tl23⟩
      cases e22
      have tl25 := tl_trans tl12 (tl23)
      have n26 := tl_n tl23
      show x_Ev 58 63 [.inr 1, .inr (88 + w), .inr (3 + 7 * f), .inr (88 + ((M (88 + w) 9))), .inr (3 + 7 * ((l_bringBack_b w f ((M (88 + w) 9)) 9 ((u_docksBoth1 w ((M (88 + w) 9)) f M)) f (v_lengthBetween (M (88 + w) 4) f M) (v_docksBoth1 w ((M (88 + w) 9)) f M) 0).2.1)), .inl ((l_bringBack_b w f ((M (88 + w) 9)) 9 ((u_docksBoth1 w ((M (88 + w) 9)) f M)) f (v_lengthBetween (M (88 + w) 4) f M) (v_docksBoth1 w ((M (88 + w) 9)) f M) 0).2.2.1), .inl ((l_bringBack_b w f ((M (88 + w) 9)) 9 ((u_docksBoth1 w ((M (88 + w) 9)) f M)) f (v_lengthBetween (M (88 + w) 4) f M) (v_docksBoth1 w ((M (88 + w) 9)) f M) 0).2.2.2.1), .inl ((l_bringBack_b w f ((M (88 + w) 9)) 9 ((u_docksBoth1 w ((M (88 + w) 9)) f M)) f (v_lengthBetween (M (88 + w) 4) f M) (v_docksBoth1 w ((M (88 + w) 9)) f M) 0).2.2.2.2), x14] [] (0, 0) (z, P, (u_leaveOnStreet1 w ((M (88 + w) 9)) ((l_bringBack_b w f ((M (88 + w) 9)) 9 ((u_docksBoth1 w ((M (88 + w) 9)) f M)) f (v_lengthBetween (M (88 + w) 4) f M) (v_docksBoth1 w ((M (88 + w) 9)) f M) 0).2.1) ((l_bringBack_b w f ((M (88 + w) 9)) 9 ((u_docksBoth1 w ((M (88 + w) 9)) f M)) f (v_lengthBetween (M (88 + w) 4) f M) (v_docksBoth1 w ((M (88 + w) 9)) f M) 0).1))) _
      refine e_aload (k := 63) (xi58 63) rfl (by omega) ?_
      refine e_iload (k := 64) (xi58 64) rfl ?_
      refine e_callR (k := 65) (c1 := 0) (c2 := 0) (rest := []) (as := [.inr (88 + w), .inl ((l_bringBack_b w f ((M (88 + w) 9)) 9 ((u_docksBoth1 w ((M (88 + w) 9)) f M)) f (v_lengthBetween (M (88 + w) 4) f M) (v_docksBoth1 w ((M (88 + w) 9)) f M) 0).2.2.1)]) (xi58 65) (by decide) xm74 rfl ⟨rfl, Nat.le_of_ble_eq_true rfl, by decide⟩ (Or.inr (x_okt (ok_wh hS hw))) (k_ride hS tl25.1 w ((l_bringBack_b w f ((M (88 + w) 9)) 9 ((u_docksBoth1 w ((M (88 + w) 9)) f M)) f (v_lengthBetween (M (88 + w) 4) f M) (v_docksBoth1 w ((M (88 + w) 9)) f M) 0).2.2.1) hw (by omega)) ?_
      rintro v_ h_ ⟨e27, tl28⟩
      cases e27
      have tl30 := tl_trans tl25 (tl28)
      have n31 := tl_n tl28
      show x_Ev 58 66 [.inr 1, .inr (88 + w), .inr (3 + 7 * f), .inr (88 + ((M (88 + w) 9))), .inr (3 + 7 * ((l_bringBack_b w f ((M (88 + w) 9)) 9 ((u_docksBoth1 w ((M (88 + w) 9)) f M)) f (v_lengthBetween (M (88 + w) 4) f M) (v_docksBoth1 w ((M (88 + w) 9)) f M) 0).2.1)), .inl ((l_bringBack_b w f ((M (88 + w) 9)) 9 ((u_docksBoth1 w ((M (88 + w) 9)) f M)) f (v_lengthBetween (M (88 + w) 4) f M) (v_docksBoth1 w ((M (88 + w) 9)) f M) 0).2.2.1), .inl ((l_bringBack_b w f ((M (88 + w) 9)) 9 ((u_docksBoth1 w ((M (88 + w) 9)) f M)) f (v_lengthBetween (M (88 + w) 4) f M) (v_docksBoth1 w ((M (88 + w) 9)) f M) 0).2.2.2.1), .inl ((l_bringBack_b w f ((M (88 + w) 9)) 9 ((u_docksBoth1 w ((M (88 + w) 9)) f M)) f (v_lengthBetween (M (88 + w) 4) f M) (v_docksBoth1 w ((M (88 + w) 9)) f M) 0).2.2.2.2), x14] [] (0, 0) (z, P, (u_ride w ((l_bringBack_b w f ((M (88 + w) 9)) 9 ((u_docksBoth1 w ((M (88 + w) 9)) f M)) f (v_lengthBetween (M (88 + w) 4) f M) (v_docksBoth1 w ((M (88 + w) 9)) f M) 0).2.2.1) ((u_leaveOnStreet1 w ((M (88 + w) 9)) ((l_bringBack_b w f ((M (88 + w) 9)) 9 ((u_docksBoth1 w ((M (88 + w) 9)) f M)) f (v_lengthBetween (M (88 + w) 4) f M) (v_docksBoth1 w ((M (88 + w) 9)) f M) 0).2.1) ((l_bringBack_b w f ((M (88 + w) 9)) 9 ((u_docksBoth1 w ((M (88 + w) 9)) f M)) f (v_lengthBetween (M (88 + w) 4) f M) (v_docksBoth1 w ((M (88 + w) 9)) f M) 0).1))))) _
      refine e_aload (k := 66) (xi58 66) rfl (by omega) ?_
      refine e_iconst (k := 67) (xi58 67) ?_
      refine e_putI (j := 9) (k := 68) (xi58 68) (ok_wh hS hw) rfl ?_
      have tl32 : y_TL 0 M (x_up ((u_ride w ((l_bringBack_b w f ((M (88 + w) 9)) 9 ((u_docksBoth1 w ((M (88 + w) 9)) f M)) f (v_lengthBetween (M (88 + w) 4) f M) (v_docksBoth1 w ((M (88 + w) 9)) f M) 0).2.2.1) ((u_leaveOnStreet1 w ((M (88 + w) 9)) ((l_bringBack_b w f ((M (88 + w) 9)) 9 ((u_docksBoth1 w ((M (88 + w) 9)) f M)) f (v_lengthBetween (M (88 + w) 4) f M) (v_docksBoth1 w ((M (88 + w) 9)) f M) 0).2.1) ((l_bringBack_b w f ((M (88 + w) 9)) 9 ((u_docksBoth1 w ((M (88 + w) 9)) f M)) f (v_lengthBetween (M (88 + w) 4) f M) (v_docksBoth1 w ((M (88 + w) 9)) f M) 0).1))))) (88 + w) 9 ((-1))) := tl_up tl30 (sl_wh9 hw (by omega)) (nf_wh9 hw)
      refine e_aload (k := 69) (xi58 69) rfl (by omega) ?_
      refine e_ifnull (k := 70) (xi58 70) (by omega) (fun q => absurd q (by omega)) (fun _ => ?_)
      refine e_aload (k := 71) (xi58 71) rfl (by omega) ?_
      refine e_iconst (k := 72) (xi58 72) ?_
      refine e_putI (j := 9) (k := 73) (xi58 73) (ok_wh hS (show 0 ≤ (M (88 + w) 9) ∧ (M (88 + w) 9) < 60 by omega)) rfl ?_
      have tl33 : y_TL 0 M (x_up ((x_up ((u_ride w ((l_bringBack_b w f ((M (88 + w) 9)) 9 ((u_docksBoth1 w ((M (88 + w) 9)) f M)) f (v_lengthBetween (M (88 + w) 4) f M) (v_docksBoth1 w ((M (88 + w) 9)) f M) 0).2.2.1) ((u_leaveOnStreet1 w ((M (88 + w) 9)) ((l_bringBack_b w f ((M (88 + w) 9)) 9 ((u_docksBoth1 w ((M (88 + w) 9)) f M)) f (v_lengthBetween (M (88 + w) 4) f M) (v_docksBoth1 w ((M (88 + w) 9)) f M) 0).2.1) ((l_bringBack_b w f ((M (88 + w) 9)) 9 ((u_docksBoth1 w ((M (88 + w) 9)) f M)) f (v_lengthBetween (M (88 + w) 4) f M) (v_docksBoth1 w ((M (88 + w) 9)) f M) 0).1))))) (88 + w) 9 ((-1)))) (88 + ((M (88 + w) 9))) 9 ((-1))) := tl_up tl32 (sl_wh9 (show 0 ≤ (M (88 + w) 9) ∧ (M (88 + w) 9) < 60 by omega) (by omega)) (nf_wh9 (show 0 ≤ (M (88 + w) 9) ∧ (M (88 + w) 9) < 60 by omega))
      refine e_vret (k := 74) (xi58 74) ?_
      exact y_fU (show u_bringBack w f M = (x_up ((x_up ((u_ride w ((l_bringBack_b w f ((M (88 + w) 9)) 9 ((u_docksBoth1 w ((M (88 + w) 9)) f M)) f (v_lengthBetween (M (88 + w) 4) f M) (v_docksBoth1 w ((M (88 + w) 9)) f M) 0).2.2.1) ((u_leaveOnStreet1 w ((M (88 + w) 9)) ((l_bringBack_b w f ((M (88 + w) 9)) 9 ((u_docksBoth1 w ((M (88 + w) 9)) f M)) f (v_lengthBetween (M (88 + w) 4) f M) (v_docksBoth1 w ((M (88 + w) 9)) f M) 0).2.1) ((l_bringBack_b w f ((M (88 + w) 9)) 9 ((u_docksBoth1 w ((M (88 + w) 9)) f M)) f (v_lengthBetween (M (88 + w) 4) f M) (v_docksBoth1 w ((M (88 + w) 9)) f M) 0).1))))) (88 + w) 9 ((-1)))) (88 + ((M (88 + w) 9))) 9 ((-1))) from by rw [u_bringBack, if_pos c0, if_neg c1]) tl33
  · skip
    refine e_call (k := 3) (v := some (.inr (-1))) (h1 := (z, P, M)) (c1 := 0) (c2 := 0) (rest := []) (as := [.inr 1, .inl (M (88 + w) 9)]) (xi58 3) (by decide) xm41 rfl ⟨rfl, Nat.le_of_ble_eq_true rfl, by decide⟩ (Or.inr (x_okt (ok_town hS))) (k_wheelAtF hS tl0.1 (M (88 + w) 9) c0) ?_
    refine e_astore (k := 4) (xi58 4) (Nat.le_of_ble_eq_true rfl) (by decide) ?_
    show x_Ev 58 5 [.inr 1, .inr (88 + w), .inr (3 + 7 * f), .inr (-1), x_un, x_un, x_un, x_un, x_un] [] (0, 0) (z, P, M) _
    refine e_aload (k := 5) (xi58 5) rfl (by omega) ?_
    refine e_astore (k := 6) (xi58 6) (Nat.le_of_ble_eq_true rfl) (by omega) ?_
    show x_Ev 58 7 [.inr 1, .inr (88 + w), .inr (3 + 7 * f), .inr (-1), .inr (3 + 7 * f), x_un, x_un, x_un, x_un] [] (0, 0) (z, P, M) _
    refine e_aload (k := 7) (xi58 7) rfl (by decide) ?_
    refine e_aload (k := 8) (xi58 8) rfl (by omega) ?_
    have t34 := ty_wh4 tl0.1 hw
    refine e_getI (j := 4) (w := M (88 + w) 4) (k := 9) (xi58 9) (ok_wh hS hw) rfl rfl ?_
    refine e_aload (k := 10) (xi58 10) rfl (by omega) ?_
    refine e_getI (j := 0) (w := f) (k := 11) (xi58 11) (ok_st hS hf) rfl ((nu_st tl0.1 hf)) ?_
    refine e_callR (k := 12) (c1 := 0) (c2 := 0) (rest := []) (as := [.inr 1, .inl (M (88 + w) 4), .inl (f)]) (xi58 12) (by decide) xm52 rfl ⟨rfl, Nat.le_of_ble_eq_true rfl, by decide⟩ (Or.inr (x_okt (ok_town hS))) (k_lengthBetween hS tl0.1 (M (88 + w) 4) f  ) ?_
    rintro v_ h_ ⟨e35, q37⟩
    cases e35
    show x_Ev 58 13 [.inr 1, .inr (88 + w), .inr (3 + 7 * f), .inr (-1), .inr (3 + 7 * f), x_un, x_un, x_un, x_un] [.inl (v_lengthBetween (M (88 + w) 4) f M)] (0, 0) (z, P, M) _
    refine e_istore (k := 13) (xi58 13) (Nat.le_of_ble_eq_true rfl) ?_
    show x_Ev 58 14 [.inr 1, .inr (88 + w), .inr (3 + 7 * f), .inr (-1), .inr (3 + 7 * f), .inl (v_lengthBetween (M (88 + w) 4) f M), x_un, x_un, x_un] [] (0, 0) (z, P, M) _
    refine e_aload (k := 14) (xi58 14) rfl (by decide) ?_
    refine e_aload (k := 15) (xi58 15) rfl (by omega) ?_
    refine e_aload (k := 16) (xi58 16) rfl (by decide) ?_
    refine e_aload (k := 17) (xi58 17) rfl (by omega) ?_
    refine e_callR (k := 18) (c1 := 0) (c2 := 0) (rest := []) (as := [.inr 1, .inr (88 + w), .inr (-1), .inr (3 + 7 * f)]) (xi58 18) (by decide) xm59 rfl ⟨rfl, Nat.le_of_ble_eq_true rfl, by decide⟩ (Or.inr (x_okt (ok_town hS))) (k_docksBoth0 hS tl0.1 w f hw hf ) ?_
    rintro v_ h_ ⟨e38, tl39, q40⟩
    cases e38
    have tl41 := tl_trans tl0 (tl39)
    have n42 := tl_n tl39
    show x_Ev 58 19 [.inr 1, .inr (88 + w), .inr (3 + 7 * f), .inr (-1), .inr (3 + 7 * f), .inl (v_lengthBetween (M (88 + w) 4) f M), x_un, x_un, x_un] [.inl (v_docksBoth0 w f M)] (0, 0) (z, P, (u_docksBoth0 w f M)) _
    refine e_istore (k := 19) (xi58 19) (Nat.le_of_ble_eq_true rfl) ?_
    show x_Ev 58 20 [.inr 1, .inr (88 + w), .inr (3 + 7 * f), .inr (-1), .inr (3 + 7 * f), .inl (v_lengthBetween (M (88 + w) 4) f M), .inl (v_docksBoth0 w f M), x_un, x_un] [] (0, 0) (z, P, (u_docksBoth0 w f M)) _
    refine e_iconst (k := 20) (xi58 20) ?_
    refine e_istore (k := 21) (xi58 21) (Nat.le_of_ble_eq_true rfl) ?_
    show x_Ev 58 22 [.inr 1, .inr (88 + w), .inr (3 + 7 * f), .inr (-1), .inr (3 + 7 * f), .inl (v_lengthBetween (M (88 + w) 4) f M), .inl (v_docksBoth0 w f M), .inl 0, x_un] [] (0, 0) (z, P, (u_docksBoth0 w f M)) _
    refine kl_bringBack_a hS w f  hw hf   9 _ ((u_docksBoth0 w f M)) f (v_lengthBetween (M (88 + w) 4) f M) (v_docksBoth0 w f M) 0 tl41 (by omega) (by omega) ?_
    intro x45 tl43 q44
    show x_Ev 58 55 [.inr 1, .inr (88 + w), .inr (3 + 7 * f), .inr (-1), .inr (3 + 7 * ((l_bringBack_a w f 9 ((u_docksBoth0 w f M)) f (v_lengthBetween (M (88 + w) 4) f M) (v_docksBoth0 w f M) 0).2.1)), .inl ((l_bringBack_a w f 9 ((u_docksBoth0 w f M)) f (v_lengthBetween (M (88 + w) 4) f M) (v_docksBoth0 w f M) 0).2.2.1), .inl ((l_bringBack_a w f 9 ((u_docksBoth0 w f M)) f (v_lengthBetween (M (88 + w) 4) f M) (v_docksBoth0 w f M) 0).2.2.2.1), .inl ((l_bringBack_a w f 9 ((u_docksBoth0 w f M)) f (v_lengthBetween (M (88 + w) 4) f M) (v_docksBoth0 w f M) 0).2.2.2.2), x45] [] (0, 0) (z, P, (l_bringBack_a w f 9 ((u_docksBoth0 w f M)) f (v_lengthBetween (M (88 + w) 4) f M) (v_docksBoth0 w f M) 0).1) _
    refine e_iload (k := 55) (xi58 55) rfl ?_
    refine e_z_ne (k := 56) (xi58 56) (fun c2 => ?_) (fun c2 => ?_)
    · skip
      refine e_aload (k := 63) (xi58 63) rfl (by omega) ?_
      refine e_iload (k := 64) (xi58 64) rfl ?_
      refine e_callR (k := 65) (c1 := 0) (c2 := 0) (rest := []) (as := [.inr (88 + w), .inl ((l_bringBack_a w f 9 ((u_docksBoth0 w f M)) f (v_lengthBetween (M (88 + w) 4) f M) (v_docksBoth0 w f M) 0).2.2.1)]) (xi58 65) (by decide) xm74 rfl ⟨rfl, Nat.le_of_ble_eq_true rfl, by decide⟩ (Or.inr (x_okt (ok_wh hS hw))) (k_ride hS tl43.1 w ((l_bringBack_a w f 9 ((u_docksBoth0 w f M)) f (v_lengthBetween (M (88 + w) 4) f M) (v_docksBoth0 w f M) 0).2.2.1) hw (by omega)) ?_
      rintro v_ h_ ⟨e46, tl47⟩
      cases e46
      have tl49 := tl_trans tl43 (tl47)
      have n50 := tl_n tl47
      show x_Ev 58 66 [.inr 1, .inr (88 + w), .inr (3 + 7 * f), .inr (-1), .inr (3 + 7 * ((l_bringBack_a w f 9 ((u_docksBoth0 w f M)) f (v_lengthBetween (M (88 + w) 4) f M) (v_docksBoth0 w f M) 0).2.1)), .inl ((l_bringBack_a w f 9 ((u_docksBoth0 w f M)) f (v_lengthBetween (M (88 + w) 4) f M) (v_docksBoth0 w f M) 0).2.2.1), .inl ((l_bringBack_a w f 9 ((u_docksBoth0 w f M)) f (v_lengthBetween (M (88 + w) 4) f M) (v_docksBoth0 w f M) 0).2.2.2.1), .inl ((l_bringBack_a w f 9 ((u_docksBoth0 w f M)) f (v_lengthBetween (M (88 + w) 4) f M) (v_docksBoth0 w f M) 0).2.2.2.2), x45] [] (0, 0) (z, P, (u_ride w ((l_bringBack_a w f 9 ((u_docksBoth0 w f M)) f (v_lengthBetween (M (88 + w) 4) f M) (v_docksBoth0 w f M) 0).2.2.1) ((l_bringBack_a w f 9 ((u_docksBoth0 w f M)) f (v_lengthBetween (M (88 + w) 4) f M) (v_docksBoth0 w f M) 0).1))) _
      refine e_aload (k := 66) (xi58 66) rfl (by omega) ?_
      refine e_iconst (k := 67) (xi58 67) ?_
      refine e_putI (j := 9) (k := 68) (xi58 68) (ok_wh hS hw) rfl ?_
      have tl51 : y_TL 0 M (x_up ((u_ride w ((l_bringBack_a w f 9 ((u_docksBoth0 w f M)) f (v_lengthBetween (M (88 + w) 4) f M) (v_docksBoth0 w f M) 0).2.2.1) ((l_bringBack_a w f 9 ((u_docksBoth0 w f M)) f (v_lengthBetween (M (88 + w) 4) f M) (v_docksBoth0 w f M) 0).1))) (88 + w) 9 ((-1))) := tl_up tl49 (sl_wh9 hw (by omega)) (nf_wh9 hw)
      refine e_aload (k := 69) (xi58 69) rfl (by decide) ?_
      refine e_ifnull (k := 70) (xi58 70) (by omega) (fun _ => ?_) (fun q => absurd (by omega) q)
      refine e_vret (k := 74) (xi58 74) ?_
      exact y_fU (show u_bringBack w f M = (x_up ((u_ride w ((l_bringBack_a w f 9 ((u_docksBoth0 w f M)) f (v_lengthBetween (M (88 + w) 4) f M) (v_docksBoth0 w f M) 0).2.2.1) ((l_bringBack_a w f 9 ((u_docksBoth0 w f M)) f (v_lengthBetween (M (88 + w) 4) f M) (v_docksBoth0 w f M) 0).1))) (88 + w) 9 ((-1))) from by rw [u_bringBack, if_neg c0, if_pos c2]) tl51
    · skip
      refine e_aload (k := 57) (xi58 57) rfl (by decide) ?_
      refine e_aload (k := 58) (xi58 58) rfl (by omega) ?_
      refine e_aload (k := 59) (xi58 59) rfl (by decide) ?_
      refine e_aload (k := 60) (xi58 60) rfl (by omega) ?_
      refine e_getI (j := 0) (w := (l_bringBack_a w f 9 ((u_docksBoth0 w f M)) f (v_lengthBetween (M (88 + w) 4) f M) (v_docksBoth0 w f M) 0).2.1) (k := 61) (xi58 61) (ok_st hS (show 0 ≤ (l_bringBack_a w f 9 ((u_docksBoth0 w f M)) f (v_lengthBetween (M (88 + w) 4) f M) (v_docksBoth0 w f M) 0).2.1 ∧ (l_bringBack_a w f 9 ((u_docksBoth0 w f M)) f (v_lengthBetween (M (88 + w) 4) f M) (v_docksBoth0 w f M) 0).2.1 < 12 by omega)) rfl ((nu_st tl43.1 (show 0 ≤ (l_bringBack_a w f 9 ((u_docksBoth0 w f M)) f (v_lengthBetween (M (88 + w) 4) f M) (v_docksBoth0 w f M) 0).2.1 ∧ (l_bringBack_a w f 9 ((u_docksBoth0 w f M)) f (v_lengthBetween (M (88 + w) 4) f M) (v_docksBoth0 w f M) 0).2.1 < 12 by omega))) ?_
      refine e_callR (k := 62) (c1 := 0) (c2 := 0) (rest := []) (as := [.inr 1, .inr (88 + w), .inr (-1), .inl ((l_bringBack_a w f 9 ((u_docksBoth0 w f M)) f (v_lengthBetween (M (88 + w) 4) f M) (v_docksBoth0 w f M) 0).2.1)]) (xi58 62) (by decide) xm60 rfl ⟨rfl, Nat.le_of_ble_eq_true rfl, by decide⟩ (Or.inr (x_okt (ok_town hS))) (k_leaveOnStreet0 hS tl43.1 w ((l_bringBack_a w f 9 ((u_docksBoth0 w f M)) f (v_lengthBetween (M (88 + w) 4) f M) (v_docksBoth0 w f M) 0).2.1) hw (by omega)) ?_
      rintro v_ h_ ⟨e52, tl53⟩
      cases e52
      have tl55 := tl_trans tl43 (tl53)
      have n56 := tl_n tl53
      show x_Ev 58 63 [.inr 1, .inr (88 + w), .inr (3 + 7 * f), .inr (-1), .inr (3 + 7 * ((l_bringBack_a w f 9 ((u_docksBoth0 w f M)) f (v_lengthBetween (M (88 + w) 4) f M) (v_docksBoth0 w f M) 0).2.1)), .inl ((l_bringBack_a w f 9 ((u_docksBoth0 w f M)) f (v_lengthBetween (M (88 + w) 4) f M) (v_docksBoth0 w f M) 0).2.2.1), .inl ((l_bringBack_a w f 9 ((u_docksBoth0 w f M)) f (v_lengthBetween (M (88 + w) 4) f M) (v_docksBoth0 w f M) 0).2.2.2.1), .inl ((l_bringBack_a w f 9 ((u_docksBoth0 w f M)) f (v_lengthBetween (M (88 + w) 4) f M) (v_docksBoth0 w f M) 0).2.2.2.2), x45] [] (0, 0) (z, P, (u_leaveOnStreet0 w ((l_bringBack_a w f 9 ((u_docksBoth0 w f M)) f (v_lengthBetween (M (88 + w) 4) f M) (v_docksBoth0 w f M) 0).2.1) ((l_bringBack_a w f 9 ((u_docksBoth0 w f M)) f (v_lengthBetween (M (88 + w) 4) f M) (v_docksBoth0 w f M) 0).1))) _
      refine e_aload (k := 63) (xi58 63) rfl (by omega) ?_
      refine e_iload (k := 64) (xi58 64) rfl ?_
      refine e_callR (k := 65) (c1 := 0) (c2 := 0) (rest := []) (as := [.inr (88 + w), .inl ((l_bringBack_a w f 9 ((u_docksBoth0 w f M)) f (v_lengthBetween (M (88 + w) 4) f M) (v_docksBoth0 w f M) 0).2.2.1)]) (xi58 65) (by decide) xm74 rfl ⟨rfl, Nat.le_of_ble_eq_true rfl, by decide⟩ (Or.inr (x_okt (ok_wh hS hw))) (k_ride hS tl55.1 w ((l_bringBack_a w f 9 ((u_docksBoth0 w f M)) f (v_lengthBetween (M (88 + w) 4) f M) (v_docksBoth0 w f M) 0).2.2.1) hw (by omega)) ?_
      rintro v_ h_ ⟨e57, tl58⟩
      cases e57
      have tl60 := tl_trans tl55 (tl58)
      have n61 := tl_n tl58
      show x_Ev 58 66 [.inr 1, .inr (88 + w), .inr (3 + 7 * f), .inr (-1), .inr (3 + 7 * ((l_bringBack_a w f 9 ((u_docksBoth0 w f M)) f (v_lengthBetween (M (88 + w) 4) f M) (v_docksBoth0 w f M) 0).2.1)), .inl ((l_bringBack_a w f 9 ((u_docksBoth0 w f M)) f (v_lengthBetween (M (88 + w) 4) f M) (v_docksBoth0 w f M) 0).2.2.1), .inl ((l_bringBack_a w f 9 ((u_docksBoth0 w f M)) f (v_lengthBetween (M (88 + w) 4) f M) (v_docksBoth0 w f M) 0).2.2.2.1), .inl ((l_bringBack_a w f 9 ((u_docksBoth0 w f M)) f (v_lengthBetween (M (88 + w) 4) f M) (v_docksBoth0 w f M) 0).2.2.2.2), x45] [] (0, 0) (z, P, (u_ride w ((l_bringBack_a w f 9 ((u_docksBoth0 w f M)) f (v_lengthBetween (M (88 + w) 4) f M) (v_docksBoth0 w f M) 0).2.2.1) ((u_leaveOnStreet0 w ((l_bringBack_a w f 9 ((u_docksBoth0 w f M)) f (v_lengthBetween (M (88 + w) 4) f M) (v_docksBoth0 w f M) 0).2.1) ((l_bringBack_a w f 9 ((u_docksBoth0 w f M)) f (v_lengthBetween (M (88 + w) 4) f M) (v_docksBoth0 w f M) 0).1))))) _
      refine e_aload (k := 66) (xi58 66) rfl (by omega) ?_
      refine e_iconst (k := 67) (xi58 67) ?_
      refine e_putI (j := 9) (k := 68) (xi58 68) (ok_wh hS hw) rfl ?_
      have tl62 : y_TL 0 M (x_up ((u_ride w ((l_bringBack_a w f 9 ((u_docksBoth0 w f M)) f (v_lengthBetween (M (88 + w) 4) f M) (v_docksBoth0 w f M) 0).2.2.1) ((u_leaveOnStreet0 w ((l_bringBack_a w f 9 ((u_docksBoth0 w f M)) f (v_lengthBetween (M (88 + w) 4) f M) (v_docksBoth0 w f M) 0).2.1) ((l_bringBack_a w f 9 ((u_docksBoth0 w f M)) f (v_lengthBetween (M (88 + w) 4) f M) (v_docksBoth0 w f M) 0).1))))) (88 + w) 9 ((-1))) := tl_up tl60 (sl_wh9 hw (by omega)) (nf_wh9 hw)
      refine e_aload (k := 69) (xi58 69) rfl (by decide) ?_
      refine e_ifnull (k := 70) (xi58 70) (by omega) (fun _ => ?_) (fun q => absurd (by omega) q)
      refine e_vret (k := 74) (xi58 74) ?_
      exact y_fU (show u_bringBack w f M = (x_up ((u_ride w ((l_bringBack_a w f 9 ((u_docksBoth0 w f M)) f (v_lengthBetween (M (88 + w) 4) f M) (v_docksBoth0 w f M) 0).2.2.1) ((u_leaveOnStreet0 w ((l_bringBack_a w f 9 ((u_docksBoth0 w f M)) f (v_lengthBetween (M (88 + w) 4) f M) (v_docksBoth0 w f M) 0).2.1) ((l_bringBack_a w f 9 ((u_docksBoth0 w f M)) f (v_lengthBetween (M (88 + w) 4) f M) (v_docksBoth0 w f M) 0).1))))) (88 + w) 9 ((-1))) from by rw [u_bringBack, if_neg c0, if_neg c2]) tl62
def l_serve_a (c s : Int) : Nat → (Int → Int → Int) → Int → Int → (Int → Int → Int) × Int × Int
  | 0, M, sp, d => (M, sp, d)
  | k + 1, M, sp, d => if M (3 + 7 * s) 1 ≤ d then (M, sp, d) else if sp ≤ 0 then (M, sp, d) else if ((0 ≤ s ∧ s < M 1 1) ∧ 0 ≤ d ∧ d < M (3 + 7 * s) 1) ∧ 0 ≤ M (4 + 7 * s) d ∧ M (4 + 7 * s) d < M 1 3 then (if M (88 + (M (4 + 7 * s) d)) 1 = 2 then l_serve_a c s k M sp (1 + d) else l_serve_a c s k ((u_takeFromDock c (M (4 + 7 * s) d) M)) ((-1) + sp) (1 + d)) else l_serve_a c s k M sp (1 + d)
theorem kl_serve_a {z : Int} {P M0 : Int → Int → Int} {r : Option xV × xH → Prop} (hS : x_Sh z P) (c : Int) (s : Int) (hc : 0 ≤ c ∧ c < 3) (hs12 : 0 ≤ s ∧ s < 12)  : ∀ k : Nat, ∀ x6 : xV, ∀ M : (Int → Int → Int), ∀ sp : Int, ∀ d : Int, y_TL 0 M0 M → ((-12 ≤ sp ∧ sp ≤ 60) ∧ (0 ≤ d ∧ d ≤ 12) ∧ 0 ≤ s ∧ s < M 1 1) → 12 - d < (k : Int) → (∀ x6 : xV, y_TL 0 M0 ((l_serve_a c s k M sp d).1) → -12 ≤ ((l_serve_a c s k M sp d).2.1) ∧ ((l_serve_a c s k M sp d).2.1) ≤ 60 → x_Ev 64 41 [.inr 1, .inr (149 + 2 * c), .inl (s), .inr (3 + 7 * s), .inl ((l_serve_a c s k M sp d).2.1), .inl ((l_serve_a c s k M sp d).2.2), x6] [] (0, 0) (z, P, (l_serve_a c s k M sp d).1) r) → x_Ev 64 17 [.inr 1, .inr (149 + 2 * c), .inl (s), .inr (3 + 7 * s), .inl (sp), .inl (d), x6] [] (0, 0) (z, P, M) r := by
  intro k
  induction k with
  | zero => intro x6 M sp d tl0 hi hm; omega
  | succ k ih =>
    intro x6 M sp d tl0 hi hm kk
    refine e_iload (k := 17) (xi64 17) rfl ?_
    refine e_aload (k := 18) (xi64 18) rfl (by omega) ?_
    have t1 := ty_st1 tl0.1 (show 0 ≤ s ∧ s < 12 by omega)
    refine e_getI (j := 1) (w := M (3 + 7 * s) 1) (k := 19) (xi64 19) (ok_st hS (show 0 ≤ s ∧ s < 12 by omega)) rfl rfl ?_
    refine e_c_ge (k := 20) (xi64 20) (fun c0 => ?_) (fun c0 => ?_)
    · skip
      have t2 := ty_town1 tl0.1 
      rw [(show l_serve_a c s (k + 1) M sp d = (M, sp, d) from by rw [l_serve_a, if_pos c0])] at kk
      try dsimp only at kk
      exact kk _ tl0 (by first | exact trivial | omega)
    · skip
      refine e_iload (k := 21) (xi64 21) rfl ?_
      refine e_z_le (k := 22) (xi64 22) (fun c1 => ?_) (fun c1 => ?_)
      · skip
        have t3 := ty_town1 tl0.1 
        rw [(show l_serve_a c s (k + 1) M sp d = (M, sp, d) from by rw [l_serve_a, if_neg c0, if_pos c1])] at kk
        try dsimp only at kk
        exact kk _ tl0 (by first | exact trivial | omega)
      · skip
        refine e_aload (k := 23) (xi64 23) rfl (by decide) ?_
        refine e_iload (k := 24) (xi64 24) rfl ?_
        refine e_iload (k := 25) (xi64 25) rfl ?_
        have t4 := ty_town1 tl0.1 
        have t5 := ty_town3 tl0.1 
        by_cases c2 : ((0 ≤ s ∧ s < M 1 1) ∧ 0 ≤ d ∧ d < M (3 + 7 * s) 1) ∧ 0 ≤ M (4 + 7 * s) d ∧ M (4 + 7 * s) d < M 1 3
        · skip
          refine e_call (k := 26) (v := some (.inr (88 + (M (4 + 7 * s) d)))) (h1 := (z, P, M)) (c1 := 0) (c2 := 0) (rest := []) (as := [.inr 1, .inl (s), .inl (d)]) (xi64 26) (by decide) xm43 rfl ⟨rfl, Nat.le_of_ble_eq_true rfl, by decide⟩ (Or.inr (x_okt (ok_town hS))) (k_wheelInT hS tl0.1 s d c2) ?_
          have t6 := ty_con (j := d) tl0.1 (show 0 ≤ s ∧ s < 12 by omega) (by omega)
          refine e_astore (k := 27) (xi64 27) (Nat.le_of_ble_eq_true rfl) (by omega) ?_
          show x_Ev 64 28 [.inr 1, .inr (149 + 2 * c), .inl (s), .inr (3 + 7 * s), .inl (sp), .inl (d), .inr (88 + (M (4 + 7 * s) d))] [] (0, 0) (z, P, M) _
          refine e_aload (k := 28) (xi64 28) rfl (by omega) ?_
          refine e_ifnull (k := 29) (xi64 29) (by omega) (fun q => absurd q (by omega)) (fun _ => ?_)
          refine e_aload (k := 30) (xi64 30) rfl (by omega) ?_
          have t7 := ty_wh1 tl0.1 (show 0 ≤ M (4 + 7 * s) d ∧ M (4 + 7 * s) d < 60 by omega)
          refine e_getI (j := 1) (w := M (88 + (M (4 + 7 * s) d)) 1) (k := 31) (xi64 31) (ok_wh hS (show 0 ≤ M (4 + 7 * s) d ∧ M (4 + 7 * s) d < 60 by omega)) rfl rfl ?_
          refine e_iconst (k := 32) (xi64 32) ?_
          refine e_c_eq (k := 33) (xi64 33) (fun c3 => ?_) (fun c3 => ?_)
          · skip
            refine e_iinc (w := 1 + d) (k := 39) (xi64 39) rfl (x_wn (by omega)) ?_
            show x_Ev 64 40 [.inr 1, .inr (149 + 2 * c), .inl (s), .inr (3 + 7 * s), .inl (sp), .inl (1 + d), .inr (88 + (M (4 + 7 * s) d))] [] (0, 0) (z, P, M) _
            refine e_goto (k := 40) (xi64 40) ?_
            rw [(show l_serve_a c s (k + 1) M sp d = l_serve_a c s k M sp (1 + d) from by rw [l_serve_a, if_neg c0, if_neg c1, if_pos c2, if_pos c3])] at kk
            exact ih _ M sp (1 + d) tl0 (by omega) (by omega) kk
          · skip
            refine e_aload (k := 34) (xi64 34) rfl (by decide) ?_
            refine e_aload (k := 35) (xi64 35) rfl (by omega) ?_
            refine e_aload (k := 36) (xi64 36) rfl (by omega) ?_
            refine e_callR (k := 37) (c1 := 0) (c2 := 0) (rest := []) (as := [.inr 1, .inr (149 + 2 * c), .inr (88 + (M (4 + 7 * s) d))]) (xi64 37) (by decide) xm62 rfl ⟨rfl, Nat.le_of_ble_eq_true rfl, by decide⟩ (Or.inr (x_okt (ok_town hS))) (k_takeFromDock hS tl0.1 c (M (4 + 7 * s) d) hc (show 0 ≤ M (4 + 7 * s) d ∧ M (4 + 7 * s) d < 60 by omega) ) ?_
            rintro v_ h_ ⟨e8, tl9⟩
            cases e8
            have tl11 := tl_trans tl0 (tl9)
            have n12 := tl_n tl9
            show x_Ev 64 38 [.inr 1, .inr (149 + 2 * c), .inl (s), .inr (3 + 7 * s), .inl (sp), .inl (d), .inr (88 + (M (4 + 7 * s) d))] [] (0, 0) (z, P, (u_takeFromDock c (M (4 + 7 * s) d) M)) _
            refine e_iinc (w := (-1) + sp) (k := 38) (xi64 38) rfl (x_wn (by omega)) ?_
            show x_Ev 64 39 [.inr 1, .inr (149 + 2 * c), .inl (s), .inr (3 + 7 * s), .inl ((-1) + sp), .inl (d), .inr (88 + (M (4 + 7 * s) d))] [] (0, 0) (z, P, (u_takeFromDock c (M (4 + 7 * s) d) M)) _
            refine e_iinc (w := 1 + d) (k := 39) (xi64 39) rfl (x_wn (by omega)) ?_
            show x_Ev 64 40 [.inr 1, .inr (149 + 2 * c), .inl (s), .inr (3 + 7 * s), .inl ((-1) + sp), .inl (1 + d), .inr (88 + (M (4 + 7 * s) d))] [] (0, 0) (z, P, (u_takeFromDock c (M (4 + 7 * s) d) M)) _
            refine e_goto (k := 40) (xi64 40) ?_
            have t13 := ty_town1 tl11.1 
            rw [(show l_serve_a c s (k + 1) M sp d = l_serve_a c s k ((u_takeFromDock c (M (4 + 7 * s) d) M)) ((-1) + sp) (1 + d) from by rw [l_serve_a, if_neg c0, if_neg c1, if_pos c2, if_neg c3])] at kk
            exact ih _ ((u_takeFromDock c (M (4 + 7 * s) d) M)) ((-1) + sp) (1 + d) tl11 (by omega) (by omega) kk
        · skip
          refine e_call (k := 26) (v := some (.inr (-1))) (h1 := (z, P, M)) (c1 := 0) (c2 := 0) (rest := []) (as := [.inr 1, .inl (s), .inl (d)]) (xi64 26) (by decide) xm43 rfl ⟨rfl, Nat.le_of_ble_eq_true rfl, by decide⟩ (Or.inr (x_okt (ok_town hS))) (k_wheelInF hS tl0.1 s d c2) ?_
          refine e_astore (k := 27) (xi64 27) (Nat.le_of_ble_eq_true rfl) (by decide) ?_
          show x_Ev 64 28 [.inr 1, .inr (149 + 2 * c), .inl (s), .inr (3 + 7 * s), .inl (sp), .inl (d), .inr (-1)] [] (0, 0) (z, P, M) _
          refine e_aload (k := 28) (xi64 28) rfl (by decide) ?_
          refine e_ifnull (k := 29) (xi64 29) (by omega) (fun _ => ?_) (fun q => absurd (by omega) q)
          refine e_iinc (w := 1 + d) (k := 39) (xi64 39) rfl (x_wn (by omega)) ?_
          show x_Ev 64 40 [.inr 1, .inr (149 + 2 * c), .inl (s), .inr (3 + 7 * s), .inl (sp), .inl (1 + d), .inr (-1)] [] (0, 0) (z, P, M) _
          refine e_goto (k := 40) (xi64 40) ?_
          rw [(show l_serve_a c s (k + 1) M sp d = l_serve_a c s k M sp (1 + d) from by rw [l_serve_a, if_neg c0, if_neg c1, if_neg c2])] at kk
          exact ih _ M sp (1 + d) tl0 (by omega) (by omega) kk
def l_serve_b (c s sp : Int) : Nat → (Int → Int → Int) → Int → (Int → Int → Int) × Int
  | 0, M, ms => (M, ms)
  | k + 1, M, ms => if ms ≤ 0 then (M, ms) else if 0 ≤ (v_wheelOn c 0 M) ∧ (v_wheelOn c 0 M) < M 1 3 then l_serve_b c s sp k ((u_giveFirst c ((v_wheelOn c 0 M)) M)) ((-1) + ms) else l_serve_b c s sp k M ((-1) + ms)
theorem kl_serve_b {z : Int} {P M0 : Int → Int → Int} {r : Option xV × xH → Prop} (hS : x_Sh z P) (c : Int) (s : Int) (sp : Int) (hc : 0 ≤ c ∧ c < 3) (hs12 : 0 ≤ s ∧ s < 12)  : ∀ k : Nat, ∀ x6 : xV, ∀ M : (Int → Int → Int), ∀ ms : Int, y_TL 0 M0 M → (-60 ≤ ms ∧ ms ≤ 12) → max ms 0 < (k : Int) → (∀ x6 : xV, y_TL 0 M0 ((l_serve_b c s sp k M ms).1) → True → x_Ev 64 61 [.inr 1, .inr (149 + 2 * c), .inl (s), .inr (3 + 7 * s), .inl (sp), .inl ((l_serve_b c s sp k M ms).2), x6] [] (0, 0) (z, P, (l_serve_b c s sp k M ms).1) r) → x_Ev 64 44 [.inr 1, .inr (149 + 2 * c), .inl (s), .inr (3 + 7 * s), .inl (sp), .inl (ms), x6] [] (0, 0) (z, P, M) r := by
  intro k
  induction k with
  | zero => intro x6 M ms tl0 hi hm; omega
  | succ k ih =>
    intro x6 M ms tl0 hi hm kk
    refine e_iload (k := 44) (xi64 44) rfl ?_
    refine e_z_le (k := 45) (xi64 45) (fun c0 => ?_) (fun c0 => ?_)
    · skip
      rw [(show l_serve_b c s sp (k + 1) M ms = (M, ms) from by rw [l_serve_b, if_pos c0])] at kk
      try dsimp only at kk
      exact kk _ tl0 (by first | exact trivial | omega)
    · skip
      refine e_aload (k := 46) (xi64 46) rfl (by decide) ?_
      refine e_aload (k := 47) (xi64 47) rfl (by omega) ?_
      refine e_iconst (k := 48) (xi64 48) ?_
      refine e_callR (k := 49) (c1 := 0) (c2 := 0) (rest := [.inr 1]) (as := [.inr (149 + 2 * c), .inl 0]) (xi64 49) (by decide) xm4 rfl ⟨rfl, Nat.le_of_ble_eq_true rfl, by decide⟩ (Or.inr (x_okt (ok_ca hS hc))) (k_wheelOn hS tl0.1 c 0 hc ) ?_
      rintro v_ h_ ⟨e1, q3⟩
      cases e1
      show x_Ev 64 50 [.inr 1, .inr (149 + 2 * c), .inl (s), .inr (3 + 7 * s), .inl (sp), .inl (ms), x6] [.inl (v_wheelOn c 0 M), .inr 1] (0, 0) (z, P, M) _
      have t4 := ty_town3 tl0.1 
      by_cases c1 : 0 ≤ (v_wheelOn c 0 M) ∧ (v_wheelOn c 0 M) < M 1 3
      · skip
        refine e_call (k := 50) (v := some (.inr (88 + ((v_wheelOn c 0 M))))) (h1 := (z, P, M)) (c1 := 0) (c2 := 0) (rest := []) (as := [.inr 1, .inl (v_wheelOn c 0 M)]) (xi64 50) (by decide) xm41 rfl ⟨rfl, Nat.le_of_ble_eq_true rfl, by decide⟩ (Or.inr (x_okt (ok_town hS))) (k_wheelAtT hS tl0.1 (v_wheelOn c 0 M) c1) ?_
        refine e_astore (k := 51) (xi64 51) (Nat.le_of_ble_eq_true rfl) (by omega) ?_
        show x_Ev 64 52 [.inr 1, .inr (149 + 2 * c), .inl (s), .inr (3 + 7 * s), .inl (sp), .inl (ms), .inr (88 + ((v_wheelOn c 0 M)))] [] (0, 0) (z, P, M) _
        refine e_aload (k := 52) (xi64 52) rfl (by omega) ?_
        refine e_ifnull (k := 53) (xi64 53) (by omega) (fun q => absurd q (by omega)) (fun _ => ?_)
        refine e_aload (k := 54) (xi64 54) rfl (by decide) ?_
        refine e_aload (k := 55) (xi64 55) rfl (by omega) ?_
        refine e_aload (k := 56) (xi64 56) rfl (by omega) ?_
        refine e_callR (k := 57) (c1 := 0) (c2 := 0) (rest := []) (as := [.inr 1, .inr (149 + 2 * c), .inr (88 + ((v_wheelOn c 0 M)))]) (xi64 57) (by decide) xm63 rfl ⟨rfl, Nat.le_of_ble_eq_true rfl, by decide⟩ (Or.inr (x_okt (ok_town hS))) (k_giveFirst hS tl0.1 c ((v_wheelOn c 0 M)) hc (show 0 ≤ (v_wheelOn c 0 M) ∧ (v_wheelOn c 0 M) < 60 by omega) ) ?_
        rintro v_ h_ ⟨e5, tl6, q7⟩
        cases e5
        have tl8 := tl_trans tl0 (tl6)
        have n9 := tl_n tl6
        show x_Ev 64 58 [.inr 1, .inr (149 + 2 * c), .inl (s), .inr (3 + 7 * s), .inl (sp), .inl (ms), .inr (88 + ((v_wheelOn c 0 M)))] [.inl (v_giveFirst c ((v_wheelOn c 0 M)) M)] (0, 0) (z, P, (u_giveFirst c ((v_wheelOn c 0 M)) M)) _
        refine e_pop (k := 58) (xi64 58) ?_
        refine e_iinc (w := (-1) + ms) (k := 59) (xi64 59) rfl (x_wn (by omega)) ?_
        show x_Ev 64 60 [.inr 1, .inr (149 + 2 * c), .inl (s), .inr (3 + 7 * s), .inl (sp), .inl ((-1) + ms), .inr (88 + ((v_wheelOn c 0 M)))] [] (0, 0) (z, P, (u_giveFirst c ((v_wheelOn c 0 M)) M)) _
        refine e_goto (k := 60) (xi64 60) ?_
        rw [(show l_serve_b c s sp (k + 1) M ms = l_serve_b c s sp k ((u_giveFirst c ((v_wheelOn c 0 M)) M)) ((-1) + ms) from by rw [l_serve_b, if_neg c0, if_pos c1])] at kk
        exact ih _ ((u_giveFirst c ((v_wheelOn c 0 M)) M)) ((-1) + ms) tl8 (by omega) (by omega) kk
      · skip
        refine e_call (k := 50) (v := some (.inr (-1))) (h1 := (z, P, M)) (c1 := 0) (c2 := 0) (rest := []) (as := [.inr 1, .inl (v_wheelOn c 0 M)]) (xi64 50) (by decide) xm41 rfl ⟨rfl, Nat.le_of_ble_eq_true rfl, by decide⟩ (Or.inr (x_okt (ok_town hS))) (k_wheelAtF hS tl0.1 (v_wheelOn c 0 M) c1) ?_
        refine e_astore (k := 51) (xi64 51) (Nat.le_of_ble_eq_true rfl) (by decide) ?_
        show x_Ev 64 52 [.inr 1, .inr (149 + 2 * c), .inl (s), .inr (3 + 7 * s), .inl (sp), .inl (ms), .inr (-1)] [] (0, 0) (z, P, M) _
        refine e_aload (k := 52) (xi64 52) rfl (by decide) ?_
        refine e_ifnull (k := 53) (xi64 53) (by omega) (fun _ => ?_) (fun q => absurd (by omega) q)
        refine e_iinc (w := (-1) + ms) (k := 59) (xi64 59) rfl (x_wn (by omega)) ?_
        show x_Ev 64 60 [.inr 1, .inr (149 + 2 * c), .inl (s), .inr (3 + 7 * s), .inl (sp), .inl ((-1) + ms), .inr (-1)] [] (0, 0) (z, P, M) _
        refine e_goto (k := 60) (xi64 60) ?_
        rw [(show l_serve_b c s sp (k + 1) M ms = l_serve_b c s sp k M ((-1) + ms) from by rw [l_serve_b, if_neg c0, if_neg c1])] at kk
        exact ih _ M ((-1) + ms) tl0 (by omega) (by omega) kk
def u_serve (c s : Int) (M : Int → Int → Int) : Int → Int → Int := if 0 ≤ s ∧ s < M 1 1 then (l_serve_b c s ((l_serve_a c s 13 ((u_moveCart c s M)) (v_surplusAt s ((u_moveCart c s M))) 0).2.1) 100 ((l_serve_a c s 13 ((u_moveCart c s M)) (v_surplusAt s ((u_moveCart c s M))) 0).1) (-((l_serve_a c s 13 ((u_moveCart c s M)) (v_surplusAt s ((u_moveCart c s M))) 0).2.1))).1 else M
theorem k_serve {z : Int} {P M : Int → Int → Int} (hS : x_Sh z P) (hT : y_TC M) (c : Int) (s : Int) (hc : 0 ≤ c ∧ c < 3)  : x_CallR 64 [.inr 1, .inr (149 + 2 * c), .inl (s)] (z, P, M) (fun q => q = (none, (z, P, u_serve c s M)) ∧ y_TL 0 M (u_serve c s M)) := by
  have tl0 : y_TL 0 M M := tl_refl hT
  refine e_body (ls0 := [.inr 1, .inr (149 + 2 * c), .inl (s), x_un, x_un, x_un, x_un]) xm64 rfl ?_
  refine e_aload (k := 0) (xi64 0) rfl (by decide) ?_
  refine e_iload (k := 1) (xi64 1) rfl ?_
  have t1 := ty_town1 tl0.1 
  by_cases c0 : 0 ≤ s ∧ s < M 1 1
  · skip
    refine e_call (k := 2) (v := some (.inr (3 + 7 * s))) (h1 := (z, P, M)) (c1 := 0) (c2 := 0) (rest := []) (as := [.inr 1, .inl (s)]) (xi64 2) (by decide) xm40 rfl ⟨rfl, Nat.le_of_ble_eq_true rfl, by decide⟩ (Or.inr (x_okt (ok_town hS))) (k_standAtT hS tl0.1 s c0) ?_
    refine e_astore (k := 3) (xi64 3) (Nat.le_of_ble_eq_true rfl) (by omega) ?_
    show x_Ev 64 4 [.inr 1, .inr (149 + 2 * c), .inl (s), .inr (3 + 7 * s), x_un, x_un, x_un] [] (0, 0) (z, P, M) _
    refine e_aload (k := 4) (xi64 4) rfl (by omega) ?_
    refine e_ifnonnull (k := 5) (xi64 5) (by omega) (fun _ => ?_) (fun q => absurd q (by omega))
    refine e_aload (k := 7) (xi64 7) rfl (by decide) ?_
    refine e_aload (k := 8) (xi64 8) rfl (by omega) ?_
    refine e_iload (k := 9) (xi64 9) rfl ?_
    refine e_callR (k := 10) (c1 := 0) (c2 := 0) (rest := []) (as := [.inr 1, .inr (149 + 2 * c), .inl (s)]) (xi64 10) (by decide) xm61 rfl ⟨rfl, Nat.le_of_ble_eq_true rfl, by decide⟩ (Or.inr (x_okt (ok_town hS))) (k_moveCart hS tl0.1 c s hc (by omega)) ?_
    rintro v_ h_ ⟨e2, tl3⟩
    cases e2
    have tl5 := tl_trans tl0 (tl3)
    have n6 := tl_n tl3
    show x_Ev 64 11 [.inr 1, .inr (149 + 2 * c), .inl (s), .inr (3 + 7 * s), x_un, x_un, x_un] [] (0, 0) (z, P, (u_moveCart c s M)) _
    refine e_aload (k := 11) (xi64 11) rfl (by decide) ?_
    refine e_aload (k := 12) (xi64 12) rfl (by omega) ?_
    refine e_callR (k := 13) (c1 := 0) (c2 := 0) (rest := []) (as := [.inr 1, .inr (3 + 7 * s)]) (xi64 13) (by decide) xm51 rfl ⟨rfl, Nat.le_of_ble_eq_true rfl, by decide⟩ (Or.inr (x_okt (ok_town hS))) (k_surplusAt hS tl5.1 s (show 0 ≤ s ∧ s < 12 by omega) ) ?_
    rintro v_ h_ ⟨e7, q9⟩
    cases e7
    show x_Ev 64 14 [.inr 1, .inr (149 + 2 * c), .inl (s), .inr (3 + 7 * s), x_un, x_un, x_un] [.inl (v_surplusAt s ((u_moveCart c s M)))] (0, 0) (z, P, (u_moveCart c s M)) _
    refine e_istore (k := 14) (xi64 14) (Nat.le_of_ble_eq_true rfl) ?_
    show x_Ev 64 15 [.inr 1, .inr (149 + 2 * c), .inl (s), .inr (3 + 7 * s), .inl (v_surplusAt s ((u_moveCart c s M))), x_un, x_un] [] (0, 0) (z, P, (u_moveCart c s M)) _
    refine e_iconst (k := 15) (xi64 15) ?_
    refine e_istore (k := 16) (xi64 16) (Nat.le_of_ble_eq_true rfl) ?_
    show x_Ev 64 17 [.inr 1, .inr (149 + 2 * c), .inl (s), .inr (3 + 7 * s), .inl (v_surplusAt s ((u_moveCart c s M))), .inl 0, x_un] [] (0, 0) (z, P, (u_moveCart c s M)) _
    have t10 := ty_town1 tl5.1 
    refine kl_serve_a hS c s  hc  (by omega) 13 _ ((u_moveCart c s M)) (v_surplusAt s ((u_moveCart c s M))) 0 tl5 (by omega) (by omega) ?_
    intro x13 tl11 q12
    show x_Ev 64 41 [.inr 1, .inr (149 + 2 * c), .inl (s), .inr (3 + 7 * s), .inl ((l_serve_a c s 13 ((u_moveCart c s M)) (v_surplusAt s ((u_moveCart c s M))) 0).2.1), .inl ((l_serve_a c s 13 ((u_moveCart c s M)) (v_surplusAt s ((u_moveCart c s M))) 0).2.2), x13] [] (0, 0) (z, P, (l_serve_a c s 13 ((u_moveCart c s M)) (v_surplusAt s ((u_moveCart c s M))) 0).1) _
    refine e_iload (k := 41) (xi64 41) rfl ?_
    refine e_ineg (w := -((l_serve_a c s 13 ((u_moveCart c s M)) (v_surplusAt s ((u_moveCart c s M))) 0).2.1)) (k := 42) (xi64 42) (x_wn (by omega)) ?_
    refine e_istore (k := 43) (xi64 43) (Nat.le_of_ble_eq_true rfl) ?_
    show x_Ev 64 44 [.inr 1, .inr (149 + 2 * c), .inl (s), .inr (3 + 7 * s), .inl ((l_serve_a c s 13 ((u_moveCart c s M)) (v_surplusAt s ((u_moveCart c s M))) 0).2.1), .inl (-((l_serve_a c s 13 ((u_moveCart c s M)) (v_surplusAt s ((u_moveCart c s M))) 0).2.1)), x13] [] (0, 0) (z, P, (l_serve_a c s 13 ((u_moveCart c s M)) (v_surplusAt s ((u_moveCart c s M))) 0).1) _
    refine kl_serve_b hS c s ((l_serve_a c s 13 ((u_moveCart c s M)) (v_surplusAt s ((u_moveCart c s M))) 0).2.1) hc  (by omega) 100 _ ((l_serve_a c s 13 ((u_moveCart c s M)) (v_surplusAt s ((u_moveCart c s M))) 0).1) (-((l_serve_a c s 13 ((u_moveCart c s M)) (v_surplusAt s ((u_moveCart c s M))) 0).2.1)) tl11 (by omega) (by omega) ?_
    intro x16 tl14 q15
    show x_Ev 64 61 [.inr 1, .inr (149 + 2 * c), .inl (s), .inr (3 + 7 * s), .inl ((l_serve_a c s 13 ((u_moveCart c s M)) (v_surplusAt s ((u_moveCart c s M))) 0).2.1), .inl ((l_serve_b c s ((l_serve_a c s 13 ((u_moveCart c s M)) (v_surplusAt s ((u_moveCart c s M))) 0).2.1) 100 ((l_serve_a c s 13 ((u_moveCart c s M)) (v_surplusAt s ((u_moveCart c s M))) 0).1) (-((l_serve_a c s 13 ((u_moveCart c s M)) (v_surplusAt s ((u_moveCart c s M))) 0).2.1))).2), x16] [] (0, 0) (z, P, (l_serve_b c s ((l_serve_a c s 13 ((u_moveCart c s M)) (v_surplusAt s ((u_moveCart c s M))) 0).2.1) 100 ((l_serve_a c s 13 ((u_moveCart c s M)) (v_surplusAt s ((u_moveCart c s M))) 0).1) (-((l_serve_a c s 13 ((u_moveCart c s M)) (v_surplusAt s ((u_moveCart c s M))) 0).2.1))).1) _
    refine e_vret (k := 61) (xi64 61) ?_
    exact y_fU (show u_serve c s M = (l_serve_b c s ((l_serve_a c s 13 ((u_moveCart c s M)) (v_surplusAt s ((u_moveCart c s M))) 0).2.1) 100 ((l_serve_a c s 13 ((u_moveCart c s M)) (v_surplusAt s ((u_moveCart c s M))) 0).1) (-((l_serve_a c s 13 ((u_moveCart c s M)) (v_surplusAt s ((u_moveCart c s M))) 0).2.1))).1 from by rw [u_serve, if_pos c0]) tl14
  · skip
    refine e_call (k := 2) (v := some (.inr (-1))) (h1 := (z, P, M)) (c1 := 0) (c2 := 0) (rest := []) (as := [.inr 1, .inl (s)]) (xi64 2) (by decide) xm40 rfl ⟨rfl, Nat.le_of_ble_eq_true rfl, by decide⟩ (Or.inr (x_okt (ok_town hS))) (k_standAtF hS tl0.1 s c0) ?_
    refine e_astore (k := 3) (xi64 3) (Nat.le_of_ble_eq_true rfl) (by decide) ?_
    show x_Ev 64 4 [.inr 1, .inr (149 + 2 * c), .inl (s), .inr (-1), x_un, x_un, x_un] [] (0, 0) (z, P, M) _
    refine e_aload (k := 4) (xi64 4) rfl (by decide) ?_
    refine e_ifnonnull (k := 5) (xi64 5) (by omega) (fun q => absurd (by omega) q) (fun _ => ?_)
    refine e_vret (k := 6) (xi64 6) ?_
    exact y_fU (show u_serve c s M = M from by rw [u_serve, if_neg c0]) tl0
