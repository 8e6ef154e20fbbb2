/-! ON FRESH OBJECTS -/
/-- the class's town is empty, no round is at hand -/
def x_F0 (M : Int → Int → Int) : Prop := (M 1 1 = 0 ∧ M 1 3 = 0 ∧ M 1 5 = 0 ∧ M 1 6 = 0) ∧ M 156 1 = 0
theorem f_standAt {z : Int} {P M : Int → Int → Int} (hS : x_Sh z P) (hF : x_F0 M) (n : Int) : x_Call 40 [.inr 1, .inl (n)] (z, P, M) (some (.inr (-1))) (z, P, M) := by
  refine e_body (ls0 := [.inr 1, .inl (n)]) xm40 rfl ?_
  refine e_iload (k := 0) (xi40 0) rfl ?_
  refine e_z_lt (k := 1) (xi40 1) (fun c0 => ?_) (fun c0 => ?_)
  · skip
    refine e_null (k := 14) (xi40 14) ?_
    refine e_aret (k := 15) (xi40 15) (by decide) ?_
    rfl
  · skip
    refine e_iload (k := 2) (xi40 2) rfl ?_
    refine e_aload (k := 3) (xi40 3) rfl (by decide) ?_
    refine e_getI (j := 1) (w := 0) (k := 4) (xi40 4) (ok_town hS) rfl (hF.1.1) ?_
    refine e_c_ge (k := 5) (xi40 5) (fun c1 => ?_) (fun c1 => ?_)
    · skip
      refine e_null (k := 14) (xi40 14) ?_
      refine e_aret (k := 15) (xi40 15) (by decide) ?_
      rfl
    · skip
      refine e_iload (k := 6) (xi40 6) rfl ?_
      refine e_iconst (k := 7) (xi40 7) ?_
      refine e_c_ge (k := 8) (xi40 8) (fun c2 => ?_) (fun c2 => ?_)
      · skip
        refine e_null (k := 14) (xi40 14) ?_
        refine e_aret (k := 15) (xi40 15) (by decide) ?_
        rfl
      · skip
        refine e_aload (k := 9) (xi40 9) rfl (by decide) ?_
        refine e_getR (j := 0) (w := 2) (k := 10) (xi40 10) (ok_town hS) rfl (sh_stands hS) ?_
        refine e_iload (k := 11) (xi40 11) rfl ?_
        refine e_aald (w := 3 + 7 * n) (k := 12) (xi40 12) (x_ok4 (ok_stands hS) (by decide)) (by rw [ln_stands]; omega) (sh_st hS (show 0 ≤ n ∧ n < 12 by omega)) ?_
        refine e_goto (k := 13) (xi40 13) ?_
        refine e_aret (k := 15) (xi40 15) (by omega) ?_
        exfalso
        omega
theorem f_wheelAt {z : Int} {P M : Int → Int → Int} (hS : x_Sh z P) (hF : x_F0 M) (n : Int) : x_Call 41 [.inr 1, .inl (n)] (z, P, M) (some (.inr (-1))) (z, P, M) := by
  refine e_body (ls0 := [.inr 1, .inl (n)]) xm41 rfl ?_
  refine e_iload (k := 0) (xi41 0) rfl ?_
  refine e_z_lt (k := 1) (xi41 1) (fun c0 => ?_) (fun c0 => ?_)
  · skip
    refine e_null (k := 14) (xi41 14) ?_
    refine e_aret (k := 15) (xi41 15) (by decide) ?_
    rfl
  · skip
    refine e_iload (k := 2) (xi41 2) rfl ?_
    refine e_aload (k := 3) (xi41 3) rfl (by decide) ?_
    refine e_getI (j := 3) (w := 0) (k := 4) (xi41 4) (ok_town hS) rfl (hF.1.2.1) ?_
    refine e_c_ge (k := 5) (xi41 5) (fun c1 => ?_) (fun c1 => ?_)
    · skip
      refine e_null (k := 14) (xi41 14) ?_
      refine e_aret (k := 15) (xi41 15) (by decide) ?_
      rfl
    · skip
      refine e_iload (k := 6) (xi41 6) rfl ?_
      refine e_iconst (k := 7) (xi41 7) ?_
      refine e_c_ge (k := 8) (xi41 8) (fun c2 => ?_) (fun c2 => ?_)
      · skip
        refine e_null (k := 14) (xi41 14) ?_
        refine e_aret (k := 15) (xi41 15) (by decide) ?_
        rfl
      · skip
        refine e_aload (k := 9) (xi41 9) rfl (by decide) ?_
        refine e_getR (j := 2) (w := 87) (k := 10) (xi41 10) (ok_town hS) rfl (sh_whs hS) ?_
        refine e_iload (k := 11) (xi41 11) rfl ?_
        refine e_aald (w := 88 + n) (k := 12) (xi41 12) (x_ok4 (ok_whs hS) (by decide)) (by rw [ln_whs]; omega) (sh_wh hS (show 0 ≤ n ∧ n < 60 by omega)) ?_
        refine e_goto (k := 13) (xi41 13) ?_
        refine e_aret (k := 15) (xi41 15) (by omega) ?_
        exfalso
        omega
theorem f_cartAt {z : Int} {P M : Int → Int → Int} (hS : x_Sh z P) (hF : x_F0 M) (n : Int) : x_Call 42 [.inr 1, .inl (n)] (z, P, M) (some (.inr (-1))) (z, P, M) := by
  refine e_body (ls0 := [.inr 1, .inl (n)]) xm42 rfl ?_
  refine e_iload (k := 0) (xi42 0) rfl ?_
  refine e_z_lt (k := 1) (xi42 1) (fun c0 => ?_) (fun c0 => ?_)
  · skip
    refine e_null (k := 14) (xi42 14) ?_
    refine e_aret (k := 15) (xi42 15) (by decide) ?_
    rfl
  · skip
    refine e_iload (k := 2) (xi42 2) rfl ?_
    refine e_aload (k := 3) (xi42 3) rfl (by decide) ?_
    refine e_getI (j := 5) (w := 0) (k := 4) (xi42 4) (ok_town hS) rfl (hF.1.2.2.1) ?_
    refine e_c_ge (k := 5) (xi42 5) (fun c1 => ?_) (fun c1 => ?_)
    · skip
      refine e_null (k := 14) (xi42 14) ?_
      refine e_aret (k := 15) (xi42 15) (by decide) ?_
      rfl
    · skip
      refine e_iload (k := 6) (xi42 6) rfl ?_
      refine e_iconst (k := 7) (xi42 7) ?_
      refine e_c_ge (k := 8) (xi42 8) (fun c2 => ?_) (fun c2 => ?_)
      · skip
        refine e_null (k := 14) (xi42 14) ?_
        refine e_aret (k := 15) (xi42 15) (by decide) ?_
        rfl
      · skip
        refine e_aload (k := 9) (xi42 9) rfl (by decide) ?_
        refine e_getR (j := 4) (w := 148) (k := 10) (xi42 10) (ok_town hS) rfl (sh_cas hS) ?_
        refine e_iload (k := 11) (xi42 11) rfl ?_
        refine e_aald (w := 149 + 2 * n) (k := 12) (xi42 12) (x_ok4 (ok_cas hS) (by decide)) (by rw [ln_cas]; omega) (sh_ca hS (show 0 ≤ n ∧ n < 3 by omega)) ?_
        refine e_goto (k := 13) (xi42 13) ?_
        refine e_aret (k := 15) (xi42 15) (by omega) ?_
        exfalso
        omega
theorem f_wheelIn {z : Int} {P M : Int → Int → Int} (hS : x_Sh z P) (hF : x_F0 M) (a : Int) (d : Int) : x_Call 43 [.inr 1, .inl (a), .inl (d)] (z, P, M) (some (.inr (-1))) (z, P, M) := by
  refine e_body (ls0 := [.inr 1, .inl (a), .inl (d), x_un]) xm43 rfl ?_
  refine e_aload (k := 0) (xi43 0) rfl (by decide) ?_
  refine e_iload (k := 1) (xi43 1) rfl ?_
  refine e_call (k := 2) (v := some (.inr (-1))) (h1 := (z, P, M)) (c1 := 0) (c2 := 0) (rest := []) (as := [.inr 1, .inl (a)]) (xi43 2) (by decide) xm40 rfl ⟨rfl, Nat.le_of_ble_eq_true rfl, by decide⟩ (Or.inr (x_okt (ok_town hS))) (f_standAt hS hF a) ?_
  refine e_astore (k := 3) (xi43 3) (Nat.le_of_ble_eq_true rfl) (by decide) ?_
  show x_Ev 43 4 [.inr 1, .inl (a), .inl (d), .inr (-1)] [] (0, 0) (z, P, M) _
  refine e_aload (k := 4) (xi43 4) rfl (by decide) ?_
  refine e_ifnull (k := 5) (xi43 5) (by omega) (fun _ => ?_) (fun q => absurd (by omega) q)
  refine e_null (k := 10) (xi43 10) ?_
  refine e_goto (k := 11) (xi43 11) ?_
  refine e_aret (k := 18) (xi43 18) (by decide) ?_
  rfl
theorem f_stopAt {z : Int} {P M : Int → Int → Int} (hS : x_Sh z P) (hF : x_F0 M) (n : Int) : x_Call 28 [.inr 156, .inl (n)] (z, P, M) (some (.inl ((-1)))) (z, P, M) := by
  refine e_body (ls0 := [.inr 156, .inl (n)]) xm28 rfl ?_
  refine e_iload (k := 0) (xi28 0) rfl ?_
  refine e_z_lt (k := 1) (xi28 1) (fun c0 => ?_) (fun c0 => ?_)
  · skip
    refine e_iconst (k := 14) (xi28 14) ?_
    refine e_iret (k := 15) (xi28 15) ?_
    rfl
  · skip
    refine e_iload (k := 2) (xi28 2) rfl ?_
    refine e_aload (k := 3) (xi28 3) rfl (by decide) ?_
    refine e_getI (j := 1) (w := 0) (k := 4) (xi28 4) (ok_tour hS) rfl (hF.2) ?_
    refine e_c_ge (k := 5) (xi28 5) (fun c1 => ?_) (fun c1 => ?_)
    · skip
      refine e_iconst (k := 14) (xi28 14) ?_
      refine e_iret (k := 15) (xi28 15) ?_
      rfl
    · skip
      refine e_iload (k := 6) (xi28 6) rfl ?_
      refine e_iconst (k := 7) (xi28 7) ?_
      refine e_c_ge (k := 8) (xi28 8) (fun c2 => ?_) (fun c2 => ?_)
      · skip
        refine e_iconst (k := 14) (xi28 14) ?_
        refine e_iret (k := 15) (xi28 15) ?_
        rfl
      · skip
        refine e_aload (k := 9) (xi28 9) rfl (by decide) ?_
        refine e_getR (j := 0) (w := 157) (k := 10) (xi28 10) (ok_tour hS) rfl (sh_t0 hS) ?_
        refine e_iload (k := 11) (xi28 11) rfl ?_
        refine e_iald (w := M 157 n) (k := 12) (xi28 12) (ok_t0 hS) (by rw [ln_t0]; omega) rfl ?_
        refine e_goto (k := 13) (xi28 13) ?_
        refine e_iret (k := 15) (xi28 15) ?_
        exfalso
        omega
theorem f_prepare {z : Int} {P M : Int → Int → Int} (hS : x_Sh z P) (hF : x_F0 M)  : x_Call 29 [.inr 156, .inr 1, .inr (-1)] (z, P, M) (some (.inl ((-1)))) (z, P, M) := by
  refine e_body (ls0 := [.inr 156, .inr 1, .inr (-1), x_un]) xm29 rfl ?_
  refine e_aload (k := 0) (xi29 0) rfl (by decide) ?_
  refine e_ifnull (k := 1) (xi29 1) (by omega) (fun _ => ?_) (fun q => absurd (by omega) q)
  refine e_iconst (k := 9) (xi29 9) ?_
  refine e_iret (k := 10) (xi29 10) ?_
  rfl
theorem f_wheelsIn {z : Int} {P M : Int → Int → Int} (hS : x_Sh z P) (hF : x_F0 M) (n : Int) : x_Call 47 [.inr 1, .inl (n)] (z, P, M) (some (.inl 0)) (z, P, M) := by
  refine e_body (ls0 := [.inr 1, .inl (n), x_un, x_un]) xm47 rfl ?_
  refine e_iconst (k := 0) (xi47 0) ?_
  refine e_istore (k := 1) (xi47 1) (Nat.le_of_ble_eq_true rfl) ?_
  show x_Ev 47 2 [.inr 1, .inl (n), .inl 0, x_un] [] (0, 0) (z, P, M) _
  refine e_iconst (k := 2) (xi47 2) ?_
  refine e_istore (k := 3) (xi47 3) (Nat.le_of_ble_eq_true rfl) ?_
  show x_Ev 47 4 [.inr 1, .inl (n), .inl 0, .inl 0] [] (0, 0) (z, P, M) _
  refine e_iload (k := 4) (xi47 4) rfl ?_
  refine e_aload (k := 5) (xi47 5) rfl (by decide) ?_
  refine e_getI (j := 3) (w := 0) (k := 6) (xi47 6) (ok_town hS) rfl (hF.1.2.1) ?_
  refine e_c_ge (k := 7) (xi47 7) (fun c0 => ?_) (fun q => absurd (by decide) q)
  refine e_iload (k := 18) (xi47 18) rfl ?_
  refine e_iret (k := 19) (xi47 19) ?_
  rfl
theorem f_knownBroken {z : Int} {P M : Int → Int → Int} (hS : x_Sh z P) (hF : x_F0 M)  : x_Call 48 [.inr 1] (z, P, M) (some (.inl 0)) (z, P, M) := by
  refine e_body (ls0 := [.inr 1, x_un, x_un]) xm48 rfl ?_
  refine e_iconst (k := 0) (xi48 0) ?_
  refine e_istore (k := 1) (xi48 1) (Nat.le_of_ble_eq_true rfl) ?_
  show x_Ev 48 2 [.inr 1, .inl 0, x_un] [] (0, 0) (z, P, M) _
  refine e_iconst (k := 2) (xi48 2) ?_
  refine e_istore (k := 3) (xi48 3) (Nat.le_of_ble_eq_true rfl) ?_
  show x_Ev 48 4 [.inr 1, .inl 0, .inl 0] [] (0, 0) (z, P, M) _
  refine e_iload (k := 4) (xi48 4) rfl ?_
  refine e_aload (k := 5) (xi48 5) rfl (by decide) ?_
  refine e_getI (j := 3) (w := 0) (k := 6) (xi48 6) (ok_town hS) rfl (hF.1.2.1) ?_
  refine e_c_ge (k := 7) (xi48 7) (fun c0 => ?_) (fun q => absurd (by decide) q)
  refine e_iload (k := 17) (xi48 17) rfl ?_
  refine e_iret (k := 18) (xi48 18) ?_
  rfl
theorem f_length {z : Int} {P M : Int → Int → Int} (hS : x_Sh z P) (hF : x_F0 M) (a : Int) (d : Int) (c : Int) : x_Call 79 [.inr 0, .inl (a), .inl (d), .inl (c)] (z, P, M) (some (.inl 0)) (z, P, M) := by
  refine e_body (ls0 := [.inr 0, .inl (a), .inl (d), .inl (c), x_un, x_un]) xm79 rfl ?_
  refine e_aload (k := 0) (xi79 0) rfl (by decide) ?_
  refine e_getR (j := 0) (w := 1) (k := 1) (xi79 1) (ok_WS hS) rfl (sh_town hS) ?_
  refine e_iload (k := 2) (xi79 2) rfl ?_
  refine e_call (k := 3) (v := some (.inr (-1))) (h1 := (z, P, M)) (c1 := 0) (c2 := 0) (rest := []) (as := [.inr 1, .inl (a)]) (xi79 3) (by decide) xm40 rfl ⟨rfl, Nat.le_of_ble_eq_true rfl, by decide⟩ (Or.inr (x_okt (ok_town hS))) (f_standAt hS hF a) ?_
  refine e_astore (k := 4) (xi79 4) (Nat.le_of_ble_eq_true rfl) (by decide) ?_
  show x_Ev 79 5 [.inr 0, .inl (a), .inl (d), .inl (c), .inr (-1), x_un] [] (0, 0) (z, P, M) _
  refine e_aload (k := 5) (xi79 5) rfl (by decide) ?_
  refine e_getR (j := 0) (w := 1) (k := 6) (xi79 6) (ok_WS hS) rfl (sh_town hS) ?_
  refine e_iload (k := 7) (xi79 7) rfl ?_
  refine e_call (k := 8) (v := some (.inr (-1))) (h1 := (z, P, M)) (c1 := 0) (c2 := 0) (rest := []) (as := [.inr 1, .inl (d)]) (xi79 8) (by decide) xm40 rfl ⟨rfl, Nat.le_of_ble_eq_true rfl, by decide⟩ (Or.inr (x_okt (ok_town hS))) (f_standAt hS hF d) ?_
  refine e_astore (k := 9) (xi79 9) (Nat.le_of_ble_eq_true rfl) (by decide) ?_
  show x_Ev 79 10 [.inr 0, .inl (a), .inl (d), .inl (c), .inr (-1), .inr (-1)] [] (0, 0) (z, P, M) _
  refine e_aload (k := 10) (xi79 10) rfl (by decide) ?_
  refine e_ifnull (k := 11) (xi79 11) (by omega) (fun _ => ?_) (fun q => absurd (by omega) q)
  refine e_iconst (k := 23) (xi79 23) ?_
  refine e_zret (k := 24) (xi79 24) (by decide) ?_
  rfl
theorem f_next {z : Int} {P M : Int → Int → Int} (hS : x_Sh z P) (hF : x_F0 M) (a : Int) (d : Int) : x_Call 80 [.inr 0, .inl (a), .inl (d)] (z, P, M) (some (.inl ((-1)))) (z, P, M) := by
  refine e_body (ls0 := [.inr 0, .inl (a), .inl (d), x_un]) xm80 rfl ?_
  refine e_aload (k := 0) (xi80 0) rfl (by decide) ?_
  refine e_getR (j := 0) (w := 1) (k := 1) (xi80 1) (ok_WS hS) rfl (sh_town hS) ?_
  refine e_iload (k := 2) (xi80 2) rfl ?_
  refine e_call (k := 3) (v := some (.inr (-1))) (h1 := (z, P, M)) (c1 := 0) (c2 := 0) (rest := []) (as := [.inr 1, .inl (a)]) (xi80 3) (by decide) xm40 rfl ⟨rfl, Nat.le_of_ble_eq_true rfl, by decide⟩ (Or.inr (x_okt (ok_town hS))) (f_standAt hS hF a) ?_
  refine e_astore (k := 4) (xi80 4) (Nat.le_of_ble_eq_true rfl) (by decide) ?_
  show x_Ev 80 5 [.inr 0, .inl (a), .inl (d), .inr (-1)] [] (0, 0) (z, P, M) _
  refine e_aload (k := 5) (xi80 5) rfl (by decide) ?_
  refine e_ifnull (k := 6) (xi80 6) (by omega) (fun _ => ?_) (fun q => absurd (by omega) q)
  refine e_iconst (k := 15) (xi80 15) ?_
  refine e_iret (k := 16) (xi80 16) ?_
  rfl
theorem f_tear {z : Int} {P M : Int → Int → Int} (hS : x_Sh z P) (hF : x_F0 M) (a : Int) (d : Int) : x_Call 81 [.inr 0, .inl (a), .inl (d)] (z, P, M) (some (.inl 0)) (z, P, M) := by
  refine e_body (ls0 := [.inr 0, .inl (a), .inl (d), x_un]) xm81 rfl ?_
  refine e_aload (k := 0) (xi81 0) rfl (by decide) ?_
  refine e_getR (j := 0) (w := 1) (k := 1) (xi81 1) (ok_WS hS) rfl (sh_town hS) ?_
  refine e_iload (k := 2) (xi81 2) rfl ?_
  refine e_call (k := 3) (v := some (.inr (-1))) (h1 := (z, P, M)) (c1 := 0) (c2 := 0) (rest := []) (as := [.inr 1, .inl (a)]) (xi81 3) (by decide) xm40 rfl ⟨rfl, Nat.le_of_ble_eq_true rfl, by decide⟩ (Or.inr (x_okt (ok_town hS))) (f_standAt hS hF a) ?_
  refine e_astore (k := 4) (xi81 4) (Nat.le_of_ble_eq_true rfl) (by decide) ?_
  show x_Ev 81 5 [.inr 0, .inl (a), .inl (d), .inr (-1)] [] (0, 0) (z, P, M) _
  refine e_aload (k := 5) (xi81 5) rfl (by decide) ?_
  refine e_ifnonnull (k := 6) (xi81 6) (by omega) (fun q => absurd (by omega) q) (fun _ => ?_)
  refine e_iconst (k := 7) (xi81 7) ?_
  refine e_zret (k := 8) (xi81 8) (by decide) ?_
  rfl
theorem f_block {z : Int} {P M : Int → Int → Int} (hS : x_Sh z P) (hF : x_F0 M) (a : Int) (d : Int) (c : Int) : x_Call 82 [.inr 0, .inl (a), .inl (d), .inl (c)] (z, P, M) (some (.inl 0)) (z, P, M) := by
  refine e_body (ls0 := [.inr 0, .inl (a), .inl (d), .inl (c), x_un]) xm82 rfl ?_
  refine e_aload (k := 0) (xi82 0) rfl (by decide) ?_
  refine e_getR (j := 0) (w := 1) (k := 1) (xi82 1) (ok_WS hS) rfl (sh_town hS) ?_
  refine e_iload (k := 2) (xi82 2) rfl ?_
  refine e_call (k := 3) (v := some (.inr (-1))) (h1 := (z, P, M)) (c1 := 0) (c2 := 0) (rest := []) (as := [.inr 1, .inl (a)]) (xi82 3) (by decide) xm40 rfl ⟨rfl, Nat.le_of_ble_eq_true rfl, by decide⟩ (Or.inr (x_okt (ok_town hS))) (f_standAt hS hF a) ?_
  refine e_astore (k := 4) (xi82 4) (Nat.le_of_ble_eq_true rfl) (by decide) ?_
  show x_Ev 82 5 [.inr 0, .inl (a), .inl (d), .inl (c), .inr (-1)] [] (0, 0) (z, P, M) _
  refine e_aload (k := 5) (xi82 5) rfl (by decide) ?_
  refine e_ifnull (k := 6) (xi82 6) (by omega) (fun _ => ?_) (fun q => absurd (by omega) q)
  refine e_iconst (k := 11) (xi82 11) ?_
  refine e_zret (k := 12) (xi82 12) (by decide) ?_
  rfl
theorem f_dock {z : Int} {P M : Int → Int → Int} (hS : x_Sh z P) (hF : x_F0 M) (a : Int) (d : Int) : x_Call 83 [.inr 0, .inl (a), .inl (d)] (z, P, M) (some (.inl ((-3)))) (z, P, M) := by
  refine e_body (ls0 := [.inr 0, .inl (a), .inl (d), x_un]) xm83 rfl ?_
  refine e_aload (k := 0) (xi83 0) rfl (by decide) ?_
  refine e_getR (j := 0) (w := 1) (k := 1) (xi83 1) (ok_WS hS) rfl (sh_town hS) ?_
  refine e_iload (k := 2) (xi83 2) rfl ?_
  refine e_call (k := 3) (v := some (.inr (-1))) (h1 := (z, P, M)) (c1 := 0) (c2 := 0) (rest := []) (as := [.inr 1, .inl (a)]) (xi83 3) (by decide) xm40 rfl ⟨rfl, Nat.le_of_ble_eq_true rfl, by decide⟩ (Or.inr (x_okt (ok_town hS))) (f_standAt hS hF a) ?_
  refine e_astore (k := 4) (xi83 4) (Nat.le_of_ble_eq_true rfl) (by decide) ?_
  show x_Ev 83 5 [.inr 0, .inl (a), .inl (d), .inr (-1)] [] (0, 0) (z, P, M) _
  refine e_aload (k := 5) (xi83 5) rfl (by decide) ?_
  refine e_ifnull (k := 6) (xi83 6) (by omega) (fun _ => ?_) (fun q => absurd (by omega) q)
  refine e_iconst (k := 11) (xi83 11) ?_
  refine e_goto (k := 12) (xi83 12) ?_
  refine e_iret (k := 17) (xi83 17) ?_
  rfl
theorem f_tell {z : Int} {P M : Int → Int → Int} (hS : x_Sh z P) (hF : x_F0 M) (a : Int) (d : Int) : x_Call 84 [.inr 0, .inl (a), .inl (d)] (z, P, M) (some (.inl ((-3)))) (z, P, M) := by
  refine e_body (ls0 := [.inr 0, .inl (a), .inl (d), x_un]) xm84 rfl ?_
  refine e_aload (k := 0) (xi84 0) rfl (by decide) ?_
  refine e_getR (j := 0) (w := 1) (k := 1) (xi84 1) (ok_WS hS) rfl (sh_town hS) ?_
  refine e_iload (k := 2) (xi84 2) rfl ?_
  refine e_call (k := 3) (v := some (.inr (-1))) (h1 := (z, P, M)) (c1 := 0) (c2 := 0) (rest := []) (as := [.inr 1, .inl (a)]) (xi84 3) (by decide) xm40 rfl ⟨rfl, Nat.le_of_ble_eq_true rfl, by decide⟩ (Or.inr (x_okt (ok_town hS))) (f_standAt hS hF a) ?_
  refine e_astore (k := 4) (xi84 4) (Nat.le_of_ble_eq_true rfl) (by decide) ?_
  show x_Ev 84 5 [.inr 0, .inl (a), .inl (d), .inr (-1)] [] (0, 0) (z, P, M) _
  refine e_aload (k := 5) (xi84 5) rfl (by decide) ?_
  refine e_ifnonnull (k := 6) (xi84 6) (by omega) (fun q => absurd (by omega) q) (fun _ => ?_)
  refine e_iconst (k := 7) (xi84 7) ?_
  refine e_iret (k := 8) (xi84 8) ?_
  rfl
theorem f_put {z : Int} {P M : Int → Int → Int} (hS : x_Sh z P) (hF : x_F0 M) (a : Int) (d : Int) (c : Int) : x_Call 85 [.inr 0, .inl (a), .inl (d), .inl (c)] (z, P, M) (some (.inl ((-1)))) (z, P, M) := by
  refine e_body (ls0 := [.inr 0, .inl (a), .inl (d), .inl (c), x_un]) xm85 rfl ?_
  refine e_aload (k := 0) (xi85 0) rfl (by decide) ?_
  refine e_getR (j := 0) (w := 1) (k := 1) (xi85 1) (ok_WS hS) rfl (sh_town hS) ?_
  refine e_iload (k := 2) (xi85 2) rfl ?_
  refine e_call (k := 3) (v := some (.inr (-1))) (h1 := (z, P, M)) (c1 := 0) (c2 := 0) (rest := []) (as := [.inr 1, .inl (d)]) (xi85 3) (by decide) xm40 rfl ⟨rfl, Nat.le_of_ble_eq_true rfl, by decide⟩ (Or.inr (x_okt (ok_town hS))) (f_standAt hS hF d) ?_
  refine e_astore (k := 4) (xi85 4) (Nat.le_of_ble_eq_true rfl) (by decide) ?_
  show x_Ev 85 5 [.inr 0, .inl (a), .inl (d), .inl (c), .inr (-1)] [] (0, 0) (z, P, M) _
  refine e_aload (k := 5) (xi85 5) rfl (by decide) ?_
  refine e_ifnull (k := 6) (xi85 6) (by omega) (fun _ => ?_) (fun q => absurd (by omega) q)
  refine e_iconst (k := 18) (xi85 18) ?_
  refine e_iret (k := 19) (xi85 19) ?_
  rfl
theorem f_charge {z : Int} {P M : Int → Int → Int} (hS : x_Sh z P) (hF : x_F0 M) (a : Int) (d : Int) : x_Call 86 [.inr 0, .inl (a), .inl (d)] (z, P, M) (some (.inl ((-1)))) (z, P, M) := by
  refine e_body (ls0 := [.inr 0, .inl (a), .inl (d), x_un, x_un]) xm86 rfl ?_
  refine e_aload (k := 0) (xi86 0) rfl (by decide) ?_
  refine e_getR (j := 0) (w := 1) (k := 1) (xi86 1) (ok_WS hS) rfl (sh_town hS) ?_
  refine e_iload (k := 2) (xi86 2) rfl ?_
  refine e_call (k := 3) (v := some (.inr (-1))) (h1 := (z, P, M)) (c1 := 0) (c2 := 0) (rest := []) (as := [.inr 1, .inl (a)]) (xi86 3) (by decide) xm41 rfl ⟨rfl, Nat.le_of_ble_eq_true rfl, by decide⟩ (Or.inr (x_okt (ok_town hS))) (f_wheelAt hS hF a) ?_
  refine e_astore (k := 4) (xi86 4) (Nat.le_of_ble_eq_true rfl) (by decide) ?_
  show x_Ev 86 5 [.inr 0, .inl (a), .inl (d), .inr (-1), x_un] [] (0, 0) (z, P, M) _
  refine e_aload (k := 5) (xi86 5) rfl (by decide) ?_
  refine e_ifnull (k := 6) (xi86 6) (by omega) (fun _ => ?_) (fun q => absurd (by omega) q)
  refine e_iconst (k := 10) (xi86 10) ?_
  refine e_iret (k := 11) (xi86 11) ?_
  rfl
theorem f_wheel {z : Int} {P M : Int → Int → Int} (hS : x_Sh z P) (hF : x_F0 M) (a : Int) (d : Int) : x_Call 87 [.inr 0, .inl (a), .inl (d)] (z, P, M) (some (.inl ((-3)))) (z, P, M) := by
  refine e_body (ls0 := [.inr 0, .inl (a), .inl (d), x_un]) xm87 rfl ?_
  refine e_aload (k := 0) (xi87 0) rfl (by decide) ?_
  refine e_getR (j := 0) (w := 1) (k := 1) (xi87 1) (ok_WS hS) rfl (sh_town hS) ?_
  refine e_iload (k := 2) (xi87 2) rfl ?_
  refine e_call (k := 3) (v := some (.inr (-1))) (h1 := (z, P, M)) (c1 := 0) (c2 := 0) (rest := []) (as := [.inr 1, .inl (a)]) (xi87 3) (by decide) xm41 rfl ⟨rfl, Nat.le_of_ble_eq_true rfl, by decide⟩ (Or.inr (x_okt (ok_town hS))) (f_wheelAt hS hF a) ?_
  refine e_astore (k := 4) (xi87 4) (Nat.le_of_ble_eq_true rfl) (by decide) ?_
  show x_Ev 87 5 [.inr 0, .inl (a), .inl (d), .inr (-1)] [] (0, 0) (z, P, M) _
  refine e_aload (k := 5) (xi87 5) rfl (by decide) ?_
  refine e_ifnonnull (k := 6) (xi87 6) (by omega) (fun q => absurd (by omega) q) (fun _ => ?_)
  refine e_iconst (k := 7) (xi87 7) ?_
  refine e_iret (k := 8) (xi87 8) ?_
  rfl
theorem f_fault {z : Int} {P M : Int → Int → Int} (hS : x_Sh z P) (hF : x_F0 M) (a : Int) : x_Call 88 [.inr 0, .inl (a)] (z, P, M) (some (.inl 0)) (z, P, M) := by
  refine e_body (ls0 := [.inr 0, .inl (a), x_un]) xm88 rfl ?_
  refine e_aload (k := 0) (xi88 0) rfl (by decide) ?_
  refine e_getR (j := 0) (w := 1) (k := 1) (xi88 1) (ok_WS hS) rfl (sh_town hS) ?_
  refine e_iload (k := 2) (xi88 2) rfl ?_
  refine e_call (k := 3) (v := some (.inr (-1))) (h1 := (z, P, M)) (c1 := 0) (c2 := 0) (rest := []) (as := [.inr 1, .inl (a)]) (xi88 3) (by decide) xm41 rfl ⟨rfl, Nat.le_of_ble_eq_true rfl, by decide⟩ (Or.inr (x_okt (ok_town hS))) (f_wheelAt hS hF a) ?_
  refine e_astore (k := 4) (xi88 4) (Nat.le_of_ble_eq_true rfl) (by decide) ?_
  show x_Ev 88 5 [.inr 0, .inl (a), .inr (-1)] [] (0, 0) (z, P, M) _
  refine e_aload (k := 5) (xi88 5) rfl (by decide) ?_
  refine e_ifnull (k := 6) (xi88 6) (by omega) (fun _ => ?_) (fun q => absurd (by omega) q)
  refine e_iconst (k := 10) (xi88 10) ?_
  refine e_zret (k := 11) (xi88 11) (by decide) ?_
  rfl
theorem f_test {z : Int} {P M : Int → Int → Int} (hS : x_Sh z P) (hF : x_F0 M) (a : Int) : x_Call 89 [.inr 0, .inl (a)] (z, P, M) (some (.inl ((-1)))) (z, P, M) := by
  refine e_body (ls0 := [.inr 0, .inl (a), x_un]) xm89 rfl ?_
  refine e_aload (k := 0) (xi89 0) rfl (by decide) ?_
  refine e_getR (j := 0) (w := 1) (k := 1) (xi89 1) (ok_WS hS) rfl (sh_town hS) ?_
  refine e_iload (k := 2) (xi89 2) rfl ?_
  refine e_call (k := 3) (v := some (.inr (-1))) (h1 := (z, P, M)) (c1 := 0) (c2 := 0) (rest := []) (as := [.inr 1, .inl (a)]) (xi89 3) (by decide) xm41 rfl ⟨rfl, Nat.le_of_ble_eq_true rfl, by decide⟩ (Or.inr (x_okt (ok_town hS))) (f_wheelAt hS hF a) ?_
  refine e_astore (k := 4) (xi89 4) (Nat.le_of_ble_eq_true rfl) (by decide) ?_
  show x_Ev 89 5 [.inr 0, .inl (a), .inr (-1)] [] (0, 0) (z, P, M) _
  refine e_aload (k := 5) (xi89 5) rfl (by decide) ?_
  refine e_ifnull (k := 6) (xi89 6) (by omega) (fun _ => ?_) (fun q => absurd (by omega) q)
  refine e_iconst (k := 11) (xi89 11) ?_
  refine e_iret (k := 12) (xi89 12) ?_
  rfl
theorem f_mend {z : Int} {P M : Int → Int → Int} (hS : x_Sh z P) (hF : x_F0 M) (a : Int) : x_Call 90 [.inr 0, .inl (a)] (z, P, M) (some (.inl 0)) (z, P, M) := by
  refine e_body (ls0 := [.inr 0, .inl (a), x_un]) xm90 rfl ?_
  refine e_aload (k := 0) (xi90 0) rfl (by decide) ?_
  refine e_getR (j := 0) (w := 1) (k := 1) (xi90 1) (ok_WS hS) rfl (sh_town hS) ?_
  refine e_iload (k := 2) (xi90 2) rfl ?_
  refine e_call (k := 3) (v := some (.inr (-1))) (h1 := (z, P, M)) (c1 := 0) (c2 := 0) (rest := []) (as := [.inr 1, .inl (a)]) (xi90 3) (by decide) xm41 rfl ⟨rfl, Nat.le_of_ble_eq_true rfl, by decide⟩ (Or.inr (x_okt (ok_town hS))) (f_wheelAt hS hF a) ?_
  refine e_astore (k := 4) (xi90 4) (Nat.le_of_ble_eq_true rfl) (by decide) ?_
  show x_Ev 90 5 [.inr 0, .inl (a), .inr (-1)] [] (0, 0) (z, P, M) _
  refine e_aload (k := 5) (xi90 5) rfl (by decide) ?_
  refine e_ifnull (k := 6) (xi90 6) (by omega) (fun _ => ?_) (fun q => absurd (by omega) q)
  refine e_iconst (k := 14) (xi90 14) ?_
  refine e_zret (k := 15) (xi90 15) (by decide) ?_
  rfl
theorem f_doubt {z : Int} {P M : Int → Int → Int} (hS : x_Sh z P) (hF : x_F0 M) (a : Int) (d : Int) : x_Call 91 [.inr 0, .inl (a), .inl (d)] (z, P, M) (some (.inl ((-1)))) (z, P, M) := by
  refine e_body (ls0 := [.inr 0, .inl (a), .inl (d), x_un, x_un, x_un]) xm91 rfl ?_
  refine e_iconst (k := 0) (xi91 0) ?_
  refine e_istore (k := 1) (xi91 1) (Nat.le_of_ble_eq_true rfl) ?_
  show x_Ev 91 2 [.inr 0, .inl (a), .inl (d), .inl 0, x_un, x_un] [] (0, 0) (z, P, M) _
  refine e_iconst (k := 2) (xi91 2) ?_
  refine e_istore (k := 3) (xi91 3) (Nat.le_of_ble_eq_true rfl) ?_
  show x_Ev 91 4 [.inr 0, .inl (a), .inl (d), .inl 0, .inl 0, x_un] [] (0, 0) (z, P, M) _
  refine e_iload (k := 4) (xi91 4) rfl ?_
  refine e_aload (k := 5) (xi91 5) rfl (by decide) ?_
  refine e_getR (j := 0) (w := 1) (k := 6) (xi91 6) (ok_WS hS) rfl (sh_town hS) ?_
  refine e_getI (j := 3) (w := 0) (k := 7) (xi91 7) (ok_town hS) rfl (hF.1.2.1) ?_
  refine e_c_ge (k := 8) (xi91 8) (fun c0 => ?_) (fun q => absurd (by decide) q)
  refine e_iconst (k := 30) (xi91 30) ?_
  refine e_iret (k := 31) (xi91 31) ?_
  rfl
theorem f_hire {z : Int} {P M : Int → Int → Int} (hS : x_Sh z P) (hF : x_F0 M) (a : Int) (d : Int) (c : Int) : x_Call 92 [.inr 0, .inl (a), .inl (d), .inl (c)] (z, P, M) (some (.inl ((-1)))) (z, P, M) := by
  refine e_body (ls0 := [.inr 0, .inl (a), .inl (d), .inl (c), x_un, x_un]) xm92 rfl ?_
  refine e_aload (k := 0) (xi92 0) rfl (by decide) ?_
  refine e_getR (j := 0) (w := 1) (k := 1) (xi92 1) (ok_WS hS) rfl (sh_town hS) ?_
  refine e_iload (k := 2) (xi92 2) rfl ?_
  refine e_iload (k := 3) (xi92 3) rfl ?_
  refine e_call (k := 4) (v := some (.inr (-1))) (h1 := (z, P, M)) (c1 := 0) (c2 := 0) (rest := []) (as := [.inr 1, .inl (a), .inl (d)]) (xi92 4) (by decide) xm43 rfl ⟨rfl, Nat.le_of_ble_eq_true rfl, by decide⟩ (Or.inr (x_okt (ok_town hS))) (f_wheelIn hS hF a d) ?_
  refine e_astore (k := 5) (xi92 5) (Nat.le_of_ble_eq_true rfl) (by decide) ?_
  show x_Ev 92 6 [.inr 0, .inl (a), .inl (d), .inl (c), .inr (-1), x_un] [] (0, 0) (z, P, M) _
  refine e_aload (k := 6) (xi92 6) rfl (by decide) ?_
  refine e_ifnonnull (k := 7) (xi92 7) (by omega) (fun q => absurd (by omega) q) (fun _ => ?_)
  refine e_iconst (k := 8) (xi92 8) ?_
  refine e_iret (k := 9) (xi92 9) ?_
  rfl
theorem f_end {z : Int} {P M : Int → Int → Int} (hS : x_Sh z P) (hF : x_F0 M) (a : Int) (d : Int) : x_Call 93 [.inr 0, .inl (a), .inl (d)] (z, P, M) (some (.inl ((-1)))) (z, P, M) := by
  refine e_body (ls0 := [.inr 0, .inl (a), .inl (d), x_un, x_un]) xm93 rfl ?_
  refine e_aload (k := 0) (xi93 0) rfl (by decide) ?_
  refine e_getR (j := 0) (w := 1) (k := 1) (xi93 1) (ok_WS hS) rfl (sh_town hS) ?_
  refine e_iload (k := 2) (xi93 2) rfl ?_
  refine e_call (k := 3) (v := some (.inr (-1))) (h1 := (z, P, M)) (c1 := 0) (c2 := 0) (rest := []) (as := [.inr 1, .inl (a)]) (xi93 3) (by decide) xm41 rfl ⟨rfl, Nat.le_of_ble_eq_true rfl, by decide⟩ (Or.inr (x_okt (ok_town hS))) (f_wheelAt hS hF a) ?_
  refine e_astore (k := 4) (xi93 4) (Nat.le_of_ble_eq_true rfl) (by decide) ?_
  show x_Ev 93 5 [.inr 0, .inl (a), .inl (d), .inr (-1), x_un] [] (0, 0) (z, P, M) _
  refine e_aload (k := 5) (xi93 5) rfl (by decide) ?_
  refine e_getR (j := 0) (w := 1) (k := 6) (xi93 6) (ok_WS hS) rfl (sh_town hS) ?_
  refine e_iload (k := 7) (xi93 7) rfl ?_
  refine e_call (k := 8) (v := some (.inr (-1))) (h1 := (z, P, M)) (c1 := 0) (c2 := 0) (rest := []) (as := [.inr 1, .inl (d)]) (xi93 8) (by decide) xm40 rfl ⟨rfl, Nat.le_of_ble_eq_true rfl, by decide⟩ (Or.inr (x_okt (ok_town hS))) (f_standAt hS hF d) ?_
  refine e_astore (k := 9) (xi93 9) (Nat.le_of_ble_eq_true rfl) (by decide) ?_
  show x_Ev 93 10 [.inr 0, .inl (a), .inl (d), .inr (-1), .inr (-1)] [] (0, 0) (z, P, M) _
  refine e_aload (k := 10) (xi93 10) rfl (by decide) ?_
  refine e_ifnull (k := 11) (xi93 11) (by omega) (fun _ => ?_) (fun q => absurd (by omega) q)
  refine e_iconst (k := 22) (xi93 22) ?_
  refine e_iret (k := 23) (xi93 23) ?_
  rfl
theorem f_cart {z : Int} {P M : Int → Int → Int} (hS : x_Sh z P) (hF : x_F0 M) (a : Int) (d : Int) : x_Call 95 [.inr 0, .inl (a), .inl (d)] (z, P, M) (some (.inl ((-1)))) (z, P, M) := by
  refine e_body (ls0 := [.inr 0, .inl (a), .inl (d)]) xm95 rfl ?_
  refine e_iload (k := 0) (xi95 0) rfl ?_
  refine e_iconst (k := 1) (xi95 1) ?_
  refine e_c_lt (k := 2) (xi95 2) (fun c0 => ?_) (fun c0 => ?_)
  · skip
    refine e_iconst (k := 11) (xi95 11) ?_
    refine e_iret (k := 12) (xi95 12) ?_
    rfl
  · skip
    refine e_iload (k := 3) (xi95 3) rfl ?_
    refine e_iconst (k := 4) (xi95 4) ?_
    refine e_c_gt (k := 5) (xi95 5) (fun c1 => ?_) (fun c1 => ?_)
    · skip
      refine e_iconst (k := 11) (xi95 11) ?_
      refine e_iret (k := 12) (xi95 12) ?_
      rfl
    · skip
      refine e_aload (k := 6) (xi95 6) rfl (by decide) ?_
      refine e_getR (j := 0) (w := 1) (k := 7) (xi95 7) (ok_WS hS) rfl (sh_town hS) ?_
      refine e_iload (k := 8) (xi95 8) rfl ?_
      refine e_call (k := 9) (v := some (.inr (-1))) (h1 := (z, P, M)) (c1 := 0) (c2 := 0) (rest := []) (as := [.inr 1, .inl (d)]) (xi95 9) (by decide) xm40 rfl ⟨rfl, Nat.le_of_ble_eq_true rfl, by decide⟩ (Or.inr (x_okt (ok_town hS))) (f_standAt hS hF d) ?_
      refine e_ifnonnull (k := 10) (xi95 10) (by omega) (fun q => absurd (by omega) q) (fun _ => ?_)
      refine e_iconst (k := 11) (xi95 11) ?_
      refine e_iret (k := 12) (xi95 12) ?_
      rfl
theorem f_drive {z : Int} {P M : Int → Int → Int} (hS : x_Sh z P) (hF : x_F0 M) (a : Int) (d : Int) : x_Call 96 [.inr 0, .inl (a), .inl (d)] (z, P, M) (some (.inl ((-1)))) (z, P, M) := by
  refine e_body (ls0 := [.inr 0, .inl (a), .inl (d), x_un]) xm96 rfl ?_
  refine e_aload (k := 0) (xi96 0) rfl (by decide) ?_
  refine e_getR (j := 0) (w := 1) (k := 1) (xi96 1) (ok_WS hS) rfl (sh_town hS) ?_
  refine e_iload (k := 2) (xi96 2) rfl ?_
  refine e_call (k := 3) (v := some (.inr (-1))) (h1 := (z, P, M)) (c1 := 0) (c2 := 0) (rest := []) (as := [.inr 1, .inl (a)]) (xi96 3) (by decide) xm42 rfl ⟨rfl, Nat.le_of_ble_eq_true rfl, by decide⟩ (Or.inr (x_okt (ok_town hS))) (f_cartAt hS hF a) ?_
  refine e_astore (k := 4) (xi96 4) (Nat.le_of_ble_eq_true rfl) (by decide) ?_
  show x_Ev 96 5 [.inr 0, .inl (a), .inl (d), .inr (-1)] [] (0, 0) (z, P, M) _
  refine e_aload (k := 5) (xi96 5) rfl (by decide) ?_
  refine e_ifnull (k := 6) (xi96 6) (by omega) (fun _ => ?_) (fun q => absurd (by omega) q)
  refine e_iconst (k := 12) (xi96 12) ?_
  refine e_iret (k := 13) (xi96 13) ?_
  rfl
theorem f_pick {z : Int} {P M : Int → Int → Int} (hS : x_Sh z P) (hF : x_F0 M) (a : Int) (d : Int) : x_Call 97 [.inr 0, .inl (a), .inl (d)] (z, P, M) (some (.inl ((-1)))) (z, P, M) := by
  refine e_body (ls0 := [.inr 0, .inl (a), .inl (d), x_un, x_un]) xm97 rfl ?_
  refine e_aload (k := 0) (xi97 0) rfl (by decide) ?_
  refine e_getR (j := 0) (w := 1) (k := 1) (xi97 1) (ok_WS hS) rfl (sh_town hS) ?_
  refine e_iload (k := 2) (xi97 2) rfl ?_
  refine e_call (k := 3) (v := some (.inr (-1))) (h1 := (z, P, M)) (c1 := 0) (c2 := 0) (rest := []) (as := [.inr 1, .inl (a)]) (xi97 3) (by decide) xm42 rfl ⟨rfl, Nat.le_of_ble_eq_true rfl, by decide⟩ (Or.inr (x_okt (ok_town hS))) (f_cartAt hS hF a) ?_
  refine e_astore (k := 4) (xi97 4) (Nat.le_of_ble_eq_true rfl) (by decide) ?_
  show x_Ev 97 5 [.inr 0, .inl (a), .inl (d), .inr (-1), x_un] [] (0, 0) (z, P, M) _
  refine e_aload (k := 5) (xi97 5) rfl (by decide) ?_
  refine e_ifnonnull (k := 6) (xi97 6) (by omega) (fun q => absurd (by omega) q) (fun _ => ?_)
  refine e_null (k := 7) (xi97 7) ?_
  refine e_goto (k := 8) (xi97 8) ?_
  refine e_astore (k := 15) (xi97 15) (Nat.le_of_ble_eq_true rfl) (by decide) ?_
  show x_Ev 97 16 [.inr 0, .inl (a), .inl (d), .inr (-1), .inr (-1)] [] (0, 0) (z, P, M) _
  refine e_aload (k := 16) (xi97 16) rfl (by decide) ?_
  refine e_ifnull (k := 17) (xi97 17) (by omega) (fun _ => ?_) (fun q => absurd (by omega) q)
  refine e_iconst (k := 24) (xi97 24) ?_
  refine e_iret (k := 25) (xi97 25) ?_
  rfl
theorem f_fetch {z : Int} {P M : Int → Int → Int} (hS : x_Sh z P) (hF : x_F0 M) (a : Int) (d : Int) : x_Call 98 [.inr 0, .inl (a), .inl (d)] (z, P, M) (some (.inl 0)) (z, P, M) := by
  refine e_body (ls0 := [.inr 0, .inl (a), .inl (d), x_un, x_un]) xm98 rfl ?_
  refine e_aload (k := 0) (xi98 0) rfl (by decide) ?_
  refine e_getR (j := 0) (w := 1) (k := 1) (xi98 1) (ok_WS hS) rfl (sh_town hS) ?_
  refine e_iload (k := 2) (xi98 2) rfl ?_
  refine e_call (k := 3) (v := some (.inr (-1))) (h1 := (z, P, M)) (c1 := 0) (c2 := 0) (rest := []) (as := [.inr 1, .inl (a)]) (xi98 3) (by decide) xm42 rfl ⟨rfl, Nat.le_of_ble_eq_true rfl, by decide⟩ (Or.inr (x_okt (ok_town hS))) (f_cartAt hS hF a) ?_
  refine e_astore (k := 4) (xi98 4) (Nat.le_of_ble_eq_true rfl) (by decide) ?_
  show x_Ev 98 5 [.inr 0, .inl (a), .inl (d), .inr (-1), x_un] [] (0, 0) (z, P, M) _
  refine e_aload (k := 5) (xi98 5) rfl (by decide) ?_
  refine e_getR (j := 0) (w := 1) (k := 6) (xi98 6) (ok_WS hS) rfl (sh_town hS) ?_
  refine e_iload (k := 7) (xi98 7) rfl ?_
  refine e_call (k := 8) (v := some (.inr (-1))) (h1 := (z, P, M)) (c1 := 0) (c2 := 0) (rest := []) (as := [.inr 1, .inl (d)]) (xi98 8) (by decide) xm41 rfl ⟨rfl, Nat.le_of_ble_eq_true rfl, by decide⟩ (Or.inr (x_okt (ok_town hS))) (f_wheelAt hS hF d) ?_
  refine e_astore (k := 9) (xi98 9) (Nat.le_of_ble_eq_true rfl) (by decide) ?_
  show x_Ev 98 10 [.inr 0, .inl (a), .inl (d), .inr (-1), .inr (-1)] [] (0, 0) (z, P, M) _
  refine e_aload (k := 10) (xi98 10) rfl (by decide) ?_
  refine e_ifnull (k := 11) (xi98 11) (by omega) (fun _ => ?_) (fun q => absurd (by omega) q)
  refine e_iconst (k := 27) (xi98 27) ?_
  refine e_zret (k := 28) (xi98 28) (by decide) ?_
  rfl
theorem f_drop {z : Int} {P M : Int → Int → Int} (hS : x_Sh z P) (hF : x_F0 M) (a : Int) : x_Call 99 [.inr 0, .inl (a)] (z, P, M) (some (.inl ((-1)))) (z, P, M) := by
  refine e_body (ls0 := [.inr 0, .inl (a), x_un, x_un]) xm99 rfl ?_
  refine e_aload (k := 0) (xi99 0) rfl (by decide) ?_
  refine e_getR (j := 0) (w := 1) (k := 1) (xi99 1) (ok_WS hS) rfl (sh_town hS) ?_
  refine e_iload (k := 2) (xi99 2) rfl ?_
  refine e_call (k := 3) (v := some (.inr (-1))) (h1 := (z, P, M)) (c1 := 0) (c2 := 0) (rest := []) (as := [.inr 1, .inl (a)]) (xi99 3) (by decide) xm42 rfl ⟨rfl, Nat.le_of_ble_eq_true rfl, by decide⟩ (Or.inr (x_okt (ok_town hS))) (f_cartAt hS hF a) ?_
  refine e_astore (k := 4) (xi99 4) (Nat.le_of_ble_eq_true rfl) (by decide) ?_
  show x_Ev 99 5 [.inr 0, .inl (a), .inr (-1), x_un] [] (0, 0) (z, P, M) _
  refine e_aload (k := 5) (xi99 5) rfl (by decide) ?_
  refine e_ifnonnull (k := 6) (xi99 6) (by omega) (fun q => absurd (by omega) q) (fun _ => ?_)
  refine e_null (k := 7) (xi99 7) ?_
  refine e_goto (k := 8) (xi99 8) ?_
  refine e_astore (k := 15) (xi99 15) (Nat.le_of_ble_eq_true rfl) (by decide) ?_
  show x_Ev 99 16 [.inr 0, .inl (a), .inr (-1), .inr (-1)] [] (0, 0) (z, P, M) _
  refine e_aload (k := 16) (xi99 16) rfl (by decide) ?_
  refine e_ifnull (k := 17) (xi99 17) (by omega) (fun _ => ?_) (fun q => absurd (by omega) q)
  refine e_iconst (k := 26) (xi99 26) ?_
  refine e_iret (k := 27) (xi99 27) ?_
  rfl
theorem f_load {z : Int} {P M : Int → Int → Int} (hS : x_Sh z P) (hF : x_F0 M) (a : Int) (d : Int) : x_Call 100 [.inr 0, .inl (a), .inl (d)] (z, P, M) (some (.inl ((-3)))) (z, P, M) := by
  refine e_body (ls0 := [.inr 0, .inl (a), .inl (d), x_un]) xm100 rfl ?_
  refine e_aload (k := 0) (xi100 0) rfl (by decide) ?_
  refine e_getR (j := 0) (w := 1) (k := 1) (xi100 1) (ok_WS hS) rfl (sh_town hS) ?_
  refine e_iload (k := 2) (xi100 2) rfl ?_
  refine e_call (k := 3) (v := some (.inr (-1))) (h1 := (z, P, M)) (c1 := 0) (c2 := 0) (rest := []) (as := [.inr 1, .inl (a)]) (xi100 3) (by decide) xm42 rfl ⟨rfl, Nat.le_of_ble_eq_true rfl, by decide⟩ (Or.inr (x_okt (ok_town hS))) (f_cartAt hS hF a) ?_
  refine e_astore (k := 4) (xi100 4) (Nat.le_of_ble_eq_true rfl) (by decide) ?_
  show x_Ev 100 5 [.inr 0, .inl (a), .inl (d), .inr (-1)] [] (0, 0) (z, P, M) _
  refine e_aload (k := 5) (xi100 5) rfl (by decide) ?_
  refine e_ifnull (k := 6) (xi100 6) (by omega) (fun _ => ?_) (fun q => absurd (by omega) q)
  refine e_iconst (k := 9) (xi100 9) ?_
  refine e_iret (k := 10) (xi100 10) ?_
  rfl
theorem f_demand {z : Int} {P M : Int → Int → Int} (hS : x_Sh z P) (hF : x_F0 M) (a : Int) (d : Int) (c : Int) (e : Int) : x_Call 101 [.inr 0, .inl (a), .inl (d), .inl (c), .inl (e)] (z, P, M) (some (.inl 0)) (z, P, M) := by
  refine e_body (ls0 := [.inr 0, .inl (a), .inl (d), .inl (c), .inl (e), x_un]) xm101 rfl ?_
  refine e_aload (k := 0) (xi101 0) rfl (by decide) ?_
  refine e_getR (j := 0) (w := 1) (k := 1) (xi101 1) (ok_WS hS) rfl (sh_town hS) ?_
  refine e_iload (k := 2) (xi101 2) rfl ?_
  refine e_call (k := 3) (v := some (.inr (-1))) (h1 := (z, P, M)) (c1 := 0) (c2 := 0) (rest := []) (as := [.inr 1, .inl (a)]) (xi101 3) (by decide) xm40 rfl ⟨rfl, Nat.le_of_ble_eq_true rfl, by decide⟩ (Or.inr (x_okt (ok_town hS))) (f_standAt hS hF a) ?_
  refine e_astore (k := 4) (xi101 4) (Nat.le_of_ble_eq_true rfl) (by decide) ?_
  show x_Ev 101 5 [.inr 0, .inl (a), .inl (d), .inl (c), .inl (e), .inr (-1)] [] (0, 0) (z, P, M) _
  refine e_aload (k := 5) (xi101 5) rfl (by decide) ?_
  refine e_ifnull (k := 6) (xi101 6) (by omega) (fun _ => ?_) (fun q => absurd (by omega) q)
  refine e_iconst (k := 16) (xi101 16) ?_
  refine e_zret (k := 17) (xi101 17) (by decide) ?_
  rfl
theorem f_runs {z : Int} {P M : Int → Int → Int} (hS : x_Sh z P) (hF : x_F0 M) (a : Int) (d : Int) (c : Int) : x_Call 102 [.inr 0, .inl (a), .inl (d), .inl (c)] (z, P, M) (some (.inl ((-3)))) (z, P, M) := by
  refine e_body (ls0 := [.inr 0, .inl (a), .inl (d), .inl (c), x_un]) xm102 rfl ?_
  refine e_aload (k := 0) (xi102 0) rfl (by decide) ?_
  refine e_getR (j := 0) (w := 1) (k := 1) (xi102 1) (ok_WS hS) rfl (sh_town hS) ?_
  refine e_iload (k := 2) (xi102 2) rfl ?_
  refine e_call (k := 3) (v := some (.inr (-1))) (h1 := (z, P, M)) (c1 := 0) (c2 := 0) (rest := []) (as := [.inr 1, .inl (a)]) (xi102 3) (by decide) xm40 rfl ⟨rfl, Nat.le_of_ble_eq_true rfl, by decide⟩ (Or.inr (x_okt (ok_town hS))) (f_standAt hS hF a) ?_
  refine e_astore (k := 4) (xi102 4) (Nat.le_of_ble_eq_true rfl) (by decide) ?_
  show x_Ev 102 5 [.inr 0, .inl (a), .inl (d), .inl (c), .inr (-1)] [] (0, 0) (z, P, M) _
  refine e_aload (k := 5) (xi102 5) rfl (by decide) ?_
  refine e_ifnull (k := 6) (xi102 6) (by omega) (fun _ => ?_) (fun q => absurd (by omega) q)
  refine e_iconst (k := 13) (xi102 13) ?_
  refine e_iret (k := 14) (xi102 14) ?_
  rfl
theorem f_shortage {z : Int} {P M : Int → Int → Int} (hS : x_Sh z P) (hF : x_F0 M) (a : Int) : x_Call 103 [.inr 0, .inl (a)] (z, P, M) (some (.inl ((-1000)))) (z, P, M) := by
  refine e_body (ls0 := [.inr 0, .inl (a), x_un]) xm103 rfl ?_
  refine e_aload (k := 0) (xi103 0) rfl (by decide) ?_
  refine e_getR (j := 0) (w := 1) (k := 1) (xi103 1) (ok_WS hS) rfl (sh_town hS) ?_
  refine e_iload (k := 2) (xi103 2) rfl ?_
  refine e_call (k := 3) (v := some (.inr (-1))) (h1 := (z, P, M)) (c1 := 0) (c2 := 0) (rest := []) (as := [.inr 1, .inl (a)]) (xi103 3) (by decide) xm40 rfl ⟨rfl, Nat.le_of_ble_eq_true rfl, by decide⟩ (Or.inr (x_okt (ok_town hS))) (f_standAt hS hF a) ?_
  refine e_astore (k := 4) (xi103 4) (Nat.le_of_ble_eq_true rfl) (by decide) ?_
  show x_Ev 103 5 [.inr 0, .inl (a), .inr (-1)] [] (0, 0) (z, P, M) _
  refine e_aload (k := 5) (xi103 5) rfl (by decide) ?_
  refine e_ifnonnull (k := 6) (xi103 6) (by omega) (fun q => absurd (by omega) q) (fun _ => ?_)
  refine e_iconst (k := 7) (xi103 7) ?_
  refine e_iret (k := 8) (xi103 8) ?_
  rfl
theorem f_want {z : Int} {P M : Int → Int → Int} (hS : x_Sh z P) (hF : x_F0 M) (a : Int) (d : Int) : x_Call 104 [.inr 0, .inl (a), .inl (d)] (z, P, M) (some (.inl 0)) (z, P, M) := by
  refine e_body (ls0 := [.inr 0, .inl (a), .inl (d), x_un]) xm104 rfl ?_
  refine e_aload (k := 0) (xi104 0) rfl (by decide) ?_
  refine e_getR (j := 0) (w := 1) (k := 1) (xi104 1) (ok_WS hS) rfl (sh_town hS) ?_
  refine e_iload (k := 2) (xi104 2) rfl ?_
  refine e_call (k := 3) (v := some (.inr (-1))) (h1 := (z, P, M)) (c1 := 0) (c2 := 0) (rest := []) (as := [.inr 1, .inl (a)]) (xi104 3) (by decide) xm40 rfl ⟨rfl, Nat.le_of_ble_eq_true rfl, by decide⟩ (Or.inr (x_okt (ok_town hS))) (f_standAt hS hF a) ?_
  refine e_astore (k := 4) (xi104 4) (Nat.le_of_ble_eq_true rfl) (by decide) ?_
  show x_Ev 104 5 [.inr 0, .inl (a), .inl (d), .inr (-1)] [] (0, 0) (z, P, M) _
  refine e_aload (k := 5) (xi104 5) rfl (by decide) ?_
  refine e_ifnull (k := 6) (xi104 6) (by omega) (fun _ => ?_) (fun q => absurd (by omega) q)
  refine e_iconst (k := 13) (xi104 13) ?_
  refine e_zret (k := 14) (xi104 14) (by decide) ?_
  rfl
theorem f_plan {z : Int} {P M : Int → Int → Int} (hS : x_Sh z P) (hF : x_F0 M) (a : Int) : x_Call 105 [.inr 0, .inl (a)] (z, P, M) (some (.inl ((-1)))) (z, P, M) := by
  refine e_body (ls0 := [.inr 0, .inl (a)]) xm105 rfl ?_
  refine e_aload (k := 0) (xi105 0) rfl (by decide) ?_
  refine e_getR (j := 2) (w := 156) (k := 1) (xi105 1) (ok_WS hS) rfl (sh_tour hS) ?_
  refine e_aload (k := 2) (xi105 2) rfl (by decide) ?_
  refine e_getR (j := 0) (w := 1) (k := 3) (xi105 3) (ok_WS hS) rfl (sh_town hS) ?_
  refine e_aload (k := 4) (xi105 4) rfl (by decide) ?_
  refine e_getR (j := 0) (w := 1) (k := 5) (xi105 5) (ok_WS hS) rfl (sh_town hS) ?_
  refine e_iload (k := 6) (xi105 6) rfl ?_
  refine e_call (k := 7) (v := some (.inr (-1))) (h1 := (z, P, M)) (c1 := 0) (c2 := 0) (rest := [.inr 1, .inr 156]) (as := [.inr 1, .inl (a)]) (xi105 7) (by decide) xm42 rfl ⟨rfl, Nat.le_of_ble_eq_true rfl, by decide⟩ (Or.inr (x_okt (ok_town hS))) (f_cartAt hS hF a) ?_
  refine e_call (k := 8) (v := some (.inl ((-1)))) (h1 := (z, P, M)) (c1 := 0) (c2 := 0) (rest := []) (as := [.inr 156, .inr 1, .inr (-1)]) (xi105 8) (by decide) xm29 rfl ⟨rfl, Nat.le_of_ble_eq_true rfl, by decide⟩ (Or.inr (x_okt (ok_tour hS))) (f_prepare hS hF ) ?_
  refine e_iret (k := 9) (xi105 9) ?_
  rfl
theorem f_round {z : Int} {P M : Int → Int → Int} (hS : x_Sh z P) (hF : x_F0 M) (a : Int) : x_Call 106 [.inr 0, .inl (a)] (z, P, M) (some (.inl ((-1)))) (z, P, M) := by
  refine e_body (ls0 := [.inr 0, .inl (a)]) xm106 rfl ?_
  refine e_aload (k := 0) (xi106 0) rfl (by decide) ?_
  refine e_getR (j := 2) (w := 156) (k := 1) (xi106 1) (ok_WS hS) rfl (sh_tour hS) ?_
  refine e_iload (k := 2) (xi106 2) rfl ?_
  refine e_call (k := 3) (v := some (.inl ((-1)))) (h1 := (z, P, M)) (c1 := 0) (c2 := 0) (rest := []) (as := [.inr 156, .inl (a)]) (xi106 3) (by decide) xm28 rfl ⟨rfl, Nat.le_of_ble_eq_true rfl, by decide⟩ (Or.inr (x_okt (ok_tour hS))) (f_stopAt hS hF a) ?_
  refine e_iret (k := 4) (xi106 4) ?_
  rfl
theorem f_carry {z : Int} {P M : Int → Int → Int} (hS : x_Sh z P) (hF : x_F0 M) (a : Int) : x_Call 107 [.inr 0, .inl (a)] (z, P, M) (some (.inl ((-1)))) (z, P, M) := by
  refine e_body (ls0 := [.inr 0, .inl (a), x_un, x_un, x_un]) xm107 rfl ?_
  refine e_aload (k := 0) (xi107 0) rfl (by decide) ?_
  refine e_getR (j := 0) (w := 1) (k := 1) (xi107 1) (ok_WS hS) rfl (sh_town hS) ?_
  refine e_iload (k := 2) (xi107 2) rfl ?_
  refine e_call (k := 3) (v := some (.inr (-1))) (h1 := (z, P, M)) (c1 := 0) (c2 := 0) (rest := []) (as := [.inr 1, .inl (a)]) (xi107 3) (by decide) xm42 rfl ⟨rfl, Nat.le_of_ble_eq_true rfl, by decide⟩ (Or.inr (x_okt (ok_town hS))) (f_cartAt hS hF a) ?_
  refine e_astore (k := 4) (xi107 4) (Nat.le_of_ble_eq_true rfl) (by decide) ?_
  show x_Ev 107 5 [.inr 0, .inl (a), .inr (-1), x_un, x_un] [] (0, 0) (z, P, M) _
  refine e_aload (k := 5) (xi107 5) rfl (by decide) ?_
  refine e_getR (j := 2) (w := 156) (k := 6) (xi107 6) (ok_WS hS) rfl (sh_tour hS) ?_
  refine e_aload (k := 7) (xi107 7) rfl (by decide) ?_
  refine e_getR (j := 0) (w := 1) (k := 8) (xi107 8) (ok_WS hS) rfl (sh_town hS) ?_
  refine e_aload (k := 9) (xi107 9) rfl (by decide) ?_
  refine e_call (k := 10) (v := some (.inl ((-1)))) (h1 := (z, P, M)) (c1 := 0) (c2 := 0) (rest := []) (as := [.inr 156, .inr 1, .inr (-1)]) (xi107 10) (by decide) xm29 rfl ⟨rfl, Nat.le_of_ble_eq_true rfl, by decide⟩ (Or.inr (x_okt (ok_tour hS))) (f_prepare hS hF ) ?_
  refine e_istore (k := 11) (xi107 11) (Nat.le_of_ble_eq_true rfl) ?_
  show x_Ev 107 12 [.inr 0, .inl (a), .inr (-1), .inl ((-1)), x_un] [] (0, 0) (z, P, M) _
  refine e_iload (k := 12) (xi107 12) rfl ?_
  refine e_iconst (k := 13) (xi107 13) ?_
  refine e_c_eq (k := 14) (xi107 14) (fun c0 => ?_) (fun q => absurd (by decide) q)
  refine e_iconst (k := 17) (xi107 17) ?_
  refine e_iret (k := 18) (xi107 18) ?_
  rfl
theorem g_isDock {z : Int} {P M : Int → Int → Int} {A : Int → Int} (hS : x_Sh z P) (hA0 : A 0 = 0) (hA1 : A 1 = 0) (hA2 : A 2 = 0) (hA3 : A 3 = 0)  (a : Int) (d : Int) : x_Call 125 [.inr 162, .inl (a), .inl (d)] (z, P, x_row M 163 A) (some (.inl 0)) (z, P, x_row M 163 A) := by
  refine e_body (ls0 := [.inr 162, .inl (a), .inl (d)]) xm125 rfl ?_
  refine e_aload (k := 0) (xi125 0) rfl (by decide) ?_
  refine e_iload (k := 1) (xi125 1) rfl ?_
  refine e_call (k := 2) (v := some (.inl (x_b (0 ≤ a ∧ a < A 0)))) (h1 := (z, P, (x_row M 163 A))) (c1 := 0) (c2 := 0) (rest := []) (as := [.inr 162, .inl (a)]) (xi125 2) (by decide) xm114 rfl ⟨rfl, Nat.le_of_ble_eq_true rfl, by decide⟩ (Or.inr (x_okt (ok_mo hS))) (m_isStand hS a (M := M) (A := A)) ?_
  refine e_b_eq (k := 3) (xi125 3) (fun q => absurd q (by omega)) (fun c0 => ?_)
  refine e_iconst (k := 12) (xi125 12) ?_
  refine e_zret (k := 13) (xi125 13) (by decide) ?_
  rfl
theorem g_isFree {z : Int} {P M : Int → Int → Int} {A : Int → Int} (hS : x_Sh z P) (hA0 : A 0 = 0) (hA1 : A 1 = 0) (hA2 : A 2 = 0) (hA3 : A 3 = 0)  (a : Int) (d : Int) : x_Call 133 [.inr 162, .inl (a), .inl (d)] (z, P, x_row M 163 A) (some (.inl 0)) (z, P, x_row M 163 A) := by
  refine e_body (ls0 := [.inr 162, .inl (a), .inl (d)]) xm133 rfl ?_
  refine e_aload (k := 0) (xi133 0) rfl (by decide) ?_
  refine e_iload (k := 1) (xi133 1) rfl ?_
  refine e_iload (k := 2) (xi133 2) rfl ?_
  refine e_call (k := 3) (v := some (.inl 0)) (h1 := (z, P, (x_row M 163 A))) (c1 := 0) (c2 := 0) (rest := []) (as := [.inr 162, .inl (a), .inl (d)]) (xi133 3) (by decide) xm125 rfl ⟨rfl, Nat.le_of_ble_eq_true rfl, by decide⟩ (Or.inr (x_okt (ok_mo hS))) (g_isDock hS hA0 hA1 hA2 hA3 a d (M := M)) ?_
  refine e_z_eq (k := 4) (xi133 4) (fun c0 => ?_) (fun q => absurd (by decide) q)
  refine e_iconst (k := 16) (xi133 16) ?_
  refine e_zret (k := 17) (xi133 17) (by decide) ?_
  rfl
theorem g_fits {z : Int} {P M : Int → Int → Int} {A : Int → Int} (hS : x_Sh z P) (hA0 : A 0 = 0) (hA1 : A 1 = 0) (hA2 : A 2 = 0) (hA3 : A 3 = 0)  (c : Int) (a : Int) (d : Int) : x_Call 134 [.inr 162, .inl (c), .inl (a), .inl (d)] (z, P, x_row M 163 A) (some (.inl 0)) (z, P, x_row M 163 A) := by
  refine e_body (ls0 := [.inr 162, .inl (c), .inl (a), .inl (d)]) xm134 rfl ?_
  refine e_aload (k := 0) (xi134 0) rfl (by decide) ?_
  refine e_iload (k := 1) (xi134 1) rfl ?_
  refine e_iload (k := 2) (xi134 2) rfl ?_
  refine e_call (k := 3) (v := some (.inl 0)) (h1 := (z, P, (x_row M 163 A))) (c1 := 0) (c2 := 0) (rest := []) (as := [.inr 162, .inl (a), .inl (d)]) (xi134 3) (by decide) xm133 rfl ⟨rfl, Nat.le_of_ble_eq_true rfl, by decide⟩ (Or.inr (x_okt (ok_mo hS))) (g_isFree hS hA0 hA1 hA2 hA3 a d (M := M)) ?_
  refine e_z_eq (k := 4) (xi134 4) (fun c0 => ?_) (fun q => absurd (by decide) q)
  refine e_iconst (k := 17) (xi134 17) ?_
  refine e_zret (k := 18) (xi134 18) (by decide) ?_
  rfl
theorem g_length {z : Int} {P M : Int → Int → Int} {A : Int → Int} (hS : x_Sh z P) (hA0 : A 0 = 0) (hA1 : A 1 = 0) (hA2 : A 2 = 0) (hA3 : A 3 = 0)  (a : Int) (d : Int) (c : Int) : x_Call 122 [.inr 162, .inl (a), .inl (d), .inl (c)] (z, P, x_row M 163 A) (some (.inl 0)) (z, P, x_row M 163 A) := by
  refine e_body (ls0 := [.inr 162, .inl (a), .inl (d), .inl (c)]) xm122 rfl ?_
  refine e_aload (k := 0) (xi122 0) rfl (by decide) ?_
  refine e_iload (k := 1) (xi122 1) rfl ?_
  refine e_call (k := 2) (v := some (.inl (x_b (0 ≤ a ∧ a < A 0)))) (h1 := (z, P, (x_row M 163 A))) (c1 := 0) (c2 := 0) (rest := []) (as := [.inr 162, .inl (a)]) (xi122 2) (by decide) xm114 rfl ⟨rfl, Nat.le_of_ble_eq_true rfl, by decide⟩ (Or.inr (x_okt (ok_mo hS))) (m_isStand hS a (M := M) (A := A)) ?_
  refine e_b_eq (k := 3) (xi122 3) (fun q => absurd q (by omega)) (fun c0 => ?_)
  refine e_iconst (k := 17) (xi122 17) ?_
  refine e_zret (k := 18) (xi122 18) (by decide) ?_
  rfl
theorem g_next {z : Int} {P M : Int → Int → Int} {A : Int → Int} (hS : x_Sh z P) (hA0 : A 0 = 0) (hA1 : A 1 = 0) (hA2 : A 2 = 0) (hA3 : A 3 = 0)  (a : Int) (d : Int) : x_Call 123 [.inr 162, .inl (a), .inl (d)] (z, P, x_row M 163 A) (some (.inl ((-1)))) (z, P, x_row M 163 A) := by
  refine e_body (ls0 := [.inr 162, .inl (a), .inl (d), x_un]) xm123 rfl ?_
  refine e_aload (k := 0) (xi123 0) rfl (by decide) ?_
  refine e_iload (k := 1) (xi123 1) rfl ?_
  refine e_call (k := 2) (v := some (.inl (x_b (0 ≤ a ∧ a < A 0)))) (h1 := (z, P, (x_row M 163 A))) (c1 := 0) (c2 := 0) (rest := []) (as := [.inr 162, .inl (a)]) (xi123 2) (by decide) xm114 rfl ⟨rfl, Nat.le_of_ble_eq_true rfl, by decide⟩ (Or.inr (x_okt (ok_mo hS))) (m_isStand hS a (M := M) (A := A)) ?_
  refine e_b_eq (k := 3) (xi123 3) (fun q => absurd q (by omega)) (fun c0 => ?_)
  refine e_iconst (k := 11) (xi123 11) ?_
  refine e_iret (k := 12) (xi123 12) ?_
  rfl
theorem g_tear {z : Int} {P M : Int → Int → Int} {A : Int → Int} (hS : x_Sh z P) (hA0 : A 0 = 0) (hA1 : A 1 = 0) (hA2 : A 2 = 0) (hA3 : A 3 = 0)  (a : Int) (d : Int) : x_Call 124 [.inr 162, .inl (a), .inl (d)] (z, P, x_row M 163 A) (some (.inl 0)) (z, P, x_row M 163 A) := by
  refine e_body (ls0 := [.inr 162, .inl (a), .inl (d), x_un]) xm124 rfl ?_
  refine e_aload (k := 0) (xi124 0) rfl (by decide) ?_
  refine e_iload (k := 1) (xi124 1) rfl ?_
  refine e_call (k := 2) (v := some (.inl (x_b (0 ≤ a ∧ a < A 0)))) (h1 := (z, P, (x_row M 163 A))) (c1 := 0) (c2 := 0) (rest := []) (as := [.inr 162, .inl (a)]) (xi124 2) (by decide) xm114 rfl ⟨rfl, Nat.le_of_ble_eq_true rfl, by decide⟩ (Or.inr (x_okt (ok_mo hS))) (m_isStand hS a (M := M) (A := A)) ?_
  refine e_b_eq (k := 3) (xi124 3) (fun q => absurd q (by omega)) (fun c0 => ?_)
  refine e_iconst (k := 8) (xi124 8) ?_
  refine e_zret (k := 9) (xi124 9) (by decide) ?_
  rfl
theorem g_block {z : Int} {P M : Int → Int → Int} {A : Int → Int} (hS : x_Sh z P) (hA0 : A 0 = 0) (hA1 : A 1 = 0) (hA2 : A 2 = 0) (hA3 : A 3 = 0)  (a : Int) (d : Int) (c : Int) : x_Call 126 [.inr 162, .inl (a), .inl (d), .inl (c)] (z, P, x_row M 163 A) (some (.inl 0)) (z, P, x_row M 163 A) := by
  refine e_body (ls0 := [.inr 162, .inl (a), .inl (d), .inl (c), x_un]) xm126 rfl ?_
  refine e_aload (k := 0) (xi126 0) rfl (by decide) ?_
  refine e_iload (k := 1) (xi126 1) rfl ?_
  refine e_iload (k := 2) (xi126 2) rfl ?_
  refine e_call (k := 3) (v := some (.inl 0)) (h1 := (z, P, (x_row M 163 A))) (c1 := 0) (c2 := 0) (rest := []) (as := [.inr 162, .inl (a), .inl (d)]) (xi126 3) (by decide) xm125 rfl ⟨rfl, Nat.le_of_ble_eq_true rfl, by decide⟩ (Or.inr (x_okt (ok_mo hS))) (g_isDock hS hA0 hA1 hA2 hA3 a d (M := M)) ?_
  refine e_z_ne (k := 4) (xi126 4) (fun q => absurd q (by decide)) (fun c0 => ?_)
  refine e_iconst (k := 5) (xi126 5) ?_
  refine e_zret (k := 6) (xi126 6) (by decide) ?_
  rfl
theorem g_dock {z : Int} {P M : Int → Int → Int} {A : Int → Int} (hS : x_Sh z P) (hA0 : A 0 = 0) (hA1 : A 1 = 0) (hA2 : A 2 = 0) (hA3 : A 3 = 0)  (a : Int) (d : Int) : x_Call 127 [.inr 162, .inl (a), .inl (d)] (z, P, x_row M 163 A) (some (.inl ((-3)))) (z, P, x_row M 163 A) := by
  refine e_body (ls0 := [.inr 162, .inl (a), .inl (d)]) xm127 rfl ?_
  refine e_aload (k := 0) (xi127 0) rfl (by decide) ?_
  refine e_iload (k := 1) (xi127 1) rfl ?_
  refine e_iload (k := 2) (xi127 2) rfl ?_
  refine e_call (k := 3) (v := some (.inl 0)) (h1 := (z, P, (x_row M 163 A))) (c1 := 0) (c2 := 0) (rest := []) (as := [.inr 162, .inl (a), .inl (d)]) (xi127 3) (by decide) xm125 rfl ⟨rfl, Nat.le_of_ble_eq_true rfl, by decide⟩ (Or.inr (x_okt (ok_mo hS))) (g_isDock hS hA0 hA1 hA2 hA3 a d (M := M)) ?_
  refine e_z_eq (k := 4) (xi127 4) (fun c0 => ?_) (fun q => absurd (by decide) q)
  refine e_iconst (k := 13) (xi127 13) ?_
  refine e_iret (k := 14) (xi127 14) ?_
  rfl
theorem g_tell {z : Int} {P M : Int → Int → Int} {A : Int → Int} (hS : x_Sh z P) (hA0 : A 0 = 0) (hA1 : A 1 = 0) (hA2 : A 2 = 0) (hA3 : A 3 = 0)  (a : Int) (d : Int) : x_Call 132 [.inr 162, .inl (a), .inl (d)] (z, P, x_row M 163 A) (some (.inl ((-3)))) (z, P, x_row M 163 A) := by
  refine e_body (ls0 := [.inr 162, .inl (a), .inl (d)]) xm132 rfl ?_
  refine e_aload (k := 0) (xi132 0) rfl (by decide) ?_
  refine e_iload (k := 1) (xi132 1) rfl ?_
  refine e_call (k := 2) (v := some (.inl (x_b (0 ≤ a ∧ a < A 0)))) (h1 := (z, P, (x_row M 163 A))) (c1 := 0) (c2 := 0) (rest := []) (as := [.inr 162, .inl (a)]) (xi132 2) (by decide) xm114 rfl ⟨rfl, Nat.le_of_ble_eq_true rfl, by decide⟩ (Or.inr (x_okt (ok_mo hS))) (m_isStand hS a (M := M) (A := A)) ?_
  refine e_b_ne (k := 3) (xi132 3) (fun q => absurd q (by omega)) (fun c0 => ?_)
  refine e_iconst (k := 4) (xi132 4) ?_
  refine e_iret (k := 5) (xi132 5) ?_
  rfl
theorem g_put {z : Int} {P M : Int → Int → Int} {A : Int → Int} (hS : x_Sh z P) (hA0 : A 0 = 0) (hA1 : A 1 = 0) (hA2 : A 2 = 0) (hA3 : A 3 = 0)  (a : Int) (d : Int) (c : Int) : x_Call 139 [.inr 162, .inl (a), .inl (d), .inl (c)] (z, P, x_row M 163 A) (some (.inl ((-1)))) (z, P, x_row M 163 A) := by
  refine e_body (ls0 := [.inr 162, .inl (a), .inl (d), .inl (c), x_un]) xm139 rfl ?_
  refine e_aload (k := 0) (xi139 0) rfl (by decide) ?_
  refine e_getR (j := 0) (w := 163) (k := 1) (xi139 1) (ok_mo hS) rfl (sh_all hS) ?_
  refine e_iconst (k := 2) (xi139 2) ?_
  refine e_iald (w := 0) (k := 3) (xi139 3) (ok_all hS) (by rw [ln_all]; omega) ((((if_pos rfl).trans rfl).trans hA1)) ?_
  refine e_iconst (k := 4) (xi139 4) ?_
  refine e_c_eq (k := 5) (xi139 5) (fun q => absurd q (by decide)) (fun c0 => ?_)
  refine e_iload (k := 6) (xi139 6) rfl ?_
  refine e_iconst (k := 7) (xi139 7) ?_
  refine e_call (k := 8) (v := some (.inl (x_b (0 ≤ a ∧ a < 4)))) (h1 := (z, P, (x_row M 163 A))) (c1 := 0) (c2 := 0) (rest := []) (as := [.inl (a), .inl 4]) (xi139 8) (by decide) xm113 rfl ⟨rfl, Nat.le_of_ble_eq_true rfl, by decide⟩ (Or.inl rfl) (m_isIn a 4) ?_
  refine e_b_eq (k := 9) (xi139 9) (fun c1 => ?_) (fun c1 => ?_)
  · skip
    refine e_aload (k := 10) (xi139 10) rfl (by decide) ?_
    refine e_iload (k := 11) (xi139 11) rfl ?_
    refine e_iload (k := 12) (xi139 12) rfl ?_
    refine e_iload (k := 13) (xi139 13) rfl ?_
    refine e_call (k := 14) (v := some (.inl 0)) (h1 := (z, P, (x_row M 163 A))) (c1 := 0) (c2 := 0) (rest := []) (as := [.inr 162, .inl (a), .inl (d), .inl (c)]) (xi139 14) (by decide) xm134 rfl ⟨rfl, Nat.le_of_ble_eq_true rfl, by decide⟩ (Or.inr (x_okt (ok_mo hS))) (g_fits hS hA0 hA1 hA2 hA3 a d c (M := M)) ?_
    refine e_z_ne (k := 15) (xi139 15) (fun q => absurd q (by decide)) (fun c2 => ?_)
    refine e_iconst (k := 16) (xi139 16) ?_
    refine e_iret (k := 17) (xi139 17) ?_
    rfl
  · skip
    refine e_iconst (k := 16) (xi139 16) ?_
    refine e_iret (k := 17) (xi139 17) ?_
    rfl
theorem g_charge {z : Int} {P M : Int → Int → Int} {A : Int → Int} (hS : x_Sh z P) (hA0 : A 0 = 0) (hA1 : A 1 = 0) (hA2 : A 2 = 0) (hA3 : A 3 = 0)  (a : Int) (d : Int) : x_Call 141 [.inr 162, .inl (a), .inl (d)] (z, P, x_row M 163 A) (some (.inl ((-1)))) (z, P, x_row M 163 A) := by
  refine e_body (ls0 := [.inr 162, .inl (a), .inl (d), x_un]) xm141 rfl ?_
  refine e_aload (k := 0) (xi141 0) rfl (by decide) ?_
  refine e_iload (k := 1) (xi141 1) rfl ?_
  refine e_call (k := 2) (v := some (.inl (x_b (0 ≤ a ∧ a < A 1)))) (h1 := (z, P, (x_row M 163 A))) (c1 := 0) (c2 := 0) (rest := []) (as := [.inr 162, .inl (a)]) (xi141 2) (by decide) xm115 rfl ⟨rfl, Nat.le_of_ble_eq_true rfl, by decide⟩ (Or.inr (x_okt (ok_mo hS))) (m_isWheel hS a (M := M) (A := A)) ?_
  refine e_b_eq (k := 3) (xi141 3) (fun q => absurd q (by omega)) (fun c0 => ?_)
  refine e_iconst (k := 10) (xi141 10) ?_
  refine e_iret (k := 11) (xi141 11) ?_
  rfl
theorem g_wheel {z : Int} {P M : Int → Int → Int} {A : Int → Int} (hS : x_Sh z P) (hA0 : A 0 = 0) (hA1 : A 1 = 0) (hA2 : A 2 = 0) (hA3 : A 3 = 0)  (a : Int) (d : Int) : x_Call 142 [.inr 162, .inl (a), .inl (d)] (z, P, x_row M 163 A) (some (.inl ((-3)))) (z, P, x_row M 163 A) := by
  refine e_body (ls0 := [.inr 162, .inl (a), .inl (d), x_un]) xm142 rfl ?_
  refine e_aload (k := 0) (xi142 0) rfl (by decide) ?_
  refine e_iload (k := 1) (xi142 1) rfl ?_
  refine e_call (k := 2) (v := some (.inl (x_b (0 ≤ a ∧ a < A 1)))) (h1 := (z, P, (x_row M 163 A))) (c1 := 0) (c2 := 0) (rest := []) (as := [.inr 162, .inl (a)]) (xi142 2) (by decide) xm115 rfl ⟨rfl, Nat.le_of_ble_eq_true rfl, by decide⟩ (Or.inr (x_okt (ok_mo hS))) (m_isWheel hS a (M := M) (A := A)) ?_
  refine e_b_ne (k := 3) (xi142 3) (fun q => absurd q (by omega)) (fun c0 => ?_)
  refine e_iconst (k := 4) (xi142 4) ?_
  refine e_iret (k := 5) (xi142 5) ?_
  rfl
theorem g_fault {z : Int} {P M : Int → Int → Int} {A : Int → Int} (hS : x_Sh z P) (hA0 : A 0 = 0) (hA1 : A 1 = 0) (hA2 : A 2 = 0) (hA3 : A 3 = 0)  (a : Int) : x_Call 143 [.inr 162, .inl (a)] (z, P, x_row M 163 A) (some (.inl 0)) (z, P, x_row M 163 A) := by
  refine e_body (ls0 := [.inr 162, .inl (a)]) xm143 rfl ?_
  refine e_aload (k := 0) (xi143 0) rfl (by decide) ?_
  refine e_iload (k := 1) (xi143 1) rfl ?_
  refine e_call (k := 2) (v := some (.inl (x_b (0 ≤ a ∧ a < A 1)))) (h1 := (z, P, (x_row M 163 A))) (c1 := 0) (c2 := 0) (rest := []) (as := [.inr 162, .inl (a)]) (xi143 2) (by decide) xm115 rfl ⟨rfl, Nat.le_of_ble_eq_true rfl, by decide⟩ (Or.inr (x_okt (ok_mo hS))) (m_isWheel hS a (M := M) (A := A)) ?_
  refine e_b_eq (k := 3) (xi143 3) (fun q => absurd q (by omega)) (fun c0 => ?_)
  refine e_iconst (k := 9) (xi143 9) ?_
  refine e_zret (k := 10) (xi143 10) (by decide) ?_
  rfl
theorem g_test {z : Int} {P M : Int → Int → Int} {A : Int → Int} (hS : x_Sh z P) (hA0 : A 0 = 0) (hA1 : A 1 = 0) (hA2 : A 2 = 0) (hA3 : A 3 = 0)  (a : Int) : x_Call 144 [.inr 162, .inl (a)] (z, P, x_row M 163 A) (some (.inl ((-1)))) (z, P, x_row M 163 A) := by
  refine e_body (ls0 := [.inr 162, .inl (a)]) xm144 rfl ?_
  refine e_aload (k := 0) (xi144 0) rfl (by decide) ?_
  refine e_iload (k := 1) (xi144 1) rfl ?_
  refine e_call (k := 2) (v := some (.inl (x_b (0 ≤ a ∧ a < A 1)))) (h1 := (z, P, (x_row M 163 A))) (c1 := 0) (c2 := 0) (rest := []) (as := [.inr 162, .inl (a)]) (xi144 2) (by decide) xm115 rfl ⟨rfl, Nat.le_of_ble_eq_true rfl, by decide⟩ (Or.inr (x_okt (ok_mo hS))) (m_isWheel hS a (M := M) (A := A)) ?_
  refine e_b_eq (k := 3) (xi144 3) (fun q => absurd q (by omega)) (fun c0 => ?_)
  refine e_iconst (k := 10) (xi144 10) ?_
  refine e_iret (k := 11) (xi144 11) ?_
  rfl
theorem g_mend {z : Int} {P M : Int → Int → Int} {A : Int → Int} (hS : x_Sh z P) (hA0 : A 0 = 0) (hA1 : A 1 = 0) (hA2 : A 2 = 0) (hA3 : A 3 = 0)  (a : Int) : x_Call 145 [.inr 162, .inl (a)] (z, P, x_row M 163 A) (some (.inl 0)) (z, P, x_row M 163 A) := by
  refine e_body (ls0 := [.inr 162, .inl (a)]) xm145 rfl ?_
  refine e_aload (k := 0) (xi145 0) rfl (by decide) ?_
  refine e_iload (k := 1) (xi145 1) rfl ?_
  refine e_call (k := 2) (v := some (.inl (x_b (0 ≤ a ∧ a < A 1)))) (h1 := (z, P, (x_row M 163 A))) (c1 := 0) (c2 := 0) (rest := []) (as := [.inr 162, .inl (a)]) (xi145 2) (by decide) xm115 rfl ⟨rfl, Nat.le_of_ble_eq_true rfl, by decide⟩ (Or.inr (x_okt (ok_mo hS))) (m_isWheel hS a (M := M) (A := A)) ?_
  refine e_b_eq (k := 3) (xi145 3) (fun q => absurd q (by omega)) (fun c0 => ?_)
  refine e_iconst (k := 15) (xi145 15) ?_
  refine e_zret (k := 16) (xi145 16) (by decide) ?_
  rfl
theorem g_doubt {z : Int} {P M : Int → Int → Int} {A : Int → Int} (hS : x_Sh z P) (hA0 : A 0 = 0) (hA1 : A 1 = 0) (hA2 : A 2 = 0) (hA3 : A 3 = 0)  (a : Int) (d : Int) : x_Call 146 [.inr 162, .inl (a), .inl (d)] (z, P, x_row M 163 A) (some (.inl ((-1)))) (z, P, x_row M 163 A) := by
  refine e_body (ls0 := [.inr 162, .inl (a), .inl (d), x_un, x_un, x_un]) xm146 rfl ?_
  refine e_iload (k := 0) (xi146 0) rfl ?_
  refine e_istore (k := 1) (xi146 1) (Nat.le_of_ble_eq_true rfl) ?_
  show x_Ev 146 2 [.inr 162, .inl (a), .inl (d), .inl (d), x_un, x_un] [] (0, 0) (z, P, (x_row M 163 A)) _
  refine e_iconst (k := 2) (xi146 2) ?_
  refine e_istore (k := 3) (xi146 3) (Nat.le_of_ble_eq_true rfl) ?_
  show x_Ev 146 4 [.inr 162, .inl (a), .inl (d), .inl (d), .inl 0, x_un] [] (0, 0) (z, P, (x_row M 163 A)) _
  refine e_iload (k := 4) (xi146 4) rfl ?_
  refine e_aload (k := 5) (xi146 5) rfl (by decide) ?_
  refine e_getR (j := 0) (w := 163) (k := 6) (xi146 6) (ok_mo hS) rfl (sh_all hS) ?_
  refine e_iconst (k := 7) (xi146 7) ?_
  refine e_iald (w := 0) (k := 8) (xi146 8) (ok_all hS) (by rw [ln_all]; omega) ((((if_pos rfl).trans rfl).trans hA1)) ?_
  refine e_c_ge (k := 9) (xi146 9) (fun c0 => ?_) (fun q => absurd (by decide) q)
  refine e_iconst (k := 43) (xi146 43) ?_
  refine e_iret (k := 44) (xi146 44) ?_
  rfl
theorem g_hire {z : Int} {P M : Int → Int → Int} {A : Int → Int} (hS : x_Sh z P) (hA0 : A 0 = 0) (hA1 : A 1 = 0) (hA2 : A 2 = 0) (hA3 : A 3 = 0)  (a : Int) (d : Int) (c : Int) : x_Call 150 [.inr 162, .inl (a), .inl (d), .inl (c)] (z, P, x_row M 163 A) (some (.inl ((-1)))) (z, P, x_row M 163 A) := by
  refine e_body (ls0 := [.inr 162, .inl (a), .inl (d), .inl (c), x_un, x_un, x_un]) xm150 rfl ?_
  refine e_aload (k := 0) (xi150 0) rfl (by decide) ?_
  refine e_iload (k := 1) (xi150 1) rfl ?_
  refine e_iload (k := 2) (xi150 2) rfl ?_
  refine e_call (k := 3) (v := some (.inl 0)) (h1 := (z, P, (x_row M 163 A))) (c1 := 0) (c2 := 0) (rest := []) (as := [.inr 162, .inl (a), .inl (d)]) (xi150 3) (by decide) xm125 rfl ⟨rfl, Nat.le_of_ble_eq_true rfl, by decide⟩ (Or.inr (x_okt (ok_mo hS))) (g_isDock hS hA0 hA1 hA2 hA3 a d (M := M)) ?_
  refine e_z_eq (k := 4) (xi150 4) (fun c0 => ?_) (fun q => absurd (by decide) q)
  refine e_iconst (k := 13) (xi150 13) ?_
  refine e_iret (k := 14) (xi150 14) ?_
  rfl
theorem g_end {z : Int} {P M : Int → Int → Int} {A : Int → Int} (hS : x_Sh z P) (hA0 : A 0 = 0) (hA1 : A 1 = 0) (hA2 : A 2 = 0) (hA3 : A 3 = 0)  (a : Int) (d : Int) : x_Call 154 [.inr 162, .inl (a), .inl (d)] (z, P, x_row M 163 A) (some (.inl ((-1)))) (z, P, x_row M 163 A) := by
  refine e_body (ls0 := [.inr 162, .inl (a), .inl (d), x_un, x_un, x_un, x_un, x_un, x_un, x_un]) xm154 rfl ?_
  refine e_aload (k := 0) (xi154 0) rfl (by decide) ?_
  refine e_iload (k := 1) (xi154 1) rfl ?_
  refine e_call (k := 2) (v := some (.inl (x_b (0 ≤ a ∧ a < A 1)))) (h1 := (z, P, (x_row M 163 A))) (c1 := 0) (c2 := 0) (rest := []) (as := [.inr 162, .inl (a)]) (xi154 2) (by decide) xm115 rfl ⟨rfl, Nat.le_of_ble_eq_true rfl, by decide⟩ (Or.inr (x_okt (ok_mo hS))) (m_isWheel hS a (M := M) (A := A)) ?_
  refine e_b_eq (k := 3) (xi154 3) (fun q => absurd q (by omega)) (fun c0 => ?_)
  refine e_iconst (k := 20) (xi154 20) ?_
  refine e_iret (k := 21) (xi154 21) ?_
  rfl
theorem g_cart {z : Int} {P M : Int → Int → Int} {A : Int → Int} (hS : x_Sh z P) (hA0 : A 0 = 0) (hA1 : A 1 = 0) (hA2 : A 2 = 0) (hA3 : A 3 = 0)  (a : Int) (d : Int) : x_Call 157 [.inr 162, .inl (a), .inl (d)] (z, P, x_row M 163 A) (some (.inl ((-1)))) (z, P, x_row M 163 A) := by
  refine e_body (ls0 := [.inr 162, .inl (a), .inl (d), x_un]) xm157 rfl ?_
  refine e_aload (k := 0) (xi157 0) rfl (by decide) ?_
  refine e_getR (j := 0) (w := 163) (k := 1) (xi157 1) (ok_mo hS) rfl (sh_all hS) ?_
  refine e_iconst (k := 2) (xi157 2) ?_
  refine e_iald (w := 0) (k := 3) (xi157 3) (ok_all hS) (by rw [ln_all]; omega) ((((if_pos rfl).trans rfl).trans hA2)) ?_
  refine e_iconst (k := 4) (xi157 4) ?_
  refine e_c_eq (k := 5) (xi157 5) (fun q => absurd q (by decide)) (fun c0 => ?_)
  refine e_iload (k := 6) (xi157 6) rfl ?_
  refine e_iconst (k := 7) (xi157 7) ?_
  refine e_c_lt (k := 8) (xi157 8) (fun c1 => ?_) (fun c1 => ?_)
  · skip
    refine e_iconst (k := 16) (xi157 16) ?_
    refine e_iret (k := 17) (xi157 17) ?_
    rfl
  · skip
    refine e_iload (k := 9) (xi157 9) rfl ?_
    refine e_iconst (k := 10) (xi157 10) ?_
    refine e_c_gt (k := 11) (xi157 11) (fun c2 => ?_) (fun c2 => ?_)
    · skip
      refine e_iconst (k := 16) (xi157 16) ?_
      refine e_iret (k := 17) (xi157 17) ?_
      rfl
    · skip
      refine e_aload (k := 12) (xi157 12) rfl (by decide) ?_
      refine e_iload (k := 13) (xi157 13) rfl ?_
      refine e_call (k := 14) (v := some (.inl (x_b (0 ≤ d ∧ d < A 0)))) (h1 := (z, P, (x_row M 163 A))) (c1 := 0) (c2 := 0) (rest := []) (as := [.inr 162, .inl (d)]) (xi157 14) (by decide) xm114 rfl ⟨rfl, Nat.le_of_ble_eq_true rfl, by decide⟩ (Or.inr (x_okt (ok_mo hS))) (m_isStand hS d (M := M) (A := A)) ?_
      refine e_b_ne (k := 15) (xi157 15) (fun q => absurd q (by omega)) (fun c3 => ?_)
      refine e_iconst (k := 16) (xi157 16) ?_
      refine e_iret (k := 17) (xi157 17) ?_
      rfl
theorem g_drive {z : Int} {P M : Int → Int → Int} {A : Int → Int} (hS : x_Sh z P) (hA0 : A 0 = 0) (hA1 : A 1 = 0) (hA2 : A 2 = 0) (hA3 : A 3 = 0)  (a : Int) (d : Int) : x_Call 158 [.inr 162, .inl (a), .inl (d)] (z, P, x_row M 163 A) (some (.inl ((-1)))) (z, P, x_row M 163 A) := by
  refine e_body (ls0 := [.inr 162, .inl (a), .inl (d), x_un]) xm158 rfl ?_
  refine e_aload (k := 0) (xi158 0) rfl (by decide) ?_
  refine e_iload (k := 1) (xi158 1) rfl ?_
  refine e_call (k := 2) (v := some (.inl (x_b (0 ≤ a ∧ a < A 2)))) (h1 := (z, P, (x_row M 163 A))) (c1 := 0) (c2 := 0) (rest := []) (as := [.inr 162, .inl (a)]) (xi158 2) (by decide) xm116 rfl ⟨rfl, Nat.le_of_ble_eq_true rfl, by decide⟩ (Or.inr (x_okt (ok_mo hS))) (m_isCart hS a (M := M) (A := A)) ?_
  refine e_b_eq (k := 3) (xi158 3) (fun q => absurd q (by omega)) (fun c0 => ?_)
  refine e_iconst (k := 8) (xi158 8) ?_
  refine e_iret (k := 9) (xi158 9) ?_
  rfl
theorem g_pick {z : Int} {P M : Int → Int → Int} {A : Int → Int} (hS : x_Sh z P) (hA0 : A 0 = 0) (hA1 : A 1 = 0) (hA2 : A 2 = 0) (hA3 : A 3 = 0)  (a : Int) (d : Int) : x_Call 162 [.inr 162, .inl (a), .inl (d)] (z, P, x_row M 163 A) (some (.inl ((-1)))) (z, P, x_row M 163 A) := by
  refine e_body (ls0 := [.inr 162, .inl (a), .inl (d), x_un, x_un]) xm162 rfl ?_
  refine e_aload (k := 0) (xi162 0) rfl (by decide) ?_
  refine e_iload (k := 1) (xi162 1) rfl ?_
  refine e_call (k := 2) (v := some (.inl (x_b (0 ≤ a ∧ a < A 2)))) (h1 := (z, P, (x_row M 163 A))) (c1 := 0) (c2 := 0) (rest := []) (as := [.inr 162, .inl (a)]) (xi162 2) (by decide) xm116 rfl ⟨rfl, Nat.le_of_ble_eq_true rfl, by decide⟩ (Or.inr (x_okt (ok_mo hS))) (m_isCart hS a (M := M) (A := A)) ?_
  refine e_b_ne (k := 3) (xi162 3) (fun q => absurd q (by omega)) (fun c0 => ?_)
  refine e_iconst (k := 4) (xi162 4) ?_
  refine e_iret (k := 5) (xi162 5) ?_
  rfl
theorem g_fetch {z : Int} {P M : Int → Int → Int} {A : Int → Int} (hS : x_Sh z P) (hA0 : A 0 = 0) (hA1 : A 1 = 0) (hA2 : A 2 = 0) (hA3 : A 3 = 0)  (a : Int) (d : Int) : x_Call 163 [.inr 162, .inl (a), .inl (d)] (z, P, x_row M 163 A) (some (.inl 0)) (z, P, x_row M 163 A) := by
  refine e_body (ls0 := [.inr 162, .inl (a), .inl (d)]) xm163 rfl ?_
  refine e_aload (k := 0) (xi163 0) rfl (by decide) ?_
  refine e_iload (k := 1) (xi163 1) rfl ?_
  refine e_call (k := 2) (v := some (.inl (x_b (0 ≤ a ∧ a < A 2)))) (h1 := (z, P, (x_row M 163 A))) (c1 := 0) (c2 := 0) (rest := []) (as := [.inr 162, .inl (a)]) (xi163 2) (by decide) xm116 rfl ⟨rfl, Nat.le_of_ble_eq_true rfl, by decide⟩ (Or.inr (x_okt (ok_mo hS))) (m_isCart hS a (M := M) (A := A)) ?_
  refine e_b_eq (k := 3) (xi163 3) (fun q => absurd q (by omega)) (fun c0 => ?_)
  refine e_iconst (k := 32) (xi163 32) ?_
  refine e_zret (k := 33) (xi163 33) (by decide) ?_
  rfl
theorem g_drop {z : Int} {P M : Int → Int → Int} {A : Int → Int} (hS : x_Sh z P) (hA0 : A 0 = 0) (hA1 : A 1 = 0) (hA2 : A 2 = 0) (hA3 : A 3 = 0)  (a : Int) : x_Call 164 [.inr 162, .inl (a)] (z, P, x_row M 163 A) (some (.inl ((-1)))) (z, P, x_row M 163 A) := by
  refine e_body (ls0 := [.inr 162, .inl (a), x_un, x_un, x_un, x_un]) xm164 rfl ?_
  refine e_aload (k := 0) (xi164 0) rfl (by decide) ?_
  refine e_iload (k := 1) (xi164 1) rfl ?_
  refine e_call (k := 2) (v := some (.inl (x_b (0 ≤ a ∧ a < A 2)))) (h1 := (z, P, (x_row M 163 A))) (c1 := 0) (c2 := 0) (rest := []) (as := [.inr 162, .inl (a)]) (xi164 2) (by decide) xm116 rfl ⟨rfl, Nat.le_of_ble_eq_true rfl, by decide⟩ (Or.inr (x_okt (ok_mo hS))) (m_isCart hS a (M := M) (A := A)) ?_
  refine e_b_ne (k := 3) (xi164 3) (fun q => absurd q (by omega)) (fun c0 => ?_)
  refine e_iconst (k := 4) (xi164 4) ?_
  refine e_iret (k := 5) (xi164 5) ?_
  rfl
theorem g_load {z : Int} {P M : Int → Int → Int} {A : Int → Int} (hS : x_Sh z P) (hA0 : A 0 = 0) (hA1 : A 1 = 0) (hA2 : A 2 = 0) (hA3 : A 3 = 0)  (a : Int) (d : Int) : x_Call 165 [.inr 162, .inl (a), .inl (d)] (z, P, x_row M 163 A) (some (.inl ((-3)))) (z, P, x_row M 163 A) := by
  refine e_body (ls0 := [.inr 162, .inl (a), .inl (d), x_un]) xm165 rfl ?_
  refine e_aload (k := 0) (xi165 0) rfl (by decide) ?_
  refine e_iload (k := 1) (xi165 1) rfl ?_
  refine e_call (k := 2) (v := some (.inl (x_b (0 ≤ a ∧ a < A 2)))) (h1 := (z, P, (x_row M 163 A))) (c1 := 0) (c2 := 0) (rest := []) (as := [.inr 162, .inl (a)]) (xi165 2) (by decide) xm116 rfl ⟨rfl, Nat.le_of_ble_eq_true rfl, by decide⟩ (Or.inr (x_okt (ok_mo hS))) (m_isCart hS a (M := M) (A := A)) ?_
  refine e_b_eq (k := 3) (xi165 3) (fun q => absurd q (by omega)) (fun c0 => ?_)
  refine e_iconst (k := 6) (xi165 6) ?_
  refine e_iret (k := 7) (xi165 7) ?_
  rfl
theorem g_demand {z : Int} {P M : Int → Int → Int} {A : Int → Int} (hS : x_Sh z P) (hA0 : A 0 = 0) (hA1 : A 1 = 0) (hA2 : A 2 = 0) (hA3 : A 3 = 0)  (a : Int) (d : Int) (c : Int) (e : Int) : x_Call 166 [.inr 162, .inl (a), .inl (d), .inl (c), .inl (e)] (z, P, x_row M 163 A) (some (.inl 0)) (z, P, x_row M 163 A) := by
  refine e_body (ls0 := [.inr 162, .inl (a), .inl (d), .inl (c), .inl (e), x_un, x_un]) xm166 rfl ?_
  refine e_aload (k := 0) (xi166 0) rfl (by decide) ?_
  refine e_iload (k := 1) (xi166 1) rfl ?_
  refine e_call (k := 2) (v := some (.inl (x_b (0 ≤ a ∧ a < A 0)))) (h1 := (z, P, (x_row M 163 A))) (c1 := 0) (c2 := 0) (rest := []) (as := [.inr 162, .inl (a)]) (xi166 2) (by decide) xm114 rfl ⟨rfl, Nat.le_of_ble_eq_true rfl, by decide⟩ (Or.inr (x_okt (ok_mo hS))) (m_isStand hS a (M := M) (A := A)) ?_
  refine e_b_eq (k := 3) (xi166 3) (fun q => absurd q (by omega)) (fun c0 => ?_)
  refine e_iconst (k := 16) (xi166 16) ?_
  refine e_zret (k := 17) (xi166 17) (by decide) ?_
  rfl
theorem g_runs {z : Int} {P M : Int → Int → Int} {A : Int → Int} (hS : x_Sh z P) (hA0 : A 0 = 0) (hA1 : A 1 = 0) (hA2 : A 2 = 0) (hA3 : A 3 = 0)  (a : Int) (d : Int) (c : Int) : x_Call 168 [.inr 162, .inl (a), .inl (d), .inl (c)] (z, P, x_row M 163 A) (some (.inl ((-3)))) (z, P, x_row M 163 A) := by
  refine e_body (ls0 := [.inr 162, .inl (a), .inl (d), .inl (c)]) xm168 rfl ?_
  refine e_aload (k := 0) (xi168 0) rfl (by decide) ?_
  refine e_iload (k := 1) (xi168 1) rfl ?_
  refine e_call (k := 2) (v := some (.inl (x_b (0 ≤ a ∧ a < A 0)))) (h1 := (z, P, (x_row M 163 A))) (c1 := 0) (c2 := 0) (rest := []) (as := [.inr 162, .inl (a)]) (xi168 2) (by decide) xm114 rfl ⟨rfl, Nat.le_of_ble_eq_true rfl, by decide⟩ (Or.inr (x_okt (ok_mo hS))) (m_isStand hS a (M := M) (A := A)) ?_
  refine e_b_eq (k := 3) (xi168 3) (fun q => absurd q (by omega)) (fun c0 => ?_)
  refine e_iconst (k := 16) (xi168 16) ?_
  refine e_iret (k := 17) (xi168 17) ?_
  rfl
theorem g_shortage {z : Int} {P M : Int → Int → Int} {A : Int → Int} (hS : x_Sh z P) (hA0 : A 0 = 0) (hA1 : A 1 = 0) (hA2 : A 2 = 0) (hA3 : A 3 = 0)  (a : Int) : x_Call 169 [.inr 162, .inl (a)] (z, P, x_row M 163 A) (some (.inl ((-1000)))) (z, P, x_row M 163 A) := by
  refine e_body (ls0 := [.inr 162, .inl (a), x_un, x_un, x_un]) xm169 rfl ?_
  refine e_aload (k := 0) (xi169 0) rfl (by decide) ?_
  refine e_iload (k := 1) (xi169 1) rfl ?_
  refine e_call (k := 2) (v := some (.inl (x_b (0 ≤ a ∧ a < A 0)))) (h1 := (z, P, (x_row M 163 A))) (c1 := 0) (c2 := 0) (rest := []) (as := [.inr 162, .inl (a)]) (xi169 2) (by decide) xm114 rfl ⟨rfl, Nat.le_of_ble_eq_true rfl, by decide⟩ (Or.inr (x_okt (ok_mo hS))) (m_isStand hS a (M := M) (A := A)) ?_
  refine e_b_ne (k := 3) (xi169 3) (fun q => absurd q (by omega)) (fun c0 => ?_)
  refine e_iconst (k := 4) (xi169 4) ?_
  refine e_iret (k := 5) (xi169 5) ?_
  rfl
theorem g_want {z : Int} {P M : Int → Int → Int} {A : Int → Int} (hS : x_Sh z P) (hA0 : A 0 = 0) (hA1 : A 1 = 0) (hA2 : A 2 = 0) (hA3 : A 3 = 0)  (a : Int) (d : Int) : x_Call 170 [.inr 162, .inl (a), .inl (d)] (z, P, x_row M 163 A) (some (.inl 0)) (z, P, x_row M 163 A) := by
  refine e_body (ls0 := [.inr 162, .inl (a), .inl (d)]) xm170 rfl ?_
  refine e_aload (k := 0) (xi170 0) rfl (by decide) ?_
  refine e_iload (k := 1) (xi170 1) rfl ?_
  refine e_call (k := 2) (v := some (.inl (x_b (0 ≤ a ∧ a < A 0)))) (h1 := (z, P, (x_row M 163 A))) (c1 := 0) (c2 := 0) (rest := []) (as := [.inr 162, .inl (a)]) (xi170 2) (by decide) xm114 rfl ⟨rfl, Nat.le_of_ble_eq_true rfl, by decide⟩ (Or.inr (x_okt (ok_mo hS))) (m_isStand hS a (M := M) (A := A)) ?_
  refine e_b_eq (k := 3) (xi170 3) (fun q => absurd q (by omega)) (fun c0 => ?_)
  refine e_iconst (k := 10) (xi170 10) ?_
  refine e_zret (k := 11) (xi170 11) (by decide) ?_
  rfl
theorem g_plan {z : Int} {P M : Int → Int → Int} {A : Int → Int} (hS : x_Sh z P) (hA0 : A 0 = 0) (hA1 : A 1 = 0) (hA2 : A 2 = 0) (hA3 : A 3 = 0)  (a : Int) : x_Call 174 [.inr 162, .inl (a)] (z, P, x_row M 163 A) (some (.inl ((-1)))) (z, P, x_row M 163 A) := by
  refine e_body (ls0 := [.inr 162, .inl (a), x_un, x_un, x_un, x_un]) xm174 rfl ?_
  refine e_aload (k := 0) (xi174 0) rfl (by decide) ?_
  refine e_iload (k := 1) (xi174 1) rfl ?_
  refine e_call (k := 2) (v := some (.inl (x_b (0 ≤ a ∧ a < A 2)))) (h1 := (z, P, (x_row M 163 A))) (c1 := 0) (c2 := 0) (rest := []) (as := [.inr 162, .inl (a)]) (xi174 2) (by decide) xm116 rfl ⟨rfl, Nat.le_of_ble_eq_true rfl, by decide⟩ (Or.inr (x_okt (ok_mo hS))) (m_isCart hS a (M := M) (A := A)) ?_
  refine e_b_eq (k := 3) (xi174 3) (fun q => absurd q (by omega)) (fun c0 => ?_)
  refine e_iconst (k := 13) (xi174 13) ?_
  refine e_iret (k := 14) (xi174 14) ?_
  rfl
theorem g_round {z : Int} {P M : Int → Int → Int} {A : Int → Int} (hS : x_Sh z P) (hA0 : A 0 = 0) (hA1 : A 1 = 0) (hA2 : A 2 = 0) (hA3 : A 3 = 0) (hM : ∀ k, M 162 k = 0) (a : Int) : x_Call 175 [.inr 162, .inl (a)] (z, P, x_row M 163 A) (some (.inl ((-1)))) (z, P, x_row M 163 A) := by
  refine e_body (ls0 := [.inr 162, .inl (a)]) xm175 rfl ?_
  refine e_iload (k := 0) (xi175 0) rfl ?_
  refine e_aload (k := 1) (xi175 1) rfl (by decide) ?_
  refine e_getI (j := 11) (w := 0) (k := 2) (xi175 2) (ok_mo hS) rfl (((if_neg (by decide)).trans ((hM 11)))) ?_
  refine e_call (k := 3) (v := some (.inl (x_b (0 ≤ a ∧ a < 0)))) (h1 := (z, P, (x_row M 163 A))) (c1 := 0) (c2 := 0) (rest := []) (as := [.inl (a), .inl 0]) (xi175 3) (by decide) xm113 rfl ⟨rfl, Nat.le_of_ble_eq_true rfl, by decide⟩ (Or.inl rfl) (m_isIn a 0) ?_
  refine e_b_eq (k := 4) (xi175 4) (fun c0 => ?_) (fun c0 => ?_)
  · skip
    refine e_aload (k := 5) (xi175 5) rfl (by decide) ?_
    refine e_getR (j := 10) (w := 169) (k := 6) (xi175 6) (ok_mo hS) rfl (sh_round hS) ?_
    refine e_iload (k := 7) (xi175 7) rfl ?_
    refine e_iald (w := M 169 a) (k := 8) (xi175 8) (ok_round hS) (by rw [ln_round]; omega) (((if_neg (by decide)).trans rfl)) ?_
    refine e_goto (k := 9) (xi175 9) ?_
    refine e_iret (k := 11) (xi175 11) ?_
    exfalso
    omega
  · skip
    refine e_iconst (k := 10) (xi175 10) ?_
    refine e_iret (k := 11) (xi175 11) ?_
    rfl
theorem g_carry {z : Int} {P M : Int → Int → Int} {A : Int → Int} (hS : x_Sh z P) (hA0 : A 0 = 0) (hA1 : A 1 = 0) (hA2 : A 2 = 0) (hA3 : A 3 = 0)  (a : Int) : x_Call 177 [.inr 162, .inl (a)] (z, P, x_row M 163 A) (some (.inl ((-1)))) (z, P, x_row M 163 A) := by
  refine e_body (ls0 := [.inr 162, .inl (a), x_un, x_un, x_un, x_un, x_un, x_un, x_un]) xm177 rfl ?_
  refine e_aload (k := 0) (xi177 0) rfl (by decide) ?_
  refine e_iload (k := 1) (xi177 1) rfl ?_
  refine e_call (k := 2) (v := some (.inl ((-1)))) (h1 := (z, P, (x_row M 163 A))) (c1 := 0) (c2 := 0) (rest := []) (as := [.inr 162, .inl (a)]) (xi177 2) (by decide) xm174 rfl ⟨rfl, Nat.le_of_ble_eq_true rfl, by decide⟩ (Or.inr (x_okt (ok_mo hS))) (g_plan hS hA0 hA1 hA2 hA3 a (M := M)) ?_
  refine e_istore (k := 3) (xi177 3) (Nat.le_of_ble_eq_true rfl) ?_
  show x_Ev 177 4 [.inr 162, .inl (a), .inl ((-1)), x_un, x_un, x_un, x_un, x_un, x_un] [] (0, 0) (z, P, (x_row M 163 A)) _
  refine e_iload (k := 4) (xi177 4) rfl ?_
  refine e_z_ge (k := 5) (xi177 5) (fun q => absurd q (by decide)) (fun c0 => ?_)
  refine e_iconst (k := 6) (xi177 6) ?_
  refine e_iret (k := 7) (xi177 7) ?_
  rfl
