/-! ON FRESH OBJECTS: the calls that write -/
/-- an answer of the class, with the model's cells as they were -/
def x_FK (v : Int) (M : Int → Int → Int) (q : Option xV × xH) : Prop := ∃ z' P' M', q = (some (.inl v), (z', P', M')) ∧ x_Sh z' P' ∧ ∀ b j, b < 0 ∨ (162 ≤ b ∧ b < 170) → M' b j = M b j
theorem x_FKe {v w : Int} {M : Int → Int → Int} {q : Option xV × xH} (h : x_FK v M q) (e : v = w) : x_FK w M q := e ▸ h
theorem x_FKo {t : Nat} {as : List xV} {z v : Int} {P M : Int → Int → Int} (hS : x_Sh z P) (h : x_Call t as (z, P, M) (some (.inl v)) (z, P, M)) : x_CallR t as (z, P, M) (x_FK v M) := x_ev_mono h (fun q hq => ⟨z, P, M, hq, hS, fun b j h => rfl⟩)
theorem x_rown {M : Int → Int → Int} {A : Int → Int} {j : Int} : x_row M 163 A (-2) j = M (-2) j := if_neg (by decide)
/-- an answer of the model, with the script as it was -/
def x_GV (v : Int) (M : Int → Int → Int) (q : Option xV × xH) : Prop := ∃ z' P' M', q = (some (.inl v), (z', P', M')) ∧ ∀ j, M' (-2) j = M (-2) j
theorem x_GVe {v w : Int} {M : Int → Int → Int} {q : Option xV × xH} (h : x_GV v M q) (e : v = w) : x_GV w M q := e ▸ h
theorem x_GVo {t : Nat} {as : List xV} {z v : Int} {P M : Int → Int → Int} {A : Int → Int} (h : x_Call t as (z, P, x_row M 163 A) (some (.inl v)) (z, P, x_row M 163 A)) : x_CallR t as (z, P, x_row M 163 A) (x_GV v M) := x_ev_mono h (fun q hq => ⟨z, P, _, hq, fun j => x_rown⟩)
theorem f_addStand {z : Int} {P M : Int → Int → Int} (hS : x_Sh z P) (hF : x_F0 M) (hN : M (3 + 7 * 0) 0 = 0) (n : Int) : x_CallR 44 [.inr 1, .inl (n)] (z, P, M) (fun q => ∃ M1, q = (some (.inl 0), (z, P, M1)) ∧ ∀ b j, (b < 0 ∨ 162 ≤ b) → M1 b j = M b j) := by
  refine e_body (ls0 := [.inr 1, .inl (n)]) xm44 rfl ?_
  refine e_aload (k := 0) (xi44 0) rfl (by decide) ?_
  refine e_getI (j := 1) (w := 0) (k := 1) (xi44 1) (ok_town hS) rfl (hF.1.1) ?_
  refine e_iconst (k := 2) (xi44 2) ?_
  refine e_c_lt (k := 3) (xi44 3) (fun c0 => ?_) (fun q => absurd (by decide) q)
  refine e_aload (k := 6) (xi44 6) rfl (by decide) ?_
  refine e_getR (j := 0) (w := 2) (k := 7) (xi44 7) (ok_town hS) rfl (sh_stands hS) ?_
  refine e_aload (k := 8) (xi44 8) rfl (by decide) ?_
  refine e_getI (j := 1) (w := 0) (k := 9) (xi44 9) (ok_town hS) rfl (hF.1.1) ?_
  refine e_aald (w := 3 + 7 * 0) (k := 10) (xi44 10) (x_ok4 (ok_stands hS) (by decide)) (by rw [ln_stands]; omega) (sh_st hS (show 0 ≤ 0 ∧ 0 < 12 by omega)) ?_
  refine e_iload (k := 11) (xi44 11) rfl ?_
  refine e_callR (k := 12) (c1 := 0) (c2 := 0) (rest := []) (as := [.inr (3 + 7 * 0), .inl (n)]) (xi44 12) (by decide) xm15 rfl ⟨rfl, Nat.le_of_ble_eq_true rfl, by decide⟩ (Or.inr (x_okt (ok_st hS (show 0 ≤ 0 ∧ 0 < 12 by omega)))) (s_setUp hS (s := 0) ⟨by omega, by omega⟩ hN) ?_
  rintro v h1 ⟨M1, hq, f, _, _, _, _, _⟩
  cases hq
  have hF1 : x_F0 M1 := ⟨⟨(f _ _ (by omega)).trans hF.1.1, (f _ _ (by omega)).trans hF.1.2.1, (f _ _ (by omega)).trans hF.1.2.2.1, (f _ _ (by omega)).trans hF.1.2.2.2⟩, (f _ _ (by omega)).trans hF.2⟩
  refine e_aload (k := 13) (xi44 13) rfl (by decide) ?_
  refine e_dup (k := 14) (xi44 14) ?_
  refine e_getI (j := 1) (w := 0) (k := 15) (xi44 15) (ok_town hS) rfl (hF1.1.1) ?_
  refine e_iconst (k := 16) (xi44 16) ?_
  refine e_iadd (w := 1) (k := 17) (xi44 17) (by decide) ?_
  refine e_putI (j := 1) (k := 18) (xi44 18) (ok_town hS) rfl ?_
  refine e_aload (k := 19) (xi44 19) rfl (by decide) ?_
  refine e_getI (j := 1) (w := 1) (k := 20) (xi44 20) (ok_town hS) rfl x_up_self ?_
  refine e_iconst (k := 21) (xi44 21) ?_
  refine e_isub (w := 0) (k := 22) (xi44 22) (by decide) ?_
  refine e_iret (k := 23) (xi44 23) ?_
  exact ⟨_, rfl, fun b j h => by rw [x_up_ne (by omega), f b j (by omega)]⟩
theorem f_stand {z : Int} {P M : Int → Int → Int} (hS : x_Sh z P) (hF : x_F0 M) (hN : M (3 + 7 * 0) 0 = 0) (n : Int) : x_CallR 78 [.inr 0, .inl (n)] (z, P, M) (x_FK (if n < 2 ∨ 12 < n then -1 else 0) M) := by
  refine e_body (ls0 := [.inr 0, .inl (n)]) xm78 rfl ?_
  refine e_iload (k := 0) (xi78 0) rfl ?_
  refine e_iconst (k := 1) (xi78 1) ?_
  refine e_c_lt (k := 2) (xi78 2) (fun c0 => ?_) (fun c0 => ?_)
  · skip
    refine e_iconst (k := 6) (xi78 6) ?_
    refine e_goto (k := 7) (xi78 7) ?_
    refine e_iret (k := 12) (xi78 12) ?_
    exact x_FKe ⟨z, P, _, rfl, hS, fun b j h => rfl⟩ (by rw [if_pos (by omega)])
  · skip
    refine e_iload (k := 3) (xi78 3) rfl ?_
    refine e_iconst (k := 4) (xi78 4) ?_
    refine e_c_le (k := 5) (xi78 5) (fun c1 => ?_) (fun c1 => ?_)
    · skip
      refine e_aload (k := 8) (xi78 8) rfl (by decide) ?_
      refine e_getR (j := 0) (w := 1) (k := 9) (xi78 9) (ok_WS hS) rfl (sh_town hS) ?_
      refine e_iload (k := 10) (xi78 10) rfl ?_
      refine e_callR (k := 11) (c1 := 0) (c2 := 0) (rest := []) (as := [.inr 1, .inl (n)]) (xi78 11) (by decide) xm44 rfl ⟨rfl, Nat.le_of_ble_eq_true rfl, by decide⟩ (Or.inr (x_okt (ok_town hS))) (f_addStand hS hF hN n) ?_
      rintro v h1 ⟨M1, hq, f⟩
      cases hq
      refine e_iret (k := 12) (xi78 12) ?_
      exact x_FKe ⟨z, P, _, rfl, hS, fun b j h => by rw [f b j (by omega)]⟩ (by rw [if_neg (by omega)])
    · skip
      refine e_iconst (k := 6) (xi78 6) ?_
      refine e_goto (k := 7) (xi78 7) ?_
      refine e_iret (k := 12) (xi78 12) ?_
      exact x_FKe ⟨z, P, _, rfl, hS, fun b j h => rfl⟩ (by rw [if_pos (by omega)])
theorem f_hour {z : Int} {P M : Int → Int → Int} (hS : x_Sh z P) (hF : x_F0 M)   : x_CallR 94 [.inr 0] (z, P, M) (x_FK (1) M) := by
  refine e_body (ls0 := [.inr 0, x_un]) xm94 rfl ?_
  refine e_iconst (k := 0) (xi94 0) ?_
  refine e_istore (k := 1) (xi94 1) (Nat.le_of_ble_eq_true rfl) ?_
  show x_Ev 94 2 [.inr 0, .inl 0] [] (0, 0) (z, P, M) _
  refine e_iload (k := 2) (xi94 2) rfl ?_
  refine e_aload (k := 3) (xi94 3) rfl (by decide) ?_
  refine e_getR (j := 0) (w := 1) (k := 4) (xi94 4) (ok_WS hS) rfl (sh_town hS) ?_
  refine e_getI (j := 3) (w := 0) (k := 5) (xi94 5) (ok_town hS) rfl (hF.1.2.1) ?_
  refine e_c_ge (k := 6) (xi94 6) (fun c0 => ?_) (fun q => absurd (by decide) q)
  refine e_aload (k := 22) (xi94 22) rfl (by decide) ?_
  refine e_getR (j := 0) (w := 1) (k := 23) (xi94 23) (ok_WS hS) rfl (sh_town hS) ?_
  refine e_aload (k := 24) (xi94 24) rfl (by decide) ?_
  refine e_getR (j := 0) (w := 1) (k := 25) (xi94 25) (ok_WS hS) rfl (sh_town hS) ?_
  refine e_getI (j := 6) (w := 0) (k := 26) (xi94 26) (ok_town hS) rfl (hF.1.2.2.2) ?_
  refine e_iconst (k := 27) (xi94 27) ?_
  refine e_iadd (w := 1) (k := 28) (xi94 28) (by decide) ?_
  refine e_iconst (k := 29) (xi94 29) ?_
  refine e_c_ge (k := 30) (xi94 30) (fun q => absurd q (by decide)) (fun c1 => ?_)
  refine e_aload (k := 31) (xi94 31) rfl (by decide) ?_
  refine e_getR (j := 0) (w := 1) (k := 32) (xi94 32) (ok_WS hS) rfl (sh_town hS) ?_
  refine e_getI (j := 6) (w := 0) (k := 33) (xi94 33) (ok_town hS) rfl (hF.1.2.2.2) ?_
  refine e_iconst (k := 34) (xi94 34) ?_
  refine e_iadd (w := 1) (k := 35) (xi94 35) (by decide) ?_
  refine e_goto (k := 36) (xi94 36) ?_
  refine e_putI (j := 6) (k := 38) (xi94 38) (ok_town hS) rfl ?_
  refine e_aload (k := 39) (xi94 39) rfl (by decide) ?_
  refine e_getR (j := 0) (w := 1) (k := 40) (xi94 40) (ok_WS hS) rfl (sh_town hS) ?_
  refine e_getI (j := 6) (w := 1) (k := 41) (xi94 41) (ok_town hS) rfl x_up_self ?_
  refine e_iret (k := 42) (xi94 42) ?_
  exact x_FKe ⟨z, P, _, rfl, hS, fun b j h => by rw [x_up_ne (by omega)]⟩ rfl
theorem f_again {z : Int} {P M : Int → Int → Int} (hS : x_Sh z P) (hF : x_F0 M) (hI : ∀ k, P 155 k = -1) (n : Int) : x_CallR 109 [.inr 0, .inl (n)] (z, P, M) (x_FK (0) M) := by
  refine e_body (ls0 := [.inr 0, .inl (n)]) xm109 rfl ?_
  refine e_iload (k := 0) (xi109 0) rfl ?_
  refine e_z_lt (k := 1) (xi109 1) (fun c0 => ?_) (fun c0 => ?_)
  · skip
    refine e_iconst (k := 10) (xi109 10) ?_
    refine e_zret (k := 11) (xi109 11) (by decide) ?_
    exact x_FKe ⟨z, P, _, rfl, hS, fun b j h => rfl⟩ rfl
  · skip
    refine e_iload (k := 2) (xi109 2) rfl ?_
    refine e_iconst (k := 3) (xi109 3) ?_
    refine e_c_ge (k := 4) (xi109 4) (fun c1 => ?_) (fun c1 => ?_)
    · skip
      refine e_iconst (k := 10) (xi109 10) ?_
      refine e_zret (k := 11) (xi109 11) (by decide) ?_
      exact x_FKe ⟨z, P, _, rfl, hS, fun b j h => rfl⟩ rfl
    · skip
      refine e_aload (k := 5) (xi109 5) rfl (by decide) ?_
      refine e_getR (j := 1) (w := 155) (k := 6) (xi109 6) (ok_WS hS) rfl (sh_imgs hS) ?_
      refine e_iload (k := 7) (xi109 7) rfl ?_
      refine e_aald (w := -1) (k := 8) (xi109 8) (x_ok4 (ok_imgs hS) (by decide)) (by rw [ln_imgs]; omega) (hI _) ?_
      refine e_ifnonnull (k := 9) (xi109 9) (by omega) (fun q => absurd (by omega) q) (fun _ => ?_)
      refine e_iconst (k := 10) (xi109 10) ?_
      refine e_zret (k := 11) (xi109 11) (by decide) ?_
      exact x_FKe ⟨z, P, _, rfl, hS, fun b j h => rfl⟩ rfl
theorem f_count {z : Int} {P M : Int → Int → Int} (hS : x_Sh z P) (hF : x_F0 M)  (n : Int) : x_CallR 110 [.inr 0, .inl (n)] (z, P, M) (x_FK (if 0 ≤ n ∧ n ≤ 8 then 0 else -1) M) := by
  refine e_body (ls0 := [.inr 0, .inl (n)]) xm110 rfl ?_
  refine e_iload (k := 0) (xi110 0) rfl ?_
  by_cases s0 : n = 0
  · subst s0
    refine e_sw (t2 := 2) (k := 1) (xi110 1) (by decide +kernel) ?_
    refine e_aload (k := 2) (xi110 2) rfl (by decide) ?_
    refine e_getR (j := 0) (w := 1) (k := 3) (xi110 3) (ok_WS hS) rfl (sh_town hS) ?_
    refine e_getI (j := 1) (w := 0) (k := 4) (xi110 4) (ok_town hS) rfl (hF.1.1) ?_
    refine e_iret (k := 5) (xi110 5) ?_
    exact x_FKe ⟨z, P, _, rfl, hS, fun b j h => rfl⟩ (by rw [if_pos (by omega)])
  by_cases s1 : n = 1
  · subst s1
    refine e_sw (t2 := 6) (k := 1) (xi110 1) (by decide +kernel) ?_
    refine e_aload (k := 6) (xi110 6) rfl (by decide) ?_
    refine e_getR (j := 0) (w := 1) (k := 7) (xi110 7) (ok_WS hS) rfl (sh_town hS) ?_
    refine e_getI (j := 3) (w := 0) (k := 8) (xi110 8) (ok_town hS) rfl (hF.1.2.1) ?_
    refine e_iret (k := 9) (xi110 9) ?_
    exact x_FKe ⟨z, P, _, rfl, hS, fun b j h => rfl⟩ (by rw [if_pos (by omega)])
  by_cases s2 : n = 2
  · subst s2
    refine e_sw (t2 := 10) (k := 1) (xi110 1) (by decide +kernel) ?_
    refine e_aload (k := 10) (xi110 10) rfl (by decide) ?_
    refine e_getR (j := 0) (w := 1) (k := 11) (xi110 11) (ok_WS hS) rfl (sh_town hS) ?_
    refine e_getI (j := 5) (w := 0) (k := 12) (xi110 12) (ok_town hS) rfl (hF.1.2.2.1) ?_
    refine e_iret (k := 13) (xi110 13) ?_
    exact x_FKe ⟨z, P, _, rfl, hS, fun b j h => rfl⟩ (by rw [if_pos (by omega)])
  by_cases s3 : n = 3
  · subst s3
    refine e_sw (t2 := 14) (k := 1) (xi110 1) (by decide +kernel) ?_
    refine e_aload (k := 14) (xi110 14) rfl (by decide) ?_
    refine e_getR (j := 0) (w := 1) (k := 15) (xi110 15) (ok_WS hS) rfl (sh_town hS) ?_
    refine e_iconst (k := 16) (xi110 16) ?_
    refine e_call (k := 17) (v := some (.inl 0)) (h1 := (z, P, M)) (c1 := 0) (c2 := 0) (rest := []) (as := [.inr 1, .inl 0]) (xi110 17) (by decide) xm47 rfl ⟨rfl, Nat.le_of_ble_eq_true rfl, by decide⟩ (Or.inr (x_okt (ok_town hS))) (f_wheelsIn hS hF 0) ?_
    refine e_iret (k := 18) (xi110 18) ?_
    exact x_FKe ⟨z, P, _, rfl, hS, fun b j h => rfl⟩ (by rw [if_pos (by omega)])
  by_cases s4 : n = 4
  · subst s4
    refine e_sw (t2 := 19) (k := 1) (xi110 1) (by decide +kernel) ?_
    refine e_aload (k := 19) (xi110 19) rfl (by decide) ?_
    refine e_getR (j := 0) (w := 1) (k := 20) (xi110 20) (ok_WS hS) rfl (sh_town hS) ?_
    refine e_iconst (k := 21) (xi110 21) ?_
    refine e_call (k := 22) (v := some (.inl 0)) (h1 := (z, P, M)) (c1 := 0) (c2 := 0) (rest := []) (as := [.inr 1, .inl 1]) (xi110 22) (by decide) xm47 rfl ⟨rfl, Nat.le_of_ble_eq_true rfl, by decide⟩ (Or.inr (x_okt (ok_town hS))) (f_wheelsIn hS hF 1) ?_
    refine e_iret (k := 23) (xi110 23) ?_
    exact x_FKe ⟨z, P, _, rfl, hS, fun b j h => rfl⟩ (by rw [if_pos (by omega)])
  by_cases s5 : n = 5
  · subst s5
    refine e_sw (t2 := 24) (k := 1) (xi110 1) (by decide +kernel) ?_
    refine e_aload (k := 24) (xi110 24) rfl (by decide) ?_
    refine e_getR (j := 0) (w := 1) (k := 25) (xi110 25) (ok_WS hS) rfl (sh_town hS) ?_
    refine e_iconst (k := 26) (xi110 26) ?_
    refine e_call (k := 27) (v := some (.inl 0)) (h1 := (z, P, M)) (c1 := 0) (c2 := 0) (rest := []) (as := [.inr 1, .inl 2]) (xi110 27) (by decide) xm47 rfl ⟨rfl, Nat.le_of_ble_eq_true rfl, by decide⟩ (Or.inr (x_okt (ok_town hS))) (f_wheelsIn hS hF 2) ?_
    refine e_iret (k := 28) (xi110 28) ?_
    exact x_FKe ⟨z, P, _, rfl, hS, fun b j h => rfl⟩ (by rw [if_pos (by omega)])
  by_cases s6 : n = 6
  · subst s6
    refine e_sw (t2 := 29) (k := 1) (xi110 1) (by decide +kernel) ?_
    refine e_aload (k := 29) (xi110 29) rfl (by decide) ?_
    refine e_getR (j := 0) (w := 1) (k := 30) (xi110 30) (ok_WS hS) rfl (sh_town hS) ?_
    refine e_iconst (k := 31) (xi110 31) ?_
    refine e_call (k := 32) (v := some (.inl 0)) (h1 := (z, P, M)) (c1 := 0) (c2 := 0) (rest := []) (as := [.inr 1, .inl 3]) (xi110 32) (by decide) xm47 rfl ⟨rfl, Nat.le_of_ble_eq_true rfl, by decide⟩ (Or.inr (x_okt (ok_town hS))) (f_wheelsIn hS hF 3) ?_
    refine e_iret (k := 33) (xi110 33) ?_
    exact x_FKe ⟨z, P, _, rfl, hS, fun b j h => rfl⟩ (by rw [if_pos (by omega)])
  by_cases s7 : n = 7
  · subst s7
    refine e_sw (t2 := 34) (k := 1) (xi110 1) (by decide +kernel) ?_
    refine e_aload (k := 34) (xi110 34) rfl (by decide) ?_
    refine e_getR (j := 0) (w := 1) (k := 35) (xi110 35) (ok_WS hS) rfl (sh_town hS) ?_
    refine e_call (k := 36) (v := some (.inl 0)) (h1 := (z, P, M)) (c1 := 0) (c2 := 0) (rest := []) (as := [.inr 1]) (xi110 36) (by decide) xm48 rfl ⟨rfl, Nat.le_of_ble_eq_true rfl, by decide⟩ (Or.inr (x_okt (ok_town hS))) (f_knownBroken hS hF ) ?_
    refine e_iret (k := 37) (xi110 37) ?_
    exact x_FKe ⟨z, P, _, rfl, hS, fun b j h => rfl⟩ (by rw [if_pos (by omega)])
  by_cases s8 : n = 8
  · subst s8
    refine e_sw (t2 := 38) (k := 1) (xi110 1) (by decide +kernel) ?_
    refine e_aload (k := 38) (xi110 38) rfl (by decide) ?_
    refine e_getR (j := 0) (w := 1) (k := 39) (xi110 39) (ok_WS hS) rfl (sh_town hS) ?_
    refine e_getI (j := 6) (w := 0) (k := 40) (xi110 40) (ok_town hS) rfl (hF.1.2.2.2) ?_
    refine e_iret (k := 41) (xi110 41) ?_
    exact x_FKe ⟨z, P, _, rfl, hS, fun b j h => rfl⟩ (by rw [if_pos (by omega)])
  refine e_sw (k := 1) (t2 := 42) (xi110 1) (if_pos (by omega)) ?_
  refine e_iconst (k := 42) (xi110 42) ?_
  refine e_iret (k := 43) (xi110 43) ?_
  exact x_FKe ⟨z, P, _, rfl, hS, fun b j h => rfl⟩ (by rw [if_neg (by omega)])
theorem g_hour {z : Int} {P M : Int → Int → Int} {A : Int → Int} (hS : x_Sh z P) (hA0 : A 0 = 0) (hA1 : A 1 = 0) (hA2 : A 2 = 0) (hA3 : A 3 = 0)   : x_CallR 155 [.inr 162] (z, P, x_row M 163 A) (x_GV (1) M) := by
  refine e_body (ls0 := [.inr 162, x_un, x_un]) xm155 rfl ?_
  refine e_iconst (k := 0) (xi155 0) ?_
  refine e_istore (k := 1) (xi155 1) (Nat.le_of_ble_eq_true rfl) ?_
  show x_Ev 155 2 [.inr 162, .inl 0, x_un] [] (0, 0) (z, P, (x_row M 163 A)) _
  refine e_iload (k := 2) (xi155 2) rfl ?_
  refine e_aload (k := 3) (xi155 3) rfl (by decide) ?_
  refine e_getR (j := 0) (w := 163) (k := 4) (xi155 4) (ok_mo hS) rfl (sh_all hS) ?_
  refine e_iconst (k := 5) (xi155 5) ?_
  refine e_iald (w := 0) (k := 6) (xi155 6) (ok_all hS) (by rw [ln_all]; omega) ((((if_pos rfl).trans rfl).trans hA1)) ?_
  refine e_c_ge (k := 7) (xi155 7) (fun c0 => ?_) (fun q => absurd (by decide) q)
  refine e_aload (k := 47) (xi155 47) rfl (by decide) ?_
  refine e_getR (j := 0) (w := 163) (k := 48) (xi155 48) (ok_mo hS) rfl (sh_all hS) ?_
  refine e_iconst (k := 49) (xi155 49) ?_
  refine e_aload (k := 50) (xi155 50) rfl (by decide) ?_
  refine e_getR (j := 0) (w := 163) (k := 51) (xi155 51) (ok_mo hS) rfl (sh_all hS) ?_
  refine e_iconst (k := 52) (xi155 52) ?_
  refine e_iald (w := 0) (k := 53) (xi155 53) (ok_all hS) (by rw [ln_all]; omega) ((((if_pos rfl).trans rfl).trans hA3)) ?_
  refine e_iconst (k := 54) (xi155 54) ?_
  refine e_iadd (w := 1) (k := 55) (xi155 55) (by decide) ?_
  refine e_iconst (k := 56) (xi155 56) ?_
  refine e_irem (k := 57) (xi155 57) ⟨by omega, by omega⟩ ?_
  refine e_iastA (k := 58) (xi155 58) hS (by omega) ?_
  refine e_aload (k := 59) (xi155 59) rfl (by decide) ?_
  refine e_getR (j := 0) (w := 163) (k := 60) (xi155 60) (ok_mo hS) rfl (sh_all hS) ?_
  refine e_iconst (k := 61) (xi155 61) ?_
  refine e_iald (w := 1 % 24) (k := 62) (xi155 62) (ok_all hS) (by rw [ln_all]; omega) (((if_pos rfl).trans a_up_s)) ?_
  refine e_iret (k := 63) (xi155 63) ?_
  exact x_GVe ⟨z, P, _, rfl, fun j => x_rown⟩ rfl
theorem g_again {z : Int} {P M : Int → Int → Int} {A : Int → Int} (hS : x_Sh z P) (hA0 : A 0 = 0) (hA1 : A 1 = 0) (hA2 : A 2 = 0) (hA3 : A 3 = 0) (hH : ∀ k, M 164 k = 0) (n : Int) : x_CallR 179 [.inr 162, .inl (n)] (z, P, x_row M 163 A) (x_GV (0) M) := by
  refine e_body (ls0 := [.inr 162, .inl (n), x_un]) xm179 rfl ?_
  refine e_iload (k := 0) (xi179 0) rfl ?_
  refine e_iconst (k := 1) (xi179 1) ?_
  refine e_call (k := 2) (v := some (.inl (x_b (0 ≤ n ∧ n < 4)))) (h1 := (z, P, (x_row M 163 A))) (c1 := 0) (c2 := 0) (rest := []) (as := [.inl (n), .inl 4]) (xi179 2) (by decide) xm113 rfl ⟨rfl, Nat.le_of_ble_eq_true rfl, by decide⟩ (Or.inl rfl) (m_isIn n 4) ?_
  refine e_b_eq (k := 3) (xi179 3) (fun c0 => ?_) (fun c0 => ?_)
  · skip
    refine e_aload (k := 4) (xi179 4) rfl (by decide) ?_
    refine e_getR (j := 1) (w := 164) (k := 5) (xi179 5) (ok_mo hS) rfl (sh_has hS) ?_
    refine e_iload (k := 6) (xi179 6) rfl ?_
    refine e_bald (w := 0) (k := 7) (xi179 7) (ok_has hS) (by rw [ln_has]; omega) (((if_neg (by decide)).trans (hH _))) ?_
    refine e_z_ne (k := 8) (xi179 8) (fun q => absurd q (by decide)) (fun c1 => ?_)
    refine e_iconst (k := 9) (xi179 9) ?_
    refine e_zret (k := 10) (xi179 10) (by decide) ?_
    exact x_GVe ⟨z, P, _, rfl, fun j => x_rown⟩ rfl
  · skip
    refine e_iconst (k := 9) (xi179 9) ?_
    refine e_zret (k := 10) (xi179 10) (by decide) ?_
    exact x_GVe ⟨z, P, _, rfl, fun j => x_rown⟩ rfl
theorem g_count {z : Int} {P M : Int → Int → Int} {A : Int → Int} (hS : x_Sh z P) (hA0 : A 0 = 0) (hA1 : A 1 = 0) (hA2 : A 2 = 0) (hA3 : A 3 = 0)  (n : Int) : x_CallR 180 [.inr 162, .inl (n)] (z, P, x_row M 163 A) (x_GV (if 0 ≤ n ∧ n ≤ 8 then 0 else -1) M) := by
  refine e_body (ls0 := [.inr 162, .inl (n), x_un, x_un]) xm180 rfl ?_
  refine e_iconst (k := 0) (xi180 0) ?_
  refine e_istore (k := 1) (xi180 1) (Nat.le_of_ble_eq_true rfl) ?_
  show x_Ev 180 2 [.inr 162, .inl (n), .inl 0, x_un] [] (0, 0) (z, P, (x_row M 163 A)) _
  refine e_iload (k := 2) (xi180 2) rfl ?_
  by_cases s0 : n = 0
  · subst s0
    refine e_sw (t2 := 4) (k := 3) (xi180 3) (by decide +kernel) ?_
    refine e_aload (k := 4) (xi180 4) rfl (by decide) ?_
    refine e_getR (j := 0) (w := 163) (k := 5) (xi180 5) (ok_mo hS) rfl (sh_all hS) ?_
    refine e_iload (k := 6) (xi180 6) rfl ?_
    refine e_iald (w := 0) (k := 7) (xi180 7) (ok_all hS) (by rw [ln_all]; omega) ((((if_pos rfl).trans rfl).trans hA0)) ?_
    refine e_iret (k := 8) (xi180 8) ?_
    exact x_GVe ⟨z, P, _, rfl, fun j => x_rown⟩ (by rw [if_pos (by omega)])
  by_cases s1 : n = 1
  · subst s1
    refine e_sw (t2 := 4) (k := 3) (xi180 3) (by decide +kernel) ?_
    refine e_aload (k := 4) (xi180 4) rfl (by decide) ?_
    refine e_getR (j := 0) (w := 163) (k := 5) (xi180 5) (ok_mo hS) rfl (sh_all hS) ?_
    refine e_iload (k := 6) (xi180 6) rfl ?_
    refine e_iald (w := 0) (k := 7) (xi180 7) (ok_all hS) (by rw [ln_all]; omega) ((((if_pos rfl).trans rfl).trans hA1)) ?_
    refine e_iret (k := 8) (xi180 8) ?_
    exact x_GVe ⟨z, P, _, rfl, fun j => x_rown⟩ (by rw [if_pos (by omega)])
  by_cases s2 : n = 2
  · subst s2
    refine e_sw (t2 := 4) (k := 3) (xi180 3) (by decide +kernel) ?_
    refine e_aload (k := 4) (xi180 4) rfl (by decide) ?_
    refine e_getR (j := 0) (w := 163) (k := 5) (xi180 5) (ok_mo hS) rfl (sh_all hS) ?_
    refine e_iload (k := 6) (xi180 6) rfl ?_
    refine e_iald (w := 0) (k := 7) (xi180 7) (ok_all hS) (by rw [ln_all]; omega) ((((if_pos rfl).trans rfl).trans hA2)) ?_
    refine e_iret (k := 8) (xi180 8) ?_
    exact x_GVe ⟨z, P, _, rfl, fun j => x_rown⟩ (by rw [if_pos (by omega)])
  by_cases s3 : n = 3
  · subst s3
    refine e_sw (t2 := 9) (k := 3) (xi180 3) (by decide +kernel) ?_
    refine e_iconst (k := 9) (xi180 9) ?_
    refine e_istore (k := 10) (xi180 10) (Nat.le_of_ble_eq_true rfl) ?_
    show x_Ev 180 11 [.inr 162, .inl 3, .inl 0, .inl 0] [] (0, 0) (z, P, (x_row M 163 A)) _
    refine e_iload (k := 11) (xi180 11) rfl ?_
    refine e_aload (k := 12) (xi180 12) rfl (by decide) ?_
    refine e_getR (j := 0) (w := 163) (k := 13) (xi180 13) (ok_mo hS) rfl (sh_all hS) ?_
    refine e_iconst (k := 14) (xi180 14) ?_
    refine e_iald (w := 0) (k := 15) (xi180 15) (ok_all hS) (by rw [ln_all]; omega) ((((if_pos rfl).trans rfl).trans hA1)) ?_
    refine e_c_ge (k := 16) (xi180 16) (fun c0 => ?_) (fun q => absurd (by decide) q)
    refine e_iload (k := 33) (xi180 33) rfl ?_
    refine e_iret (k := 34) (xi180 34) ?_
    exact x_GVe ⟨z, P, _, rfl, fun j => x_rown⟩ (by rw [if_pos (by omega)])
  by_cases s4 : n = 4
  · subst s4
    refine e_sw (t2 := 9) (k := 3) (xi180 3) (by decide +kernel) ?_
    refine e_iconst (k := 9) (xi180 9) ?_
    refine e_istore (k := 10) (xi180 10) (Nat.le_of_ble_eq_true rfl) ?_
    show x_Ev 180 11 [.inr 162, .inl 4, .inl 0, .inl 0] [] (0, 0) (z, P, (x_row M 163 A)) _
    refine e_iload (k := 11) (xi180 11) rfl ?_
    refine e_aload (k := 12) (xi180 12) rfl (by decide) ?_
    refine e_getR (j := 0) (w := 163) (k := 13) (xi180 13) (ok_mo hS) rfl (sh_all hS) ?_
    refine e_iconst (k := 14) (xi180 14) ?_
    refine e_iald (w := 0) (k := 15) (xi180 15) (ok_all hS) (by rw [ln_all]; omega) ((((if_pos rfl).trans rfl).trans hA1)) ?_
    refine e_c_ge (k := 16) (xi180 16) (fun c1 => ?_) (fun q => absurd (by decide) q)
    refine e_iload (k := 33) (xi180 33) rfl ?_
    refine e_iret (k := 34) (xi180 34) ?_
    exact x_GVe ⟨z, P, _, rfl, fun j => x_rown⟩ (by rw [if_pos (by omega)])
  by_cases s5 : n = 5
  · subst s5
    refine e_sw (t2 := 9) (k := 3) (xi180 3) (by decide +kernel) ?_
    refine e_iconst (k := 9) (xi180 9) ?_
    refine e_istore (k := 10) (xi180 10) (Nat.le_of_ble_eq_true rfl) ?_
    show x_Ev 180 11 [.inr 162, .inl 5, .inl 0, .inl 0] [] (0, 0) (z, P, (x_row M 163 A)) _
    refine e_iload (k := 11) (xi180 11) rfl ?_
    refine e_aload (k := 12) (xi180 12) rfl (by decide) ?_
    refine e_getR (j := 0) (w := 163) (k := 13) (xi180 13) (ok_mo hS) rfl (sh_all hS) ?_
    refine e_iconst (k := 14) (xi180 14) ?_
    refine e_iald (w := 0) (k := 15) (xi180 15) (ok_all hS) (by rw [ln_all]; omega) ((((if_pos rfl).trans rfl).trans hA1)) ?_
    refine e_c_ge (k := 16) (xi180 16) (fun c2 => ?_) (fun q => absurd (by decide) q)
    refine e_iload (k := 33) (xi180 33) rfl ?_
    refine e_iret (k := 34) (xi180 34) ?_
    exact x_GVe ⟨z, P, _, rfl, fun j => x_rown⟩ (by rw [if_pos (by omega)])
  by_cases s6 : n = 6
  · subst s6
    refine e_sw (t2 := 9) (k := 3) (xi180 3) (by decide +kernel) ?_
    refine e_iconst (k := 9) (xi180 9) ?_
    refine e_istore (k := 10) (xi180 10) (Nat.le_of_ble_eq_true rfl) ?_
    show x_Ev 180 11 [.inr 162, .inl 6, .inl 0, .inl 0] [] (0, 0) (z, P, (x_row M 163 A)) _
    refine e_iload (k := 11) (xi180 11) rfl ?_
    refine e_aload (k := 12) (xi180 12) rfl (by decide) ?_
    refine e_getR (j := 0) (w := 163) (k := 13) (xi180 13) (ok_mo hS) rfl (sh_all hS) ?_
    refine e_iconst (k := 14) (xi180 14) ?_
    refine e_iald (w := 0) (k := 15) (xi180 15) (ok_all hS) (by rw [ln_all]; omega) ((((if_pos rfl).trans rfl).trans hA1)) ?_
    refine e_c_ge (k := 16) (xi180 16) (fun c3 => ?_) (fun q => absurd (by decide) q)
    refine e_iload (k := 33) (xi180 33) rfl ?_
    refine e_iret (k := 34) (xi180 34) ?_
    exact x_GVe ⟨z, P, _, rfl, fun j => x_rown⟩ (by rw [if_pos (by omega)])
  by_cases s7 : n = 7
  · subst s7
    refine e_sw (t2 := 35) (k := 3) (xi180 3) (by decide +kernel) ?_
    refine e_iconst (k := 35) (xi180 35) ?_
    refine e_istore (k := 36) (xi180 36) (Nat.le_of_ble_eq_true rfl) ?_
    show x_Ev 180 37 [.inr 162, .inl 7, .inl 0, .inl 0] [] (0, 0) (z, P, (x_row M 163 A)) _
    refine e_iload (k := 37) (xi180 37) rfl ?_
    refine e_aload (k := 38) (xi180 38) rfl (by decide) ?_
    refine e_getR (j := 0) (w := 163) (k := 39) (xi180 39) (ok_mo hS) rfl (sh_all hS) ?_
    refine e_iconst (k := 40) (xi180 40) ?_
    refine e_iald (w := 0) (k := 41) (xi180 41) (ok_all hS) (by rw [ln_all]; omega) ((((if_pos rfl).trans rfl).trans hA1)) ?_
    refine e_c_ge (k := 42) (xi180 42) (fun c4 => ?_) (fun q => absurd (by decide) q)
    refine e_iload (k := 57) (xi180 57) rfl ?_
    refine e_iret (k := 58) (xi180 58) ?_
    exact x_GVe ⟨z, P, _, rfl, fun j => x_rown⟩ (by rw [if_pos (by omega)])
  by_cases s8 : n = 8
  · subst s8
    refine e_sw (t2 := 59) (k := 3) (xi180 3) (by decide +kernel) ?_
    refine e_aload (k := 59) (xi180 59) rfl (by decide) ?_
    refine e_getR (j := 0) (w := 163) (k := 60) (xi180 60) (ok_mo hS) rfl (sh_all hS) ?_
    refine e_iconst (k := 61) (xi180 61) ?_
    refine e_iald (w := 0) (k := 62) (xi180 62) (ok_all hS) (by rw [ln_all]; omega) ((((if_pos rfl).trans rfl).trans hA3)) ?_
    refine e_iret (k := 63) (xi180 63) ?_
    exact x_GVe ⟨z, P, _, rfl, fun j => x_rown⟩ (by rw [if_pos (by omega)])
  refine e_sw (k := 3) (t2 := 64) (xi180 3) (if_pos (by omega)) ?_
  refine e_iconst (k := 64) (xi180 64) ?_
  refine e_iret (k := 65) (xi180 65) ?_
  exact x_GVe ⟨z, P, _, rfl, fun j => x_rown⟩ (by rw [if_neg (by omega)])
theorem g_sd1 {z n : Int} {P M : Int → Int → Int} {r : Option xV × xH → Prop} (hS : x_Sh z P) (hn : n ≤ 12) (kk : ∀ A, A 0 = 0 → x_Ev 121 41 [.inr 162, .inl (n), .inl 0, .inl (n)] [] (0, 0) (z, P, x_row M 163 A) r) : ∀ (k : Nat) (d : Int) (A : Int → Int), d + k = n → 0 ≤ d → A 0 = 0 → x_Ev 121 28 [.inr 162, .inl (n), .inl 0, .inl (d)] [] (0, 0) (z, P, x_row M 163 A) r := by
  intro k
  induction k with
  | zero =>
    intro d A he hd0 hA
    refine e_iload (k := 28) (xi121 28) rfl ?_
    refine e_iload (k := 29) (xi121 29) rfl ?_
    refine e_c_ge (k := 30) (xi121 30) (fun c0 => ?_) (fun q => absurd (by omega) q)
    have hd : d = n := by omega
    subst hd
    exact kk A hA
  | succ k ih =>
    intro d A he hd0 hA
    refine e_iload (k := 28) (xi121 28) rfl ?_
    refine e_iload (k := 29) (xi121 29) rfl ?_
    refine e_c_ge (k := 30) (xi121 30) (fun q => absurd q (by omega)) (fun c0 => ?_)
    refine e_aload (k := 31) (xi121 31) rfl (by decide) ?_
    refine e_getR (j := 0) (w := 163) (k := 32) (xi121 32) (ok_mo hS) rfl (sh_all hS) ?_
    refine e_aload (k := 33) (xi121 33) rfl (by decide) ?_
    refine e_iload (k := 34) (xi121 34) rfl ?_
    refine e_iload (k := 35) (xi121 35) rfl ?_
    refine e_call (k := 36) (v := some (.inl (11 + d))) (h1 := (z, P, (x_row M 163 A))) (c1 := 0) (c2 := 0) (rest := [.inr 163]) (as := [.inr 162, .inl 0, .inl (d)]) (xi121 36) (by decide) xm119 rfl ⟨rfl, Nat.le_of_ble_eq_true rfl, by decide⟩ (Or.inr (x_okt (ok_mo hS))) (x_cvT (m_dockAt hS (s := 0) (d := d) (by omega) (by omega) (M := M) (A := A)) (by omega)) ?_
    refine e_iconst (k := 37) (xi121 37) ?_
    refine e_iastA (k := 38) (xi121 38) hS (by omega) ?_
    refine e_iinc (w := 1 + d) (k := 39) (xi121 39) rfl (x_wn (by omega)) ?_
    show x_Ev 121 40 [.inr 162, .inl (n), .inl 0, .inl (1 + d)] [] (0, 0) (z, P, (x_row M 163 (a_up A (11 + d) ((-1))))) _
    refine e_goto (k := 40) (xi121 40) ?_
    exact ih (1 + d) _ (by omega) (by omega) ((a_up_n (by omega)).trans hA)
theorem g_stand {z : Int} {P M : Int → Int → Int} {A : Int → Int} (hS : x_Sh z P) (hA0 : A 0 = 0) (hA1 : A 1 = 0) (hA2 : A 2 = 0) (hA3 : A 3 = 0)  (n : Int) : x_CallR 121 [.inr 162, .inl (n)] (z, P, x_row M 163 A) (x_GV (if n < 2 ∨ 12 < n then -1 else 0) M) := by
  refine e_body (ls0 := [.inr 162, .inl (n), x_un, x_un]) xm121 rfl ?_
  refine e_aload (k := 0) (xi121 0) rfl (by decide) ?_
  refine e_getR (j := 0) (w := 163) (k := 1) (xi121 1) (ok_mo hS) rfl (sh_all hS) ?_
  refine e_iconst (k := 2) (xi121 2) ?_
  refine e_iald (w := 0) (k := 3) (xi121 3) (ok_all hS) (by rw [ln_all]; omega) ((((if_pos rfl).trans rfl).trans hA0)) ?_
  refine e_iconst (k := 4) (xi121 4) ?_
  refine e_c_eq (k := 5) (xi121 5) (fun q => absurd q (by decide)) (fun c0 => ?_)
  refine e_iload (k := 6) (xi121 6) rfl ?_
  refine e_iconst (k := 7) (xi121 7) ?_
  refine e_c_lt (k := 8) (xi121 8) (fun c1 => ?_) (fun c1 => ?_)
  · skip
    refine e_iconst (k := 12) (xi121 12) ?_
    refine e_iret (k := 13) (xi121 13) ?_
    exact x_GVe ⟨z, P, _, rfl, fun j => x_rown⟩ (by rw [if_pos (by omega)])
  · skip
    refine e_iload (k := 9) (xi121 9) rfl ?_
    refine e_iconst (k := 10) (xi121 10) ?_
    refine e_c_le (k := 11) (xi121 11) (fun c2 => ?_) (fun c2 => ?_)
    · skip
      refine e_aload (k := 14) (xi121 14) rfl (by decide) ?_
      refine e_getR (j := 0) (w := 163) (k := 15) (xi121 15) (ok_mo hS) rfl (sh_all hS) ?_
      refine e_iconst (k := 16) (xi121 16) ?_
      refine e_iald (w := 0) (k := 17) (xi121 17) (ok_all hS) (by rw [ln_all]; omega) ((((if_pos rfl).trans rfl).trans hA0)) ?_
      refine e_istore (k := 18) (xi121 18) (Nat.le_of_ble_eq_true rfl) ?_
      show x_Ev 121 19 [.inr 162, .inl (n), .inl 0, x_un] [] (0, 0) (z, P, (x_row M 163 A)) _
      refine e_aload (k := 19) (xi121 19) rfl (by decide) ?_
      refine e_getR (j := 0) (w := 163) (k := 20) (xi121 20) (ok_mo hS) rfl (sh_all hS) ?_
      refine e_aload (k := 21) (xi121 21) rfl (by decide) ?_
      refine e_iload (k := 22) (xi121 22) rfl ?_
      refine e_call (k := 23) (v := some (.inl 10)) (h1 := (z, P, (x_row M 163 A))) (c1 := 0) (c2 := 0) (rest := [.inr 163]) (as := [.inr 162, .inl 0]) (xi121 23) (by decide) xm117 rfl ⟨rfl, Nat.le_of_ble_eq_true rfl, by decide⟩ (Or.inr (x_okt (ok_mo hS))) (((x_cv (by omega)).mp (m_standAt hS (s := 0) (by omega) (M := M) (A := A)))) ?_
      refine e_iload (k := 24) (xi121 24) rfl ?_
      refine e_iastA (k := 25) (xi121 25) hS (by omega) ?_
      refine e_iconst (k := 26) (xi121 26) ?_
      refine e_istore (k := 27) (xi121 27) (Nat.le_of_ble_eq_true rfl) ?_
      show x_Ev 121 28 [.inr 162, .inl (n), .inl 0, .inl 0] [] (0, 0) (z, P, (x_row M 163 (a_up A 10 n))) _
      refine g_sd1 hS (by omega) (fun A1 hA1 => ?_) n.toNat 0 _ (by omega) (by omega) ?_
      rotate_left
      · exact (a_up_n (by omega)).trans hA0
      · skip
        refine e_aload (k := 41) (xi121 41) rfl (by decide) ?_
        refine e_getR (j := 0) (w := 163) (k := 42) (xi121 42) (ok_mo hS) rfl (sh_all hS) ?_
        refine e_aload (k := 43) (xi121 43) rfl (by decide) ?_
        refine e_iload (k := 44) (xi121 44) rfl ?_
        refine e_call (k := 45) (v := some (.inl 10)) (h1 := (z, P, (x_row M 163 A1))) (c1 := 0) (c2 := 0) (rest := [.inr 163]) (as := [.inr 162, .inl 0]) (xi121 45) (by decide) xm117 rfl ⟨rfl, Nat.le_of_ble_eq_true rfl, by decide⟩ (Or.inr (x_okt (ok_mo hS))) (((x_cv (by omega)).mp (m_standAt hS (s := 0) (by omega) (M := M) (A := A1)))) ?_
        refine e_iconst (k := 46) (xi121 46) ?_
        refine e_iadd (w := 24) (k := 47) (xi121 47) (by decide) ?_
        refine e_iconst (k := 48) (xi121 48) ?_
        refine e_iastA (k := 49) (xi121 49) hS (by omega) ?_
        refine e_aload (k := 50) (xi121 50) rfl (by decide) ?_
        refine e_getR (j := 0) (w := 163) (k := 51) (xi121 51) (ok_mo hS) rfl (sh_all hS) ?_
        refine e_aload (k := 52) (xi121 52) rfl (by decide) ?_
        refine e_iload (k := 53) (xi121 53) rfl ?_
        refine e_call (k := 54) (v := some (.inl 10)) (h1 := (z, P, (x_row M 163 (a_up A1 24 ((-1)))))) (c1 := 0) (c2 := 0) (rest := [.inr 163]) (as := [.inr 162, .inl 0]) (xi121 54) (by decide) xm117 rfl ⟨rfl, Nat.le_of_ble_eq_true rfl, by decide⟩ (Or.inr (x_okt (ok_mo hS))) (((x_cv (by omega)).mp (m_standAt hS (s := 0) (by omega) (M := M) (A := (a_up A1 24 ((-1))))))) ?_
        refine e_iconst (k := 55) (xi121 55) ?_
        refine e_iadd (w := 25) (k := 56) (xi121 56) (by decide) ?_
        refine e_iconst (k := 57) (xi121 57) ?_
        refine e_iastA (k := 58) (xi121 58) hS (by omega) ?_
        refine e_aload (k := 59) (xi121 59) rfl (by decide) ?_
        refine e_getR (j := 0) (w := 163) (k := 60) (xi121 60) (ok_mo hS) rfl (sh_all hS) ?_
        refine e_iconst (k := 61) (xi121 61) ?_
        refine e_dup2 (k := 62) (xi121 62) ?_
        refine e_iald (w := 0) (k := 63) (xi121 63) (ok_all hS) (by rw [ln_all]; omega) ((((if_pos rfl).trans (((a_up_n (by omega)).trans (((a_up_n (by omega)).trans rfl))))).trans hA1)) ?_
        refine e_iconst (k := 64) (xi121 64) ?_
        refine e_iadd (w := 1) (k := 65) (xi121 65) (by decide) ?_
        refine e_iastA (k := 66) (xi121 66) hS (by omega) ?_
        refine e_iload (k := 67) (xi121 67) rfl ?_
        refine e_iret (k := 68) (xi121 68) ?_
        exact x_GVe ⟨z, P, _, rfl, fun j => x_rown⟩ (by rw [if_neg (by omega)])
    · skip
      refine e_iconst (k := 12) (xi121 12) ?_
      refine e_iret (k := 13) (xi121 13) ?_
      exact x_GVe ⟨z, P, _, rfl, fun j => x_rown⟩ (by rw [if_pos (by omega)])
theorem x_GVu {v k w : Int} {M : Int → Int → Int} {q : Option xV × xH} (h : x_GV v (x_up M 164 k w) q) : x_GV v M q := by
  obtain ⟨z, P, M1, h1, h2⟩ := h
  exact ⟨z, P, M1, h1, fun j => (h2 j).trans (x_up_ne (by omega))⟩
theorem g_im1 {z n : Int} {P M : Int → Int → Int} (hS : x_Sh z P) (hn : 0 ≤ n ∧ n < 4) : ∀ (k : Nat) (i : Int) (A : Int → Int), i + k = 1640 → 0 ≤ i → x_Ev 178 13 [.inr 162, .inl (n), .inl (i)] [] (0, 0) (z, P, x_row M 163 A) (x_GV 1 M) := by
  intro k
  induction k with
  | zero =>
    intro i A he hi
    refine e_iload (k := 13) (xi178 13) rfl ?_
    refine e_iconst (k := 14) (xi178 14) ?_
    refine e_c_ge (k := 15) (xi178 15) (fun c0 => ?_) (fun q => absurd (by omega) q)
    refine e_iconst (k := 32) (xi178 32) ?_
    refine e_zret (k := 33) (xi178 33) (by decide) ?_
    exact ⟨z, P, _, rfl, fun j => x_rown⟩
  | succ k ih =>
    intro i A he hi
    refine e_iload (k := 13) (xi178 13) rfl ?_
    refine e_iconst (k := 14) (xi178 14) ?_
    refine e_c_ge (k := 15) (xi178 15) (fun q => absurd q (by omega)) (fun c0 => ?_)
    refine e_aload (k := 16) (xi178 16) rfl (by decide) ?_
    refine e_getR (j := 0) (w := 163) (k := 17) (xi178 17) (ok_mo hS) rfl (sh_all hS) ?_
    refine e_iconst (k := 18) (xi178 18) ?_
    refine e_iload (k := 19) (xi178 19) rfl ?_
    refine e_iconst (k := 20) (xi178 20) ?_
    refine e_iadd (w := 1 + n) (k := 21) (xi178 21) (x_wn (by omega)) ?_
    refine e_imul (w := 1640 + 1640 * n) (k := 22) (xi178 22) (x_wn (by omega)) ?_
    refine e_iload (k := 23) (xi178 23) rfl ?_
    refine e_iadd (w := 1640 + 1640 * n + i) (k := 24) (xi178 24) (x_wn (by omega)) ?_
    refine e_aload (k := 25) (xi178 25) rfl (by decide) ?_
    refine e_getR (j := 0) (w := 163) (k := 26) (xi178 26) (ok_mo hS) rfl (sh_all hS) ?_
    refine e_iload (k := 27) (xi178 27) rfl ?_
    refine e_iald (w := A i) (k := 28) (xi178 28) (ok_all hS) (by rw [ln_all]; omega) (((if_pos rfl).trans rfl)) ?_
    refine e_iastA (k := 29) (xi178 29) hS (by omega) ?_
    refine e_iinc (w := 1 + i) (k := 30) (xi178 30) rfl (x_wn (by omega)) ?_
    show x_Ev 178 31 [.inr 162, .inl (n), .inl (1 + i)] [] (0, 0) (z, P, (x_row M 163 (a_up A (1640 + 1640 * n + i) (A i)))) _
    refine e_goto (k := 31) (xi178 31) ?_
    exact ih (1 + i) _ (by omega) (by omega)
theorem g_image {z : Int} {P M : Int → Int → Int} {A : Int → Int} (hS : x_Sh z P) (hA0 : A 0 = 0) (hA1 : A 1 = 0) (hA2 : A 2 = 0) (hA3 : A 3 = 0)  (n : Int) : x_CallR 178 [.inr 162, .inl (n)] (z, P, x_row M 163 A) (x_GV (if 0 ≤ n ∧ n < 4 then 1 else 0) M) := by
  refine e_body (ls0 := [.inr 162, .inl (n), x_un]) xm178 rfl ?_
  refine e_iload (k := 0) (xi178 0) rfl ?_
  refine e_iconst (k := 1) (xi178 1) ?_
  refine e_call (k := 2) (v := some (.inl (x_b (0 ≤ n ∧ n < 4)))) (h1 := (z, P, (x_row M 163 A))) (c1 := 0) (c2 := 0) (rest := []) (as := [.inl (n), .inl 4]) (xi178 2) (by decide) xm113 rfl ⟨rfl, Nat.le_of_ble_eq_true rfl, by decide⟩ (Or.inl rfl) (m_isIn n 4) ?_
  refine e_b_ne (k := 3) (xi178 3) (fun c0 => ?_) (fun c0 => ?_)
  · skip
    refine e_aload (k := 6) (xi178 6) rfl (by decide) ?_
    refine e_getR (j := 1) (w := 164) (k := 7) (xi178 7) (ok_mo hS) rfl (sh_has hS) ?_
    refine e_iload (k := 8) (xi178 8) rfl ?_
    refine e_iconst (k := 9) (xi178 9) ?_
    refine e_bast (k := 10) (xi178 10) (ok_has hS) (by rw [ln_has]; omega) (by decide) ?_
    rw [x_row_up (by decide)]
    refine e_iconst (k := 11) (xi178 11) ?_
    refine e_istore (k := 12) (xi178 12) (Nat.le_of_ble_eq_true rfl) ?_
    show x_Ev 178 13 [.inr 162, .inl (n), .inl 0] [] (0, 0) (z, P, (x_row ((x_up M 164 n 1)) 163 A)) _
    rw [if_pos c0]
    exact x_ev_mono (g_im1 hS c0 1640 0 _ (by omega) (by omega)) (fun q hq => x_GVu hq)
  · skip
    refine e_iconst (k := 4) (xi178 4) ?_
    refine e_zret (k := 5) (xi178 5) (by decide) ?_
    exact x_GVe ⟨z, P, _, rfl, fun j => x_rown⟩ (by rw [if_neg c0])
