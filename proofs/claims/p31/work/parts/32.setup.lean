/-! NEW STANDS, COPIES OF TOWNS -/
theorem s_fg1 {z s : Int} {P M0 : Int → Int → Int} {r : Option xV × xH → Prop} (hS : x_Sh z P) (hs : 0 ≤ s ∧ s < 12) (kk : ∀ M, ((∀ b j, ¬ (b = 8 + 7 * s ∨ b = 9 + 7 * s) → M b j = M0 b j) ∧ ∀ h, 0 ≤ h ∧ h < 24 → M (8 + 7 * s) h = 0 ∧ M (9 + 7 * s) h = 0) → x_Ev 9 20 [.inr (7 + 7 * s), .inl 24] [] (0, 0) (z, P, M) r) : ∀ (k : Nat) (i : Int) (M : Int → Int → Int), i + k = 24 → 0 ≤ i → ((∀ b j, ¬ (b = 8 + 7 * s ∨ b = 9 + 7 * s) → M b j = M0 b j) ∧ ∀ h, 0 ≤ h ∧ h < i → M (8 + 7 * s) h = 0 ∧ M (9 + 7 * s) h = 0) → x_Ev 9 5 [.inr (7 + 7 * s), .inl (i)] [] (0, 0) (z, P, M) r := by
  intro k
  induction k with
  | zero =>
    intro i M he hi hT
    have hi2 : i = 24 := by omega
    subst hi2
    refine e_iload (k := 5) (xi9 5) rfl ?_
    refine e_iconst (k := 6) (xi9 6) ?_
    refine e_c_ge (k := 7) (xi9 7) (fun c0 => ?_) (fun q => absurd (by omega) q)
    exact kk _ hT
  | succ k ih =>
    intro i M he hi hT
    refine e_iload (k := 5) (xi9 5) rfl ?_
    refine e_iconst (k := 6) (xi9 6) ?_
    refine e_c_ge (k := 7) (xi9 7) (fun q => absurd q (by omega)) (fun c0 => ?_)
    refine e_aload (k := 8) (xi9 8) rfl (by omega) ?_
    refine e_getR (j := 1) (w := 8 + 7 * s) (k := 9) (xi9 9) (ok_dem hS hs) rfl (sh_br hS hs) ?_
    refine e_iload (k := 10) (xi9 10) rfl ?_
    refine e_iconst (k := 11) (xi9 11) ?_
    refine e_iast (k := 12) (xi9 12) (ok_br hS hs) (by rw [(ln_br hs)]; omega) ?_
    refine e_aload (k := 13) (xi9 13) rfl (by omega) ?_
    refine e_getR (j := 2) (w := 9 + 7 * s) (k := 14) (xi9 14) (ok_dem hS hs) rfl (sh_wa hS hs) ?_
    refine e_iload (k := 15) (xi9 15) rfl ?_
    refine e_iconst (k := 16) (xi9 16) ?_
    refine e_iast (k := 17) (xi9 17) (ok_wa hS hs) (by rw [(ln_wa hs)]; omega) ?_
    refine e_iinc (w := 1 + i) (k := 18) (xi9 18) rfl (x_wn (by omega)) ?_
    show x_Ev 9 19 [.inr (7 + 7 * s), .inl (1 + i)] [] (0, 0) (z, P, (x_up ((x_up M (8 + 7 * s) i 0)) (9 + 7 * s) i 0)) _
    refine e_goto (k := 19) (xi9 19) ?_
    refine ih (1 + i) _ (by omega) (by omega) ?_
    refine ⟨fun b j h => ?_, fun h hh => ?_⟩
    · rw [x_up_ne (by omega), x_up_ne (by omega)]; exact hT.1 b j h
    · by_cases q : h = i
      · subst q
        exact ⟨(x_up_ne (by omega)).trans x_up_self, x_up_self⟩
      · rw [x_up_ne (by omega), x_up_nk (by omega), x_up_nk (by omega), x_up_ne (by omega)]
        exact hT.2 h (by omega)
theorem s_forget {z s : Int} {P M : Int → Int → Int} (hS : x_Sh z P) (hs : 0 ≤ s ∧ s < 12) : x_CallR 9 [.inr (7 + 7 * s)] (z, P, M) (fun q => ∃ M1, q = (none, (z, P, M1)) ∧ (∀ b j, (b < 7 + 7 * s ∨ 10 + 7 * s ≤ b) → M1 b j = M b j) ∧ M1 (7 + 7 * s) 0 = 0 ∧ ∀ h, 0 ≤ h ∧ h < 24 → M1 (8 + 7 * s) h = 0 ∧ M1 (9 + 7 * s) h = 0) := by
  refine e_body (ls0 := [.inr (7 + 7 * s), x_un]) xm9 rfl ?_
  refine e_aload (k := 0) (xi9 0) rfl (by omega) ?_
  refine e_iconst (k := 1) (xi9 1) ?_
  refine e_putZ (j := 0) (k := 2) (xi9 2) (ok_dem hS hs) rfl (by first | decide | omega) ?_
  refine e_iconst (k := 3) (xi9 3) ?_
  refine e_istore (k := 4) (xi9 4) (Nat.le_of_ble_eq_true rfl) ?_
  show x_Ev 9 5 [.inr (7 + 7 * s), .inl 0] [] (0, 0) (z, P, (x_up M (7 + 7 * s) 0 0)) _
  refine s_fg1 (M0 := (x_up M (7 + 7 * s) 0 0)) hS hs (fun M1 hT => ?_) 24 0 _ (by omega) (by omega) ⟨fun b j h => rfl, fun h hh => absurd hh (by omega)⟩
  refine e_vret (k := 20) (xi9 20) ⟨M1, rfl, fun b j h => ?_, ?_, hT.2⟩
  · rw [hT.1 b j (by omega), x_up_ne (by omega)]
  · rw [hT.1 _ _ (by omega)]; exact x_up_self
theorem s_su1 {z s : Int} {P M0 : Int → Int → Int} {r : Option xV × xH → Prop} (hS : x_Sh z P) (hs : 0 ≤ s ∧ s < 12) {n : Int} (kk : ∀ M, ((∀ b j, b ≠ 4 + 7 * s → M b j = M0 b j) ∧ ∀ d, 0 ≤ d ∧ d < 12 → M (4 + 7 * s) d = -1) → x_Ev 15 24 [.inr (3 + 7 * s), .inl (n), .inl 12] [] (0, 0) (z, P, M) r) : ∀ (k : Nat) (i : Int) (M : Int → Int → Int), i + k = 12 → 0 ≤ i → ((∀ b j, b ≠ 4 + 7 * s → M b j = M0 b j) ∧ ∀ d, 0 ≤ d ∧ d < i → M (4 + 7 * s) d = -1) → x_Ev 15 14 [.inr (3 + 7 * s), .inl (n), .inl (i)] [] (0, 0) (z, P, M) r := by
  intro k
  induction k with
  | zero =>
    intro i M he hi hT
    have hi2 : i = 12 := by omega
    subst hi2
    refine e_iload (k := 14) (xi15 14) rfl ?_
    refine e_iconst (k := 15) (xi15 15) ?_
    refine e_c_ge (k := 16) (xi15 16) (fun c0 => ?_) (fun q => absurd (by omega) q)
    exact kk _ hT
  | succ k ih =>
    intro i M he hi hT
    refine e_iload (k := 14) (xi15 14) rfl ?_
    refine e_iconst (k := 15) (xi15 15) ?_
    refine e_c_ge (k := 16) (xi15 16) (fun q => absurd q (by omega)) (fun c0 => ?_)
    refine e_aload (k := 17) (xi15 17) rfl (by omega) ?_
    refine e_getR (j := 2) (w := 4 + 7 * s) (k := 18) (xi15 18) (ok_st hS hs) rfl (sh_con hS hs) ?_
    refine e_iload (k := 19) (xi15 19) rfl ?_
    refine e_iconst (k := 20) (xi15 20) ?_
    refine e_iast (k := 21) (xi15 21) (ok_con hS hs) (by rw [(ln_con hs)]; omega) ?_
    refine e_iinc (w := 1 + i) (k := 22) (xi15 22) rfl (x_wn (by omega)) ?_
    show x_Ev 15 23 [.inr (3 + 7 * s), .inl (n), .inl (1 + i)] [] (0, 0) (z, P, (x_up M (4 + 7 * s) i ((-1)))) _
    refine e_goto (k := 23) (xi15 23) ?_
    refine ih (1 + i) _ (by omega) (by omega) ?_
    refine ⟨fun b j h => (x_up_ne h).trans (hT.1 b j h), fun d hd => ?_⟩
    by_cases q : d = i
    · subst q; exact x_up_self
    · rw [x_up_nk q]; exact hT.2 d (by omega)
theorem s_su2 {z s : Int} {P M0 : Int → Int → Int} {r : Option xV × xH → Prop} (hS : x_Sh z P) (hs : 0 ≤ s ∧ s < 12) {n : Int} (hN : M0 (3 + 7 * s) 0 = s) (kk : ∀ M, ((∀ b j, b ≠ 5 + 7 * s → M b j = M0 b j) ∧ ∀ d, 0 ≤ d ∧ d < 12 → M (5 + 7 * s) d = if d = s then 0 else 999) → x_Ev 15 42 [.inr (3 + 7 * s), .inl (n), .inl 12] [] (0, 0) (z, P, M) r) : ∀ (k : Nat) (i : Int) (M : Int → Int → Int), i + k = 12 → 0 ≤ i → ((∀ b j, b ≠ 5 + 7 * s → M b j = M0 b j) ∧ ∀ d, 0 ≤ d ∧ d < i → M (5 + 7 * s) d = if d = s then 0 else 999) → x_Ev 15 26 [.inr (3 + 7 * s), .inl (n), .inl (i)] [] (0, 0) (z, P, M) r := by
  intro k
  induction k with
  | zero =>
    intro i M he hi hT
    have hi2 : i = 12 := by omega
    subst hi2
    refine e_iload (k := 26) (xi15 26) rfl ?_
    refine e_iconst (k := 27) (xi15 27) ?_
    refine e_c_ge (k := 28) (xi15 28) (fun c0 => ?_) (fun q => absurd (by omega) q)
    exact kk _ hT
  | succ k ih =>
    intro i M he hi hT
    refine e_iload (k := 26) (xi15 26) rfl ?_
    refine e_iconst (k := 27) (xi15 27) ?_
    refine e_c_ge (k := 28) (xi15 28) (fun q => absurd q (by omega)) (fun c0 => ?_)
    refine e_aload (k := 29) (xi15 29) rfl (by omega) ?_
    refine e_getR (j := 3) (w := 5 + 7 * s) (k := 30) (xi15 30) (ok_st hS hs) rfl (sh_len hS hs) ?_
    refine e_iload (k := 31) (xi15 31) rfl ?_
    refine e_iload (k := 32) (xi15 32) rfl ?_
    refine e_aload (k := 33) (xi15 33) rfl (by omega) ?_
    refine e_getI (j := 0) (w := s) (k := 34) (xi15 34) (ok_st hS hs) rfl (((hT.1 _ _ (by omega)).trans hN)) ?_
    refine e_c_ne (k := 35) (xi15 35) (fun c1 => ?_) (fun c1 => ?_)
    · skip
      refine e_iconst (k := 38) (xi15 38) ?_
      refine e_iast (k := 39) (xi15 39) (ok_len hS hs) (by rw [(ln_len hs)]; omega) ?_
      refine e_iinc (w := 1 + i) (k := 40) (xi15 40) rfl (x_wn (by omega)) ?_
      show x_Ev 15 41 [.inr (3 + 7 * s), .inl (n), .inl (1 + i)] [] (0, 0) (z, P, (x_up M (5 + 7 * s) i 999)) _
      refine e_goto (k := 41) (xi15 41) ?_
      refine ih (1 + i) _ (by omega) (by omega) ?_
      refine ⟨fun b j h => (x_up_ne h).trans (hT.1 b j h), fun d hd => ?_⟩
      by_cases q : d = i
      · subst q; exact x_up_self.trans (if_neg c1).symm
      · rw [x_up_nk q]; exact hT.2 d (by omega)
    · skip
      refine e_iconst (k := 36) (xi15 36) ?_
      refine e_goto (k := 37) (xi15 37) ?_
      refine e_iast (k := 39) (xi15 39) (ok_len hS hs) (by rw [(ln_len hs)]; omega) ?_
      refine e_iinc (w := 1 + i) (k := 40) (xi15 40) rfl (x_wn (by omega)) ?_
      show x_Ev 15 41 [.inr (3 + 7 * s), .inl (n), .inl (1 + i)] [] (0, 0) (z, P, (x_up M (5 + 7 * s) i 0)) _
      refine e_goto (k := 41) (xi15 41) ?_
      refine ih (1 + i) _ (by omega) (by omega) ?_
      refine ⟨fun b j h => (x_up_ne h).trans (hT.1 b j h), fun d hd => ?_⟩
      by_cases q : d = i
      · subst q; exact x_up_self.trans (if_pos (Classical.byContradiction c1)).symm
      · rw [x_up_nk q]; exact hT.2 d (by omega)
theorem s_setUp {z s : Int} {P M : Int → Int → Int} (hS : x_Sh z P) (hs : 0 ≤ s ∧ s < 12) {n : Int} (hN : M (3 + 7 * s) 0 = s) : x_CallR 15 [.inr (3 + 7 * s), .inl (n)] (z, P, M) (fun q => ∃ M1, q = (none, (z, P, M1)) ∧ (∀ b j, (b < 3 + 7 * s ∨ 10 + 7 * s ≤ b) → M1 b j = M b j) ∧ (M1 (3 + 7 * s) 0 = s ∧ M1 (3 + 7 * s) 1 = n ∧ M1 (3 + 7 * s) 5 = -1 ∧ M1 (3 + 7 * s) 6 = -1 ∧ M1 (3 + 7 * s) 7 = 0) ∧ (∀ d, 0 ≤ d ∧ d < 12 → M1 (4 + 7 * s) d = -1) ∧ (∀ d, 0 ≤ d ∧ d < 12 → M1 (5 + 7 * s) d = if d = s then 0 else 999) ∧ M1 (7 + 7 * s) 0 = 0 ∧ ∀ h, 0 ≤ h ∧ h < 24 → M1 (8 + 7 * s) h = 0 ∧ M1 (9 + 7 * s) h = 0) := by
  refine e_body (ls0 := [.inr (3 + 7 * s), .inl (n), x_un]) xm15 rfl ?_
  refine e_aload (k := 0) (xi15 0) rfl (by omega) ?_
  refine e_iload (k := 1) (xi15 1) rfl ?_
  refine e_putI (j := 1) (k := 2) (xi15 2) (ok_st hS hs) rfl ?_
  refine e_aload (k := 3) (xi15 3) rfl (by omega) ?_
  refine e_iconst (k := 4) (xi15 4) ?_
  refine e_putI (j := 5) (k := 5) (xi15 5) (ok_st hS hs) rfl ?_
  refine e_aload (k := 6) (xi15 6) rfl (by omega) ?_
  refine e_iconst (k := 7) (xi15 7) ?_
  refine e_putI (j := 6) (k := 8) (xi15 8) (ok_st hS hs) rfl ?_
  refine e_aload (k := 9) (xi15 9) rfl (by omega) ?_
  refine e_iconst (k := 10) (xi15 10) ?_
  refine e_putI (j := 7) (k := 11) (xi15 11) (ok_st hS hs) rfl ?_
  refine e_iconst (k := 12) (xi15 12) ?_
  refine e_istore (k := 13) (xi15 13) (Nat.le_of_ble_eq_true rfl) ?_
  show x_Ev 15 14 [.inr (3 + 7 * s), .inl (n), .inl 0] [] (0, 0) (z, P, (x_up ((x_up ((x_up ((x_up M (3 + 7 * s) 1 n)) (3 + 7 * s) 5 ((-1)))) (3 + 7 * s) 6 ((-1)))) (3 + 7 * s) 7 0)) _
  have hN1 : (x_up ((x_up ((x_up ((x_up M (3 + 7 * s) 1 n)) (3 + 7 * s) 5 ((-1)))) (3 + 7 * s) 6 ((-1)))) (3 + 7 * s) 7 0) (3 + 7 * s) 0 = s := by
    rw [x_up_nk (by omega), x_up_nk (by omega), x_up_nk (by omega), x_up_nk (by omega)]; exact hN
  refine s_su1 (M0 := (x_up ((x_up ((x_up ((x_up M (3 + 7 * s) 1 n)) (3 + 7 * s) 5 ((-1)))) (3 + 7 * s) 6 ((-1)))) (3 + 7 * s) 7 0)) hS hs (fun M1 hT1 => ?_) 12 0 _ (by omega) (by omega) ⟨fun b j h => rfl, fun h hh => absurd hh (by omega)⟩
  refine e_iconst (k := 24) (xi15 24) ?_
  refine e_istore (k := 25) (xi15 25) (Nat.le_of_ble_eq_true rfl) ?_
  show x_Ev 15 26 [.inr (3 + 7 * s), .inl (n), .inl 0] [] (0, 0) (z, P, M1) _
  refine s_su2 (M0 := M1) hS hs ((hT1.1 _ _ (by omega)).trans hN1) (fun M2 hT2 => ?_) 12 0 _ (by omega) (by omega) ⟨fun b j h => rfl, fun h hh => absurd hh (by omega)⟩
  have g : ∀ b j, b ≠ 4 + 7 * s → b ≠ 5 + 7 * s → M2 b j = (x_up ((x_up ((x_up ((x_up M (3 + 7 * s) 1 n)) (3 + 7 * s) 5 ((-1)))) (3 + 7 * s) 6 ((-1)))) (3 + 7 * s) 7 0) b j := fun b j h1 h2 => (hT2.1 b j h2).trans (hT1.1 b j h1)
  refine e_aload (k := 42) (xi15 42) rfl (by omega) ?_
  refine e_getR (j := 8) (w := 7 + 7 * s) (k := 43) (xi15 43) (ok_st hS hs) rfl (sh_dem hS hs) ?_
  refine e_callR (k := 44) (c1 := 0) (c2 := 0) (rest := []) (as := [.inr (7 + 7 * s)]) (xi15 44) (by decide) xm9 rfl ⟨rfl, Nat.le_of_ble_eq_true rfl, by decide⟩ (Or.inr (x_okt (ok_dem hS hs))) (s_forget hS hs) ?_
  rintro v h1 ⟨M3, hq, f, f0, f1⟩
  cases hq
  refine e_vret (k := 45) (xi15 45) ⟨M3, rfl, fun b j h => ?_, ⟨?_, ?_, ?_, ?_, ?_⟩, fun d hd => ?_, fun d hd => ?_, f0, f1⟩
  · rw [f b j (by omega), g b j (by omega) (by omega), x_up_ne (by omega), x_up_ne (by omega), x_up_ne (by omega), x_up_ne (by omega)]
  · rw [f _ _ (by omega), g _ _ (by omega) (by omega)]; exact hN1
  · rw [f _ _ (by omega), g _ _ (by omega) (by omega), x_up_nk (by omega), x_up_nk (by omega), x_up_nk (by omega), x_up_self]
  · rw [f _ _ (by omega), g _ _ (by omega) (by omega), x_up_nk (by omega), x_up_nk (by omega), x_up_self]
  · rw [f _ _ (by omega), g _ _ (by omega) (by omega), x_up_nk (by omega), x_up_self]
  · rw [f _ _ (by omega), g _ _ (by omega) (by omega), x_up_self]
  · rw [f _ _ (by omega), hT2.1 _ _ (by omega)]; exact hT1.2 d hd
  · rw [f _ _ (by omega)]; exact hT2.2 d hd
