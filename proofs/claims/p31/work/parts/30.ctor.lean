/-! CONSTRUCTORS -/
theorem x_clr_self {f : Int → Int → Int} {a v j : Int} : x_clr f a v a j = v := if_pos rfl
theorem c_dem {z a : Int} {P M : Int → Int → Int} (ha : 0 ≤ a ∧ a < z ∧ x_kd a = 1) (hz : x_kd z = 8 ∧ x_ln z = 24) (h1 : x_kd (1 + z) = 8 ∧ x_ln (1 + z) = 24) : x_CallR 7 [.inr (a)] (z, P, M) (fun q => ∃ P1 M1, q = (none, (2 + z, P1, M1)) ∧ (∀ b j, b < z → b ≠ a → P1 b j = P b j) ∧ (∀ b j, b < z → M1 b j = M b j) ∧ P1 a 1 = z ∧ P1 a 2 = 1 + z) := by
  refine e_body (ls0 := [.inr (a)]) xm7 rfl ?_
  refine e_aload (k := 0) (xi7 0) rfl (by omega) ?_
  refine e_oinit (k := 1) (xi7 1) ⟨by omega, by omega, Nat.le_of_ble_eq_true rfl⟩ ?_
  refine e_aload (k := 2) (xi7 2) rfl (by omega) ?_
  refine e_iconst (k := 3) (xi7 3) ?_
  refine e_newI (b1 := 1) (b2 := 24) (u0 := 24)  (k := 4) (xi7 4) ⟨hz.1, hz.2, by omega, by omega⟩ rfl ?_
  show x_Ev 7 5 [.inr (a)] [.inr (z), .inr (a)] (1, 24) (z + 1, (x_clr P z (-1)), (x_clr M z 0)) _
  rw [show (z + 1 : Int) = 1 + z by omega]
  refine e_putR (j := 1) (k := 5) (xi7 5) ⟨by omega, by omega, ha.2.2⟩ rfl (by omega) ?_
  refine e_aload (k := 6) (xi7 6) rfl (by omega) ?_
  refine e_iconst (k := 7) (xi7 7) ?_
  refine e_newI (b1 := 0) (b2 := 0) (u0 := 24)  (k := 8) (xi7 8) ⟨h1.1, h1.2, by omega, by omega⟩ rfl ?_
  show x_Ev 7 9 [.inr (a)] [.inr (1 + z), .inr (a)] (0, 0) (1 + z + 1, (x_clr (x_up (x_clr P z (-1)) a 1 z) (1 + z) (-1)), (x_clr (x_clr M z 0) (1 + z) 0)) _
  rw [show (1 + z + 1 : Int) = 2 + z by omega]
  refine e_putR (j := 2) (k := 9) (xi7 9) ⟨by omega, by omega, ha.2.2⟩ rfl (by omega) ?_
  refine e_vret (k := 10) (xi7 10) ?_
  refine ⟨(x_up (x_clr (x_up (x_clr P z (-1)) a 1 z) (1 + z) (-1)) a 2 (1 + z)), (x_clr (x_clr M z 0) (1 + z) 0), rfl, ?_, ?_, ?_, ?_⟩
  · intro b j h1 h2; rw [x_up_ne (by omega), x_clr_ne (by omega), x_up_ne (by omega), x_clr_ne (by omega)]
  · intro b j h1; rw [x_clr_ne (by omega), x_clr_ne (by omega)]
  · rw [x_up_nk (by omega), x_clr_ne (by omega), x_up_self]
  · rw [x_up_self]
theorem c_stand {z a n : Int} {P M : Int → Int → Int} (ha : 0 ≤ a ∧ a < z ∧ x_kd a = 2) (hz : x_kd z = 8 ∧ x_ln z = 12) (h1 : x_kd (1 + z) = 8 ∧ x_ln (1 + z) = 12) (h2 : x_kd (2 + z) = 8 ∧ x_ln (2 + z) = 8) (h3 : x_kd (3 + z) = 1) (h4 : x_kd (4 + z) = 8 ∧ x_ln (4 + z) = 24) (h5 : x_kd (1 + (4 + z)) = 8 ∧ x_ln (1 + (4 + z)) = 24) : x_CallR 14 [.inr (a), .inl (n)] (z, P, M) (fun q => ∃ P1 M1, q = (none, (6 + z, P1, M1)) ∧ (∀ b j, b < z → b ≠ a → P1 b j = P b j) ∧ (∀ b j, b < z → b ≠ a → M1 b j = M b j) ∧ P1 a 2 = z ∧ P1 a 3 = 1 + z ∧ P1 a 4 = 2 + z ∧ P1 a 8 = 3 + z ∧ P1 (3 + z) 1 = 4 + z ∧ P1 (3 + z) 2 = 5 + z ∧ M1 a 0 = n ∧ M1 (3 + z) 0 = 0) := by
  refine e_body (ls0 := [.inr (a), .inl (n)]) xm14 rfl ?_
  refine e_aload (k := 0) (xi14 0) rfl (by omega) ?_
  refine e_oinit (k := 1) (xi14 1) ⟨by omega, by omega, Nat.le_of_ble_eq_true rfl⟩ ?_
  refine e_aload (k := 2) (xi14 2) rfl (by omega) ?_
  refine e_iload (k := 3) (xi14 3) rfl ?_
  refine e_putI (j := 0) (k := 4) (xi14 4) ⟨by omega, by omega, ha.2.2⟩ rfl ?_
  refine e_aload (k := 5) (xi14 5) rfl (by omega) ?_
  refine e_iconst (k := 6) (xi14 6) ?_
  refine e_newI (b1 := 5) (b2 := 71) (u0 := 12)  (k := 7) (xi14 7) ⟨hz.1, hz.2, by omega, by omega⟩ rfl ?_
  show x_Ev 14 8 [.inr (a), .inl (n)] [.inr (z), .inr (a)] (5, 71) (z + 1, (x_clr P z (-1)), (x_clr (x_up M a 0 n) z 0)) _
  rw [show (z + 1 : Int) = 1 + z by omega]
  refine e_putR (j := 2) (k := 8) (xi14 8) ⟨by omega, by omega, ha.2.2⟩ rfl (by omega) ?_
  refine e_aload (k := 9) (xi14 9) rfl (by omega) ?_
  refine e_iconst (k := 10) (xi14 10) ?_
  refine e_newI (b1 := 4) (b2 := 59) (u0 := 12)  (k := 11) (xi14 11) ⟨h1.1, h1.2, by omega, by omega⟩ rfl ?_
  show x_Ev 14 12 [.inr (a), .inl (n)] [.inr (1 + z), .inr (a)] (4, 59) (1 + z + 1, (x_clr (x_up (x_clr P z (-1)) a 2 z) (1 + z) (-1)), (x_clr (x_clr (x_up M a 0 n) z 0) (1 + z) 0)) _
  rw [show (1 + z + 1 : Int) = 2 + z by omega]
  refine e_putR (j := 3) (k := 12) (xi14 12) ⟨by omega, by omega, ha.2.2⟩ rfl (by omega) ?_
  refine e_aload (k := 13) (xi14 13) rfl (by omega) ?_
  refine e_iconst (k := 14) (xi14 14) ?_
  refine e_newI (b1 := 3) (b2 := 51) (u0 := 8)  (k := 15) (xi14 15) ⟨h2.1, h2.2, by omega, by omega⟩ rfl ?_
  show x_Ev 14 16 [.inr (a), .inl (n)] [.inr (2 + z), .inr (a)] (3, 51) (2 + z + 1, (x_clr (x_up (x_clr (x_up (x_clr P z (-1)) a 2 z) (1 + z) (-1)) a 3 (1 + z)) (2 + z) (-1)), (x_clr (x_clr (x_clr (x_up M a 0 n) z 0) (1 + z) 0) (2 + z) 0)) _
  rw [show (2 + z + 1 : Int) = 3 + z by omega]
  refine e_putR (j := 4) (k := 16) (xi14 16) ⟨by omega, by omega, ha.2.2⟩ rfl (by omega) ?_
  refine e_aload (k := 17) (xi14 17) rfl (by omega) ?_
  refine e_new (b1 := 2) (b2 := 48) (u0 := 3)  (k := 18) (xi14 18) ⟨h3, by decide, rfl⟩ ?_
  show x_Ev 14 19 [.inr (a), .inl (n)] [.inr (3 + z), .inr (a)] (2, 48) (3 + z + 1, (x_clr (x_up (x_clr (x_up (x_clr (x_up (x_clr P z (-1)) a 2 z) (1 + z) (-1)) a 3 (1 + z)) (2 + z) (-1)) a 4 (2 + z)) (3 + z) (-1)), (x_clr (x_clr (x_clr (x_clr (x_up M a 0 n) z 0) (1 + z) 0) (2 + z) 0) (3 + z) 0)) _
  rw [show (3 + z + 1 : Int) = 4 + z by omega]
  refine e_dup (k := 19) (xi14 19) ?_
  refine e_callR (k := 20) (c1 := 0) (c2 := 0) (rest := [.inr (3 + z), .inr (a)]) (as := [.inr (3 + z)]) (xi14 20) (by decide) xm7 rfl ⟨rfl, Nat.le_of_ble_eq_true rfl, by decide⟩ (Or.inr (x_okt ⟨by omega, by omega, h3⟩)) (c_dem (z := 4 + z) (a := 3 + z) (P := (x_clr (x_up (x_clr (x_up (x_clr (x_up (x_clr P z (-1)) a 2 z) (1 + z) (-1)) a 3 (1 + z)) (2 + z) (-1)) a 4 (2 + z)) (3 + z) (-1))) (M := (x_clr (x_clr (x_clr (x_clr (x_up M a 0 n) z 0) (1 + z) 0) (2 + z) 0) (3 + z) 0)) ⟨by omega, by omega, h3⟩ h4 h5) ?_
  rintro v h1 ⟨P1, M1, hq, f1, f2, f3, f4⟩
  cases hq
  rw [show 2 + (4 + z) = 6 + z by omega]
  have f4 := f4.trans (show (1 + (4 + z) : Int) = 5 + z by omega)
  show x_Ev 14 21 [.inr (a), .inl (n)] [.inr (3 + z), .inr (a)] (0, 0) (6 + z, P1, M1) _
  refine e_putR (j := 8) (k := 21) (xi14 21) ⟨by omega, by omega, ha.2.2⟩ rfl (by omega) ?_
  refine e_vret (k := 22) (xi14 22) ?_
  refine ⟨(x_up P1 a 8 (3 + z)), M1, rfl, ?_, ?_, ?_, ?_, ?_, ?_, ?_, ?_, ?_, ?_⟩
  · intro b j h1 h2; rw [x_up_ne (by omega), f1 _ _ (by omega) (by omega), x_clr_ne (by omega), x_up_ne (by omega), x_clr_ne (by omega), x_up_ne (by omega), x_clr_ne (by omega), x_up_ne (by omega), x_clr_ne (by omega)]
  · intro b j h1 h2; rw [f2 _ _ (by omega), x_clr_ne (by omega), x_clr_ne (by omega), x_clr_ne (by omega), x_clr_ne (by omega), x_up_ne (by omega)]
  · rw [x_up_nk (by omega), f1 _ _ (by omega) (by omega), x_clr_ne (by omega), x_up_nk (by omega), x_clr_ne (by omega), x_up_nk (by omega), x_clr_ne (by omega), x_up_self]
  · rw [x_up_nk (by omega), f1 _ _ (by omega) (by omega), x_clr_ne (by omega), x_up_nk (by omega), x_clr_ne (by omega), x_up_self]
  · rw [x_up_nk (by omega), f1 _ _ (by omega) (by omega), x_clr_ne (by omega), x_up_self]
  · rw [x_up_self]
  · rw [x_up_ne (by omega), f3]
  · rw [x_up_ne (by omega), f4]
  · rw [f2 _ _ (by omega), x_clr_ne (by omega), x_clr_ne (by omega), x_clr_ne (by omega), x_clr_ne (by omega), x_up_self]
  · rw [f2 _ _ (by omega), x_clr_self]
theorem c_wheel {z a n : Int} {P M : Int → Int → Int} (ha : 0 ≤ a ∧ a < z ∧ x_kd a = 5) : x_CallR 65 [.inr (a), .inl (n)] (z, P, M) (fun q => q = (none, (z, P, (x_up M a 0 n)))) := by
  refine e_body (ls0 := [.inr (a), .inl (n)]) xm65 rfl ?_
  refine e_aload (k := 0) (xi65 0) rfl (by omega) ?_
  refine e_oinit (k := 1) (xi65 1) ⟨by omega, by omega, Nat.le_of_ble_eq_true rfl⟩ ?_
  refine e_aload (k := 2) (xi65 2) rfl (by omega) ?_
  refine e_iload (k := 3) (xi65 3) rfl ?_
  refine e_putI (j := 0) (k := 4) (xi65 4) ⟨by omega, by omega, ha.2.2⟩ rfl ?_
  refine e_vret (k := 5) (xi65 5) ?_
  rfl
theorem c_cart {z a n : Int} {P M : Int → Int → Int} (ha : 0 ≤ a ∧ a < z ∧ x_kd a = 0) (hz : x_kd z = 8 ∧ x_ln z = 8) : x_CallR 0 [.inr (a), .inl (n)] (z, P, M) (fun q => ∃ P1 M1, q = (none, (1 + z, P1, M1)) ∧ (∀ b j, b < z → b ≠ a → P1 b j = P b j) ∧ (∀ b j, b < z → b ≠ a → M1 b j = M b j) ∧ P1 a 5 = z ∧ M1 a 0 = n) := by
  refine e_body (ls0 := [.inr (a), .inl (n)]) xm0 rfl ?_
  refine e_aload (k := 0) (xi0 0) rfl (by omega) ?_
  refine e_oinit (k := 1) (xi0 1) ⟨by omega, by omega, Nat.le_of_ble_eq_true rfl⟩ ?_
  refine e_aload (k := 2) (xi0 2) rfl (by omega) ?_
  refine e_iload (k := 3) (xi0 3) rfl ?_
  refine e_putI (j := 0) (k := 4) (xi0 4) ⟨by omega, by omega, ha.2.2⟩ rfl ?_
  refine e_aload (k := 5) (xi0 5) rfl (by omega) ?_
  refine e_iconst (k := 6) (xi0 6) ?_
  refine e_newI (b1 := 0) (b2 := 0) (u0 := 8)  (k := 7) (xi0 7) ⟨hz.1, hz.2, by omega, by omega⟩ rfl ?_
  show x_Ev 0 8 [.inr (a), .inl (n)] [.inr (z), .inr (a)] (0, 0) (z + 1, (x_clr P z (-1)), (x_clr (x_up M a 0 n) z 0)) _
  rw [show (z + 1 : Int) = 1 + z by omega]
  refine e_putR (j := 5) (k := 8) (xi0 8) ⟨by omega, by omega, ha.2.2⟩ rfl (by omega) ?_
  refine e_vret (k := 9) (xi0 9) ?_
  refine ⟨(x_up (x_clr P z (-1)) a 5 z), (x_clr (x_up M a 0 n) z 0), rfl, ?_, ?_, ?_, ?_⟩
  · intro b j h1 h2; rw [x_up_ne (by omega), x_clr_ne (by omega)]
  · intro b j h1 h2; rw [x_clr_ne (by omega), x_up_ne (by omega)]
  · rw [x_up_self]
  · rw [x_clr_ne (by omega), x_up_self]
def x_HB (o : Int) : Prop := ∀ i, 0 ≤ i → i < 154 → x_kd (o + i) = x_tk i ∧ x_ln (o + i) = x_tl i
theorem hb_main : x_HB 1 := fun i h1 h2 => ⟨kd_main rfl rfl ⟨h1, h2⟩, ln_main rfl rfl ⟨h1, h2⟩⟩
theorem hb_img {j : Int} (hj : 0 ≤ j) : x_HB (170 + 154 * j) := fun i h1 h2 => ⟨kd_img rfl rfl ⟨h1, h2⟩ hj, ln_img rfl rfl ⟨h1, h2⟩ hj⟩
theorem x_kb {o a i : Int} {c : Nat} (hb : x_HB o) (h : x_tk i = c) (ha : a = o + i) (h0 : 0 ≤ i ∧ i < 154) : x_kd a = c := by rw [ha, (hb i h0.1 h0.2).1, h]
theorem x_lb {o a i c : Int} (hb : x_HB o) (h : x_tl i = c) (ha : a = o + i) (h0 : 0 ≤ i ∧ i < 154) : x_ln a = c := by rw [ha, (hb i h0.1 h0.2).2, h]
theorem x_up_no {f : Int → Int → Int} {a k v b j : Int} (h : ¬ (b = a ∧ j = k)) : x_up f a k v b j = f b j := if_neg h
def x_T1 (o n : Int) (P M P0 M0 : Int → Int → Int) : Prop := P o 0 = o + 1 ∧ (∀ s, 0 ≤ s ∧ s < n → (P (o + 1) s = o + 2 + 7 * s ∧ P (o + 2 + 7 * s) 2 = o + 3 + 7 * s ∧ P (o + 2 + 7 * s) 3 = o + 4 + 7 * s ∧ P (o + 2 + 7 * s) 4 = o + 5 + 7 * s ∧ P (o + 2 + 7 * s) 8 = o + 6 + 7 * s ∧ P (o + 6 + 7 * s) 1 = o + 7 + 7 * s ∧ P (o + 6 + 7 * s) 2 = o + 8 + 7 * s) ∧ M (o + 2 + 7 * s) 0 = s ∧ M (o + 6 + 7 * s) 0 = 0) ∧ (M o 1 = 0 ∧ M o 3 = 0 ∧ M o 5 = 0 ∧ M o 6 = 0) ∧ ∀ b j, b < o → P b j = P0 b j ∧ M b j = M0 b j
def x_T2 (o n : Int) (P M P0 M0 : Int → Int → Int) : Prop := x_T1 o 12 P M P0 M0 ∧ P o 2 = o + 86 ∧ ∀ w, 0 ≤ w ∧ w < n → P (o + 86) w = o + 87 + w ∧ M (o + 87 + w) 0 = w ∧ M (o + 87 + w) 7 = 0 ∧ M (o + 87 + w) 8 = 0
def x_T3 (o n : Int) (P M P0 M0 : Int → Int → Int) : Prop := x_T2 o 60 P M P0 M0 ∧ P o 4 = o + 147 ∧ ∀ c, 0 ≤ c ∧ c < n → (P (o + 147) c = o + 148 + 2 * c ∧ P (o + 148 + 2 * c) 5 = o + 149 + 2 * c) ∧ M (o + 148 + 2 * c) 0 = c
theorem t1_fr {o n m : Int} {P M P' M' P0 M0 : Int → Int → Int} (h : x_T1 o n P M P0 M0) (hm : 2 + 7 * n + o ≤ m) (fP : ∀ b j, b < m → ¬ (b = o ∧ 1 ≤ j) → P' b j = P b j ∨ b = 1 + o ∧ n ≤ j) (fM : ∀ b j, b < m → M' b j = M b j) (hn : 0 ≤ n) : x_T1 o n P' M' P0 M0 := by
  have g : ∀ b j, b < m → ¬ (b = o ∧ 1 ≤ j) → ¬ (b = 1 + o ∧ n ≤ j) → P' b j = P b j := fun b j h1 h2 h3 => (fP b j h1 h2).resolve_right h3
  refine ⟨(g _ _ (by omega) (by omega) (by omega)).trans h.1, fun s hs => ?_, ⟨(fM _ _ (by omega)).trans h.2.2.1.1, (fM _ _ (by omega)).trans h.2.2.1.2.1, (fM _ _ (by omega)).trans h.2.2.1.2.2.1, (fM _ _ (by omega)).trans h.2.2.1.2.2.2⟩, fun b j hb => ⟨(g _ _ (by omega) (by omega) (by omega)).trans (h.2.2.2 b j hb).1, (fM _ _ (by omega)).trans (h.2.2.2 b j hb).2⟩⟩
  obtain ⟨⟨a1, a2, a3, a4, a5, a6, a7⟩, a8⟩ := h.2.1 s hs
  exact ⟨⟨(g _ _ (by omega) (by omega) (by omega)).trans a1, (g _ _ (by omega) (by omega) (by omega)).trans a2, (g _ _ (by omega) (by omega) (by omega)).trans a3, (g _ _ (by omega) (by omega) (by omega)).trans a4, (g _ _ (by omega) (by omega) (by omega)).trans a5, (g _ _ (by omega) (by omega) (by omega)).trans a6, (g _ _ (by omega) (by omega) (by omega)).trans a7⟩, (fM _ _ (by omega)).trans a8.1, (fM _ _ (by omega)).trans a8.2⟩
theorem t2_fr {o n m : Int} {P M P' M' P0 M0 : Int → Int → Int} (h : x_T2 o n P M P0 M0) (hm : 87 + n + o ≤ m) (fP : ∀ b j, b < m → ¬ (b = o ∧ 3 ≤ j) → P' b j = P b j ∨ b = 86 + o ∧ n ≤ j) (fM : ∀ b j, b < m → M' b j = M b j) (hn : 0 ≤ n) : x_T2 o n P' M' P0 M0 := by
  have g : ∀ b j, b < m → ¬ (b = o ∧ 3 ≤ j) → ¬ (b = 86 + o ∧ n ≤ j) → P' b j = P b j := fun b j h1 h2 h3 => (fP b j h1 h2).resolve_right h3
  obtain ⟨h1, h2, h3⟩ := h
  refine ⟨?_, (g _ _ (by omega) (by omega) (by omega)).trans h2, fun w hw => ⟨(g _ _ (by omega) (by omega) (by omega)).trans (h3 w hw).1, (fM _ _ (by omega)).trans (h3 w hw).2.1, (fM _ _ (by omega)).trans (h3 w hw).2.2.1, (fM _ _ (by omega)).trans (h3 w hw).2.2.2⟩⟩
  obtain ⟨a1, a2, a3, a4⟩ := h1
  refine ⟨(g _ _ (by omega) (by omega) (by omega)).trans a1, fun s hs => ?_, ⟨(fM _ _ (by omega)).trans a3.1, (fM _ _ (by omega)).trans a3.2.1, (fM _ _ (by omega)).trans a3.2.2.1, (fM _ _ (by omega)).trans a3.2.2.2⟩, fun b j hb => ⟨(g _ _ (by omega) (by omega) (by omega)).trans (a4 b j hb).1, (fM _ _ (by omega)).trans (a4 b j hb).2⟩⟩
  obtain ⟨⟨b1, b2, b3, b4, b5, b6, b7⟩, b8⟩ := a2 s hs
  exact ⟨⟨(g _ _ (by omega) (by omega) (by omega)).trans b1, (g _ _ (by omega) (by omega) (by omega)).trans b2, (g _ _ (by omega) (by omega) (by omega)).trans b3, (g _ _ (by omega) (by omega) (by omega)).trans b4, (g _ _ (by omega) (by omega) (by omega)).trans b5, (g _ _ (by omega) (by omega) (by omega)).trans b6, (g _ _ (by omega) (by omega) (by omega)).trans b7⟩, (fM _ _ (by omega)).trans b8.1, (fM _ _ (by omega)).trans b8.2⟩
theorem c_tw1 {o : Int} {P0 M0 : Int → Int → Int} {r : Option xV × xH → Prop} (ho : 0 ≤ o ∧ x_kd o = 4) (hb : x_HB o) (kk : ∀ P M, x_T1 o 12 P M P0 M0 → x_Ev 38 21 [.inr (o), .inl 12] [] (68, 708) (86 + o, P, M) r) : ∀ (k : Nat) (i : Int) (P M : Int → Int → Int), i + k = 12 → 0 ≤ i → x_T1 o i P M P0 M0 → x_Ev 38 8 [.inr (o), .inl (i)] [] (7 * k + 68, 92 * k + 708) (2 + 7 * i + o, P, M) r := by
  have hk1 : x_kd (1 + o) = 11 := x_kb hb (show x_tk 1 = 11 by decide) (by omega) (by omega)
  have hl1 : x_ln (1 + o) = 12 := x_lb hb (show x_tl 1 = 12 by decide) (by omega) (by omega)
  intro k
  induction k with
  | zero =>
    intro i P M he hi hT
    have hi2 : i = 12 := by omega
    subst hi2
    show x_Ev 38 8 [.inr (o), .inl 12] [] (68, 708) (2 + 7 * 12 + o, P, M) _
    refine e_iload (k := 8) (xi38 8) rfl ?_
    refine e_iconst (k := 9) (xi38 9) ?_
    refine e_c_ge (k := 10) (xi38 10) (fun _ => ?_) (fun q => absurd (by omega) q)
    rw [show 2 + 7 * 12 + o = 86 + o by omega]
    exact kk _ _ hT
  | succ k ih =>
    intro i P M he hi hT
    rw [show 7 * (k + 1) + 68 = 7 * k + 68 + 6 + 1 by omega, show 92 * (k + 1) + 708 = 92 * k + 708 + 83 + 9 by omega]
    have hk0 : x_kd (2 + 7 * i + o) = 2 := (x_kb hb (tk_st (i := i) ⟨by omega, by omega⟩) (by omega) ⟨by omega, by omega⟩)
    refine e_iload (k := 8) (xi38 8) rfl ?_
    refine e_iconst (k := 9) (xi38 9) ?_
    refine e_c_ge (k := 10) (xi38 10) (fun q => absurd q (by omega)) (fun _ => ?_)
    refine e_aload (k := 11) (xi38 11) rfl (by omega) ?_
    refine e_getR (j := 0) (w := 1 + o) (k := 12) (xi38 12) ⟨by omega, by omega, ho.2⟩ rfl (hT.1.trans (by omega)) ?_
    refine e_iload (k := 13) (xi38 13) rfl ?_
    refine e_new (b1 := 7 * k + 68 + 6) (b2 := 92 * k + 708 + 83) (u0 := 9)  (k := 14) (xi38 14) ⟨hk0, by decide, rfl⟩ ?_
    show x_Ev 38 15 [.inr (o), .inl (i)] [.inr (2 + 7 * i + o), .inl (i), .inr (1 + o)] (7 * k + 68 + 6, 92 * k + 708 + 83) (2 + 7 * i + o + 1, (x_clr P (2 + 7 * i + o) (-1)), (x_clr M (2 + 7 * i + o) 0)) _
    rw [show (2 + 7 * i + o + 1 : Int) = 3 + 7 * i + o by omega]
    refine e_dup (k := 15) (xi38 15) ?_
    refine e_iload (k := 16) (xi38 16) rfl ?_
    refine e_callR (k := 17) (c1 := 7 * k + 68) (c2 := 92 * k + 708) (rest := [.inr (2 + 7 * i + o), .inl (i), .inr (1 + o)]) (as := [.inr (2 + 7 * i + o), .inl (i)]) (xi38 17) (by decide) xm14 rfl ⟨rfl, Nat.le_of_ble_eq_true rfl, by decide⟩ (Or.inr (x_okt ⟨by omega, by omega, hk0⟩)) (c_stand (z := 3 + 7 * i + o) (a := 2 + 7 * i + o) (n := i) (P := (x_clr P (2 + 7 * i + o) (-1))) (M := (x_clr M (2 + 7 * i + o) 0)) ⟨by omega, by omega, hk0⟩ ⟨(x_kb hb (tk_con (i := i) ⟨by omega, by omega⟩) (by omega) ⟨by omega, by omega⟩), (x_lb hb (tl_con (i := i) ⟨by omega, by omega⟩) (by omega) ⟨by omega, by omega⟩)⟩ ⟨(x_kb hb (tk_len (i := i) ⟨by omega, by omega⟩) (by omega) ⟨by omega, by omega⟩), (x_lb hb (tl_len (i := i) ⟨by omega, by omega⟩) (by omega) ⟨by omega, by omega⟩)⟩ ⟨(x_kb hb (tk_oth (i := i) ⟨by omega, by omega⟩) (by omega) ⟨by omega, by omega⟩), (x_lb hb (tl_oth (i := i) ⟨by omega, by omega⟩) (by omega) ⟨by omega, by omega⟩)⟩ (x_kb hb (tk_dem (i := i) ⟨by omega, by omega⟩) (by omega) ⟨by omega, by omega⟩) ⟨(x_kb hb (tk_br (i := i) ⟨by omega, by omega⟩) (by omega) ⟨by omega, by omega⟩), (x_lb hb (tl_br (i := i) ⟨by omega, by omega⟩) (by omega) ⟨by omega, by omega⟩)⟩ ⟨(x_kb hb (tk_wa (i := i) ⟨by omega, by omega⟩) (by omega) ⟨by omega, by omega⟩), (x_lb hb (tl_wa (i := i) ⟨by omega, by omega⟩) (by omega) ⟨by omega, by omega⟩)⟩) ?_
    rintro v h1 ⟨P1, M1, hq, f1, f2, g2, g3, g4, g8, g9, g10, g11, g12⟩
    cases hq
    rw [show 6 + (3 + 7 * i + o) = 9 + 7 * i + o by omega]
    show x_Ev 38 18 [.inr (o), .inl (i)] [.inr (2 + 7 * i + o), .inl (i), .inr (1 + o)] (7 * k + 68, 92 * k + 708) (9 + 7 * i + o, P1, M1) _
    refine e_aast (k := 18) (xi38 18) ⟨by omega, by omega, hk1, by decide, by decide⟩ (by rw [hl1]; omega) ⟨by omega, by omega, hk0⟩ ?_
    refine e_iinc (w := 1 + i) (k := 19) (xi38 19) rfl (x_wn (by omega)) ?_
    show x_Ev 38 20 [.inr (o), .inl (1 + i)] [] (7 * k + 68, 92 * k + 708) (9 + 7 * i + o, (x_up P1 (1 + o) i (2 + 7 * i + o)), M1) _
    refine e_goto (k := 20) (xi38 20) ?_
    rw [show 9 + 7 * i + o = 2 + 7 * (1 + i) + o by omega]
    have fP : ∀ b j, b < 2 + 7 * i + o → ¬ (b = o + 1 ∧ j = i) → (x_up P1 (1 + o) i (2 + 7 * i + o)) b j = P b j := by
      intro b j h1 h2
      rw [x_up_no (by omega), f1 _ _ (by omega) (by omega), x_clr_ne (by omega)]
    have fM : ∀ b j, b < 2 + 7 * i + o → M1 b j = M b j := by
      intro b j h1
      rw [f2 _ _ (by omega) (by omega), x_clr_ne (by omega)]
    refine ih (1 + i) _ _ (by omega) (by omega) ?_
    have hT' := t1_fr (m := 2 + 7 * i + o) hT (by omega) (fun b j h1 h2 => by
      by_cases q : b = o + 1 ∧ j = i
      · exact Or.inr (by omega)
      · exact Or.inl (fP b j h1 q)) fM hi
    refine ⟨hT'.1, fun s hs => ?_, hT'.2.2⟩
    by_cases q : s = i
    · subst q
      exact ⟨⟨x_Pe x_up_self (by omega) (by omega), x_Pe ((x_up_ne (by omega)).trans g2) (by omega) (by omega), x_Pe ((x_up_ne (by omega)).trans g3) (by omega) (by omega), x_Pe ((x_up_ne (by omega)).trans g4) (by omega) (by omega), x_Pe ((x_up_ne (by omega)).trans g8) (by omega) (by omega), x_Pe ((x_up_ne (by omega)).trans g9) (by omega) (by omega), x_Pe ((x_up_ne (by omega)).trans g10) (by omega) (by omega)⟩, x_Pe g11 (by omega) (by omega), x_Pe g12 (by omega) rfl⟩
    · exact hT'.2.1 s (by omega)
theorem c_tw2 {o : Int} {P0 M0 : Int → Int → Int} {r : Option xV × xH → Prop} (ho : 0 ≤ o ∧ x_kd o = 4) (hb : x_HB o) (kk : ∀ P M, x_T2 o 60 P M P0 M0 → x_Ev 38 40 [.inr (o), .inl 60] [] (7, 48) (147 + o, P, M) r) : ∀ (k : Nat) (i : Int) (P M : Int → Int → Int), i + k = 60 → 0 ≤ i → x_T2 o i P M P0 M0 → x_Ev 38 27 [.inr (o), .inl (i)] [] (1 * k + 7, 10 * k + 48) (87 + i + o, P, M) r := by
  have hk1 : x_kd (86 + o) = 13 := x_kb hb (show x_tk 86 = 13 by decide) (by omega) (by omega)
  have hl1 : x_ln (86 + o) = 60 := x_lb hb (show x_tl 86 = 60 by decide) (by omega) (by omega)
  intro k
  induction k with
  | zero =>
    intro i P M he hi hT
    have hi2 : i = 60 := by omega
    subst hi2
    show x_Ev 38 27 [.inr (o), .inl 60] [] (7, 48) (87 + 60 + o, P, M) _
    refine e_iload (k := 27) (xi38 27) rfl ?_
    refine e_iconst (k := 28) (xi38 28) ?_
    refine e_c_ge (k := 29) (xi38 29) (fun _ => ?_) (fun q => absurd (by omega) q)
    rw [show 87 + 60 + o = 147 + o by omega]
    exact kk _ _ hT
  | succ k ih =>
    intro i P M he hi hT
    rw [show 1 * (k + 1) + 7 = 1 * k + 7 + 0 + 1 by omega, show 10 * (k + 1) + 48 = 10 * k + 48 + 0 + 10 by omega]
    have hk0 : x_kd (87 + i + o) = 5 := (x_kb hb (tk_wh (i := i) ⟨by omega, by omega⟩) (by omega) ⟨by omega, by omega⟩)
    refine e_iload (k := 27) (xi38 27) rfl ?_
    refine e_iconst (k := 28) (xi38 28) ?_
    refine e_c_ge (k := 29) (xi38 29) (fun q => absurd q (by omega)) (fun _ => ?_)
    refine e_aload (k := 30) (xi38 30) rfl (by omega) ?_
    refine e_getR (j := 2) (w := 86 + o) (k := 31) (xi38 31) ⟨by omega, by omega, ho.2⟩ rfl (hT.2.1.trans (by omega)) ?_
    refine e_iload (k := 32) (xi38 32) rfl ?_
    refine e_new (b1 := 1 * k + 7 + 0) (b2 := 10 * k + 48 + 0) (u0 := 10)  (k := 33) (xi38 33) ⟨hk0, by decide, rfl⟩ ?_
    show x_Ev 38 34 [.inr (o), .inl (i)] [.inr (87 + i + o), .inl (i), .inr (86 + o)] (1 * k + 7 + 0, 10 * k + 48 + 0) (87 + i + o + 1, (x_clr P (87 + i + o) (-1)), (x_clr M (87 + i + o) 0)) _
    rw [show (87 + i + o + 1 : Int) = 88 + i + o by omega]
    refine e_dup (k := 34) (xi38 34) ?_
    refine e_iload (k := 35) (xi38 35) rfl ?_
    refine e_callR (k := 36) (c1 := 1 * k + 7) (c2 := 10 * k + 48) (rest := [.inr (87 + i + o), .inl (i), .inr (86 + o)]) (as := [.inr (87 + i + o), .inl (i)]) (xi38 36) (by decide) xm65 rfl ⟨rfl, Nat.le_of_ble_eq_true rfl, by decide⟩ (Or.inr (x_okt ⟨by omega, by omega, hk0⟩)) (c_wheel (z := 88 + i + o) (a := 87 + i + o) (n := i) (P := (x_clr P (87 + i + o) (-1))) (M := (x_clr M (87 + i + o) 0)) ⟨by omega, by omega, hk0⟩) ?_
    rintro v h1 hq
    cases hq
    show x_Ev 38 37 [.inr (o), .inl (i)] [.inr (87 + i + o), .inl (i), .inr (86 + o)] (1 * k + 7, 10 * k + 48) (88 + i + o, (x_clr P (87 + i + o) (-1)), (x_up (x_clr M (87 + i + o) 0) (87 + i + o) 0 i)) _
    refine e_aast (k := 37) (xi38 37) ⟨by omega, by omega, hk1, by decide, by decide⟩ (by rw [hl1]; omega) ⟨by omega, by omega, hk0⟩ ?_
    refine e_iinc (w := 1 + i) (k := 38) (xi38 38) rfl (x_wn (by omega)) ?_
    show x_Ev 38 39 [.inr (o), .inl (1 + i)] [] (1 * k + 7, 10 * k + 48) (88 + i + o, (x_up (x_clr P (87 + i + o) (-1)) (86 + o) i (87 + i + o)), (x_up (x_clr M (87 + i + o) 0) (87 + i + o) 0 i)) _
    refine e_goto (k := 39) (xi38 39) ?_
    rw [show 88 + i + o = 87 + (1 + i) + o by omega]
    have fP : ∀ b j, b < 87 + i + o → ¬ (b = o + 86 ∧ j = i) → (x_up (x_clr P (87 + i + o) (-1)) (86 + o) i (87 + i + o)) b j = P b j := by
      intro b j h1 h2
      rw [x_up_no (by omega), x_clr_ne (by omega)]
    have fM : ∀ b j, b < 87 + i + o → (x_up (x_clr M (87 + i + o) 0) (87 + i + o) 0 i) b j = M b j := by
      intro b j h1
      rw [x_up_ne (by omega), x_clr_ne (by omega)]
    refine ih (1 + i) _ _ (by omega) (by omega) ?_
    have hT' := t2_fr (m := 87 + i + o) hT (by omega) (fun b j h1 h2 => by
      by_cases q : b = o + 86 ∧ j = i
      · exact Or.inr (by omega)
      · exact Or.inl (fP b j h1 q)) fM hi
    refine ⟨hT'.1, hT'.2.1, fun s hs => ?_⟩
    by_cases q : s = i
    · subst q
      exact ⟨x_Pe x_up_self (by omega) (by omega), x_Pe x_up_self (by omega) (by omega), x_Pe ((x_up_nk (by omega)).trans x_clr_self) (by omega) rfl, x_Pe ((x_up_nk (by omega)).trans x_clr_self) (by omega) rfl⟩
    · exact hT'.2.2 s (by omega)
theorem c_tw3 {o : Int} {P0 M0 : Int → Int → Int} {r : Option xV × xH → Prop} (ho : 0 ≤ o ∧ x_kd o = 4) (hb : x_HB o) (kk : ∀ P M, x_T3 o 3 P M P0 M0 → x_Ev 38 59 [.inr (o), .inl 3] [] (0, 0) (154 + o, P, M) r) : ∀ (k : Nat) (i : Int) (P M : Int → Int → Int), i + k = 3 → 0 ≤ i → x_T3 o i P M P0 M0 → x_Ev 38 46 [.inr (o), .inl (i)] [] (2 * k + 0, 15 * k + 0) (148 + 2 * i + o, P, M) r := by
  have hk1 : x_kd (147 + o) = 10 := x_kb hb (show x_tk 147 = 10 by decide) (by omega) (by omega)
  have hl1 : x_ln (147 + o) = 3 := x_lb hb (show x_tl 147 = 3 by decide) (by omega) (by omega)
  intro k
  induction k with
  | zero =>
    intro i P M he hi hT
    have hi2 : i = 3 := by omega
    subst hi2
    show x_Ev 38 46 [.inr (o), .inl 3] [] (0, 0) (148 + 2 * 3 + o, P, M) _
    refine e_iload (k := 46) (xi38 46) rfl ?_
    refine e_iconst (k := 47) (xi38 47) ?_
    refine e_c_ge (k := 48) (xi38 48) (fun _ => ?_) (fun q => absurd (by omega) q)
    rw [show 148 + 2 * 3 + o = 154 + o by omega]
    exact kk _ _ hT
  | succ k ih =>
    intro i P M he hi hT
    rw [show 2 * (k + 1) + 0 = 2 * k + 0 + 1 + 1 by omega, show 15 * (k + 1) + 0 = 15 * k + 0 + 8 + 7 by omega]
    have hk0 : x_kd (148 + 2 * i + o) = 0 := (x_kb hb (tk_ca (i := i) ⟨by omega, by omega⟩) (by omega) ⟨by omega, by omega⟩)
    refine e_iload (k := 46) (xi38 46) rfl ?_
    refine e_iconst (k := 47) (xi38 47) ?_
    refine e_c_ge (k := 48) (xi38 48) (fun q => absurd q (by omega)) (fun _ => ?_)
    refine e_aload (k := 49) (xi38 49) rfl (by omega) ?_
    refine e_getR (j := 4) (w := 147 + o) (k := 50) (xi38 50) ⟨by omega, by omega, ho.2⟩ rfl (hT.2.1.trans (by omega)) ?_
    refine e_iload (k := 51) (xi38 51) rfl ?_
    refine e_new (b1 := 2 * k + 0 + 1) (b2 := 15 * k + 0 + 8) (u0 := 7)  (k := 52) (xi38 52) ⟨hk0, by decide, rfl⟩ ?_
    show x_Ev 38 53 [.inr (o), .inl (i)] [.inr (148 + 2 * i + o), .inl (i), .inr (147 + o)] (2 * k + 0 + 1, 15 * k + 0 + 8) (148 + 2 * i + o + 1, (x_clr P (148 + 2 * i + o) (-1)), (x_clr M (148 + 2 * i + o) 0)) _
    rw [show (148 + 2 * i + o + 1 : Int) = 149 + 2 * i + o by omega]
    refine e_dup (k := 53) (xi38 53) ?_
    refine e_iload (k := 54) (xi38 54) rfl ?_
    refine e_callR (k := 55) (c1 := 2 * k + 0) (c2 := 15 * k + 0) (rest := [.inr (148 + 2 * i + o), .inl (i), .inr (147 + o)]) (as := [.inr (148 + 2 * i + o), .inl (i)]) (xi38 55) (by decide) xm0 rfl ⟨rfl, Nat.le_of_ble_eq_true rfl, by decide⟩ (Or.inr (x_okt ⟨by omega, by omega, hk0⟩)) (c_cart (z := 149 + 2 * i + o) (a := 148 + 2 * i + o) (n := i) (P := (x_clr P (148 + 2 * i + o) (-1))) (M := (x_clr M (148 + 2 * i + o) 0)) ⟨by omega, by omega, hk0⟩ ⟨(x_kb hb (tk_row (i := i) ⟨by omega, by omega⟩) (by omega) ⟨by omega, by omega⟩), (x_lb hb (tl_row (i := i) ⟨by omega, by omega⟩) (by omega) ⟨by omega, by omega⟩)⟩) ?_
    rintro v h1 ⟨P1, M1, hq, f1, f2, g5, g6⟩
    cases hq
    rw [show 1 + (149 + 2 * i + o) = 150 + 2 * i + o by omega]
    show x_Ev 38 56 [.inr (o), .inl (i)] [.inr (148 + 2 * i + o), .inl (i), .inr (147 + o)] (2 * k + 0, 15 * k + 0) (150 + 2 * i + o, P1, M1) _
    refine e_aast (k := 56) (xi38 56) ⟨by omega, by omega, hk1, by decide, by decide⟩ (by rw [hl1]; omega) ⟨by omega, by omega, hk0⟩ ?_
    refine e_iinc (w := 1 + i) (k := 57) (xi38 57) rfl (x_wn (by omega)) ?_
    show x_Ev 38 58 [.inr (o), .inl (1 + i)] [] (2 * k + 0, 15 * k + 0) (150 + 2 * i + o, (x_up P1 (147 + o) i (148 + 2 * i + o)), M1) _
    refine e_goto (k := 58) (xi38 58) ?_
    rw [show 150 + 2 * i + o = 148 + 2 * (1 + i) + o by omega]
    have fP : ∀ b j, b < 148 + 2 * i + o → ¬ (b = o + 147 ∧ j = i) → (x_up P1 (147 + o) i (148 + 2 * i + o)) b j = P b j := by
      intro b j h1 h2
      rw [x_up_no (by omega), f1 _ _ (by omega) (by omega), x_clr_ne (by omega)]
    have fM : ∀ b j, b < 148 + 2 * i + o → M1 b j = M b j := by
      intro b j h1
      rw [f2 _ _ (by omega) (by omega), x_clr_ne (by omega)]
    refine ih (1 + i) _ _ (by omega) (by omega) ?_
    have hT' := t2_fr (m := 147 + o) hT.1 (by omega) (fun b j h1 h2 => Or.inl (fP b j (by omega) (by omega))) (fun b j h => fM b j (by omega)) (by omega)
    refine ⟨hT', (fP _ _ (by omega) (by omega)).trans hT.2.1, fun s hs => ?_⟩
    by_cases q : s = i
    · subst q
      exact ⟨⟨x_Pe x_up_self (by omega) (by omega), x_Pe ((x_up_ne (by omega)).trans g5) (by omega) (by omega)⟩, x_Pe g6 (by omega) (by omega)⟩
    · obtain ⟨⟨a1, a2⟩, a3⟩ := hT.2.2 s (by omega)
      exact ⟨⟨(fP _ _ (by omega) (by omega)).trans a1, (fP _ _ (by omega) (by omega)).trans a2⟩, (fM _ _ (by omega)).trans a3⟩
theorem c_town {o : Int} {P M : Int → Int → Int} (ho : 0 ≤ o ∧ x_kd o = 4) (hb : x_HB o) (hM : M o 1 = 0 ∧ M o 3 = 0 ∧ M o 5 = 0 ∧ M o 6 = 0) : x_CallR 38 [.inr (o)] (1 + o, P, M) (fun q => ∃ P1 M1, q = (none, (154 + o, P1, M1)) ∧ x_T3 o 3 P1 M1 P M) := by
  refine e_body (ls0 := [.inr (o), x_un]) xm38 rfl ?_
  refine e_aload (k := 0) (xi38 0) rfl (by omega) ?_
  refine e_oinit (k := 1) (xi38 1) ⟨by omega, by omega, Nat.le_of_ble_eq_true rfl⟩ ?_
  refine e_aload (k := 2) (xi38 2) rfl (by omega) ?_
  refine e_iconst (k := 3) (xi38 3) ?_
  refine e_newQ (b1 := 152) (b2 := 1812) (u0 := 12)  (k := 4) (xi38 4) ⟨(x_kb hb (show x_tk 1 = 11 by decide) (by omega) (by omega)), by decide, by decide, (x_lb hb (show x_tl 1 = 12 by decide) (by omega) (by omega)), by omega, by omega⟩ rfl ?_
  show x_Ev 38 5 [.inr (o), x_un] [.inr (1 + o), .inr (o)] (152, 1812) (1 + o + 1, (x_clr P (1 + o) (-1)), (x_clr M (1 + o) 0)) _
  rw [show (1 + o + 1 : Int) = 2 + o by omega]
  refine e_putR (j := 0) (k := 5) (xi38 5) ⟨by omega, by omega, ho.2⟩ rfl (by omega) ?_
  refine e_iconst (k := 6) (xi38 6) ?_
  refine e_istore (k := 7) (xi38 7) (Nat.le_of_ble_eq_true rfl) ?_
  show x_Ev 38 8 [.inr (o), .inl 0] [] (152, 1812) (2 + o, (x_up (x_clr P (1 + o) (-1)) o 0 (1 + o)), (x_clr M (1 + o) 0)) _
  rw [show 2 + o = 2 + 7 * 0 + o by omega]
  refine c_tw1 (P0 := P) (M0 := M) ⟨ho.1, ho.2⟩ hb (fun P1 M1 hT1 => ?_) 12 0 _ _ (by omega) (by omega) ?_
  rotate_left
  · have fM : ∀ b j, b < 1 + o → (x_clr M (1 + o) 0) b j = M b j := by
      intro b j h1
      rw [x_clr_ne (by omega)]
    refine ⟨x_Pe x_up_self (by omega) (by omega), fun s hs => absurd hs (by omega), ⟨(fM _ _ (by omega)).trans hM.1, (fM _ _ (by omega)).trans hM.2.1, (fM _ _ (by omega)).trans hM.2.2.1, (fM _ _ (by omega)).trans hM.2.2.2⟩, fun b j h => ⟨?_, fM b j (by omega)⟩⟩
    rw [x_up_ne (by omega), x_clr_ne (by omega)]
  · skip
    refine e_aload (k := 21) (xi38 21) rfl (by omega) ?_
    refine e_iconst (k := 22) (xi38 22) ?_
    refine e_newQ (b1 := 67) (b2 := 648) (u0 := 60)  (k := 23) (xi38 23) ⟨(x_kb hb (show x_tk 86 = 13 by decide) (by omega) (by omega)), by decide, by decide, (x_lb hb (show x_tl 86 = 60 by decide) (by omega) (by omega)), by omega, by omega⟩ rfl ?_
    show x_Ev 38 24 [.inr (o), .inl 12] [.inr (86 + o), .inr (o)] (67, 648) (86 + o + 1, (x_clr P1 (86 + o) (-1)), (x_clr M1 (86 + o) 0)) _
    rw [show (86 + o + 1 : Int) = 87 + o by omega]
    refine e_putR (j := 2) (k := 24) (xi38 24) ⟨by omega, by omega, ho.2⟩ rfl (by omega) ?_
    refine e_iconst (k := 25) (xi38 25) ?_
    refine e_istore (k := 26) (xi38 26) (Nat.le_of_ble_eq_true rfl) ?_
    show x_Ev 38 27 [.inr (o), .inl 0] [] (67, 648) (87 + o, (x_up (x_clr P1 (86 + o) (-1)) o 2 (86 + o)), (x_clr M1 (86 + o) 0)) _
    rw [show 87 + o = 87 + 0 + o by omega]
    refine c_tw2 (P0 := P) (M0 := M) ⟨ho.1, ho.2⟩ hb (fun P2 M2 hT2 => ?_) 60 0 _ _ (by omega) (by omega) ?_
    rotate_left
    · have hT' := t1_fr (P' := (x_up (x_clr P1 (86 + o) (-1)) o 2 (86 + o))) (M' := (x_clr M1 (86 + o) 0)) (m := 86 + o) hT1 (by omega) (fun b j h1 h2 => Or.inl (by rw [x_up_no (by omega), x_clr_ne (by omega)])) (fun b j h1 => by rw [x_clr_ne (by omega)]) (by omega)
      exact ⟨hT', x_Pe x_up_self (by omega) (by omega), fun s hs => absurd hs (by omega)⟩
    · skip
      refine e_aload (k := 40) (xi38 40) rfl (by omega) ?_
      refine e_iconst (k := 41) (xi38 41) ?_
      refine e_newQ (b1 := 6) (b2 := 45) (u0 := 3)  (k := 42) (xi38 42) ⟨(x_kb hb (show x_tk 147 = 10 by decide) (by omega) (by omega)), by decide, by decide, (x_lb hb (show x_tl 147 = 3 by decide) (by omega) (by omega)), by omega, by omega⟩ rfl ?_
      show x_Ev 38 43 [.inr (o), .inl 60] [.inr (147 + o), .inr (o)] (6, 45) (147 + o + 1, (x_clr P2 (147 + o) (-1)), (x_clr M2 (147 + o) 0)) _
      rw [show (147 + o + 1 : Int) = 148 + o by omega]
      refine e_putR (j := 4) (k := 43) (xi38 43) ⟨by omega, by omega, ho.2⟩ rfl (by omega) ?_
      refine e_iconst (k := 44) (xi38 44) ?_
      refine e_istore (k := 45) (xi38 45) (Nat.le_of_ble_eq_true rfl) ?_
      show x_Ev 38 46 [.inr (o), .inl 0] [] (6, 45) (148 + o, (x_up (x_clr P2 (147 + o) (-1)) o 4 (147 + o)), (x_clr M2 (147 + o) 0)) _
      rw [show 148 + o = 148 + 2 * 0 + o by omega]
      refine c_tw3 (P0 := P) (M0 := M) ⟨ho.1, ho.2⟩ hb (fun P3 M3 hT3 => ?_) 3 0 _ _ (by omega) (by omega) ?_
      rotate_left
      · have hT' := t2_fr (P' := (x_up (x_clr P2 (147 + o) (-1)) o 4 (147 + o))) (M' := (x_clr M2 (147 + o) 0)) (m := 147 + o) hT2 (by omega) (fun b j h1 h2 => Or.inl (by rw [x_up_no (by omega), x_clr_ne (by omega)])) (fun b j h1 => by rw [x_clr_ne (by omega)]) (by omega)
        exact ⟨hT', x_Pe x_up_self (by omega) (by omega), fun s hs => absurd hs (by omega)⟩
      · refine e_vret (k := 59) (xi38 59) ⟨P3, M3, rfl, hT3⟩
theorem t3_TP {o : Int} {P M P0 M0 : Int → Int → Int} (h : x_T3 o 3 P M P0 M0) : x_TP o P := ⟨⟨h.1.1.1, h.1.2.1, h.2.1⟩, fun s hs => (h.1.1.2.1 s hs).1, h.1.2.2 |> fun g w hw => (g w hw).1, fun c hc => (h.2.2 c hc).1⟩
/-- a town's numbers and counts, as they are at first -/
def x_TM (o : Int) (M : Int → Int → Int) : Prop := (∀ s, 0 ≤ s ∧ s < 12 → M (o + 2 + 7 * s) 0 = s) ∧ (∀ w, 0 ≤ w ∧ w < 60 → M (o + 87 + w) 0 = w) ∧ (∀ c, 0 ≤ c ∧ c < 3 → M (o + 148 + 2 * c) 0 = c)
def x_TZ (o : Int) (M : Int → Int → Int) : Prop := (∀ s, 0 ≤ s ∧ s < 12 → M (o + 6 + 7 * s) 0 = 0 ∨ M (o + 6 + 7 * s) 0 = 1) ∧ ∀ w, 0 ≤ w ∧ w < 60 → (M (o + 87 + w) 7 = 0 ∨ M (o + 87 + w) 7 = 1) ∧ (M (o + 87 + w) 8 = 0 ∨ M (o + 87 + w) 8 = 1)
theorem t3_TZ {o : Int} {P M P0 M0 : Int → Int → Int} (h : x_T3 o 3 P M P0 M0) : x_TZ o M := ⟨fun s hs => Or.inl (h.1.1.2.1 s hs).2.2, fun w hw => ⟨Or.inl (h.1.2.2 w hw).2.2.1, Or.inl (h.1.2.2 w hw).2.2.2⟩⟩
theorem tz_fr {o : Int} {M M' : Int → Int → Int} (h : x_TZ o M) (f : ∀ b j, o ≤ b → b < 154 + o → M' b j = M b j) : x_TZ o M' := by
  refine ⟨fun s hs => ?_, fun w hw => ?_⟩
  · rw [f _ _ (by omega) (by omega)]; exact h.1 s hs
  · rw [f _ _ (by omega) (by omega), f _ _ (by omega) (by omega)]; exact h.2 w hw
theorem t3_TM {o : Int} {P M P0 M0 : Int → Int → Int} (h : x_T3 o 3 P M P0 M0) : x_TM o M := ⟨fun s hs => (h.1.1.2.1 s hs).2.1, fun w hw => (h.1.2.2 w hw).2.1, fun c hc => (h.2.2 c hc).2⟩
theorem tp_fr {o : Int} {P P' : Int → Int → Int} (h : x_TP o P) (f : ∀ b j, o ≤ b → b < 154 + o → P' b j = P b j) : x_TP o P' := by
  obtain ⟨⟨a1, a2, a3⟩, b, c, d⟩ := h
  refine ⟨⟨(f _ _ (by omega) (by omega)).trans a1, (f _ _ (by omega) (by omega)).trans a2, (f _ _ (by omega) (by omega)).trans a3⟩, fun s hs => ?_, fun w hw => (f _ _ (by omega) (by omega)).trans (c w hw), fun q hq => ⟨(f _ _ (by omega) (by omega)).trans (d q hq).1, (f _ _ (by omega) (by omega)).trans (d q hq).2⟩⟩
  obtain ⟨b1, b2, b3, b4, b5, b6, b7⟩ := b s hs
  exact ⟨(f _ _ (by omega) (by omega)).trans b1, (f _ _ (by omega) (by omega)).trans b2, (f _ _ (by omega) (by omega)).trans b3, (f _ _ (by omega) (by omega)).trans b4, (f _ _ (by omega) (by omega)).trans b5, (f _ _ (by omega) (by omega)).trans b6, (f _ _ (by omega) (by omega)).trans b7⟩
theorem tm_fr {o : Int} {M M' : Int → Int → Int} (h : x_TM o M) (f : ∀ b j, o ≤ b → b < 154 + o → M' b j = M b j) : x_TM o M' := by
  obtain ⟨a, b, c⟩ := h
  exact ⟨fun s hs => (f _ _ (by omega) (by omega)).trans (a s hs), fun s hs => (f _ _ (by omega) (by omega)).trans (b s hs), fun s hs => (f _ _ (by omega) (by omega)).trans (c s hs)⟩
theorem c_tour {P M : Int → Int → Int} : x_CallR 27 [.inr (156)] (157, P, M) (fun q => ∃ P1 M1, q = (none, (162, P1, M1)) ∧ (∀ b j, b < 156 → P1 b j = P b j) ∧ (∀ b j, b < 157 → M1 b j = M b j) ∧ P1 156 0 = 157 ∧ P1 156 2 = 158 ∧ P1 156 3 = 159 ∧ P1 156 5 = 160 ∧ P1 156 6 = 161) := by
  refine e_body (ls0 := [.inr (156)]) xm27 rfl ?_
  refine e_aload (k := 0) (xi27 0) rfl (by omega) ?_
  refine e_oinit (k := 1) (xi27 1) ⟨by omega, by omega, Nat.le_of_ble_eq_true rfl⟩ ?_
  refine e_aload (k := 2) (xi27 2) rfl (by omega) ?_
  refine e_iconst (k := 3) (xi27 3) ?_
  refine e_newI (b1 := 4) (b2 := 1038) (u0 := 7)  (k := 4) (xi27 4) ⟨(by decide), (by decide), by omega, by omega⟩ rfl ?_
  show x_Ev 27 5 [.inr 156] [.inr 157, .inr 156] (4, 1038) (157 + 1, (x_clr P 157 (-1)), (x_clr M 157 0)) _
  rw [show (157 + 1 : Int) = 158 by omega]
  refine e_putR (j := 0) (k := 5) (xi27 5) ⟨by omega, by omega, (by decide)⟩ rfl (by omega) ?_
  refine e_aload (k := 6) (xi27 6) rfl (by omega) ?_
  refine e_iconst (k := 7) (xi27 7) ?_
  refine e_newI (b1 := 3) (b2 := 1031) (u0 := 7)  (k := 8) (xi27 8) ⟨(by decide), (by decide), by omega, by omega⟩ rfl ?_
  show x_Ev 27 9 [.inr 156] [.inr 158, .inr 156] (3, 1031) (158 + 1, (x_clr (x_up (x_clr P 157 (-1)) 156 0 157) 158 (-1)), (x_clr (x_clr M 157 0) 158 0)) _
  rw [show (158 + 1 : Int) = 159 by omega]
  refine e_putR (j := 2) (k := 9) (xi27 9) ⟨by omega, by omega, (by decide)⟩ rfl (by omega) ?_
  refine e_aload (k := 10) (xi27 10) rfl (by omega) ?_
  refine e_iconst (k := 11) (xi27 11) ?_
  refine e_newI (b1 := 2) (b2 := 1024) (u0 := 7)  (k := 12) (xi27 12) ⟨(by decide), (by decide), by omega, by omega⟩ rfl ?_
  show x_Ev 27 13 [.inr 156] [.inr 159, .inr 156] (2, 1024) (159 + 1, (x_clr (x_up (x_clr (x_up (x_clr P 157 (-1)) 156 0 157) 158 (-1)) 156 2 158) 159 (-1)), (x_clr (x_clr (x_clr M 157 0) 158 0) 159 0)) _
  rw [show (159 + 1 : Int) = 160 by omega]
  refine e_putR (j := 3) (k := 13) (xi27 13) ⟨by omega, by omega, (by decide)⟩ rfl (by omega) ?_
  refine e_aload (k := 14) (xi27 14) rfl (by omega) ?_
  refine e_iconst (k := 15) (xi27 15) ?_
  refine e_newI (b1 := 1) (b2 := 896) (u0 := 128)  (k := 16) (xi27 16) ⟨(by decide), (by decide), by omega, by omega⟩ rfl ?_
  show x_Ev 27 17 [.inr 156] [.inr 160, .inr 156] (1, 896) (160 + 1, (x_clr (x_up (x_clr (x_up (x_clr (x_up (x_clr P 157 (-1)) 156 0 157) 158 (-1)) 156 2 158) 159 (-1)) 156 3 159) 160 (-1)), (x_clr (x_clr (x_clr (x_clr M 157 0) 158 0) 159 0) 160 0)) _
  rw [show (160 + 1 : Int) = 161 by omega]
  refine e_putR (j := 5) (k := 17) (xi27 17) ⟨by omega, by omega, (by decide)⟩ rfl (by omega) ?_
  refine e_aload (k := 18) (xi27 18) rfl (by omega) ?_
  refine e_iconst (k := 19) (xi27 19) ?_
  refine e_newI (b1 := 0) (b2 := 0) (u0 := 896)  (k := 20) (xi27 20) ⟨(by decide), (by decide), by omega, by omega⟩ rfl ?_
  show x_Ev 27 21 [.inr 156] [.inr 161, .inr 156] (0, 0) (161 + 1, (x_clr (x_up (x_clr (x_up (x_clr (x_up (x_clr (x_up (x_clr P 157 (-1)) 156 0 157) 158 (-1)) 156 2 158) 159 (-1)) 156 3 159) 160 (-1)) 156 5 160) 161 (-1)), (x_clr (x_clr (x_clr (x_clr (x_clr M 157 0) 158 0) 159 0) 160 0) 161 0)) _
  rw [show (161 + 1 : Int) = 162 by omega]
  refine e_putR (j := 6) (k := 21) (xi27 21) ⟨by omega, by omega, (by decide)⟩ rfl (by omega) ?_
  refine e_vret (k := 22) (xi27 22) ?_
  refine ⟨(x_up (x_clr (x_up (x_clr (x_up (x_clr (x_up (x_clr (x_up (x_clr P 157 (-1)) 156 0 157) 158 (-1)) 156 2 158) 159 (-1)) 156 3 159) 160 (-1)) 156 5 160) 161 (-1)) 156 6 161), (x_clr (x_clr (x_clr (x_clr (x_clr M 157 0) 158 0) 159 0) 160 0) 161 0), rfl, ?_, ?_, ?_, ?_, ?_, ?_, ?_⟩
  · intro b j h1; rw [x_up_ne (by omega), x_clr_ne (by omega), x_up_ne (by omega), x_clr_ne (by omega), x_up_ne (by omega), x_clr_ne (by omega), x_up_ne (by omega), x_clr_ne (by omega), x_up_ne (by omega), x_clr_ne (by omega)]
  · intro b j h1; rw [x_clr_ne (by omega), x_clr_ne (by omega), x_clr_ne (by omega), x_clr_ne (by omega), x_clr_ne (by omega)]
  · rw [x_up_nk (by omega), x_clr_ne (by omega), x_up_nk (by omega), x_clr_ne (by omega), x_up_nk (by omega), x_clr_ne (by omega), x_up_nk (by omega), x_clr_ne (by omega), x_up_self]
  · rw [x_up_nk (by omega), x_clr_ne (by omega), x_up_nk (by omega), x_clr_ne (by omega), x_up_nk (by omega), x_clr_ne (by omega), x_up_self]
  · rw [x_up_nk (by omega), x_clr_ne (by omega), x_up_nk (by omega), x_clr_ne (by omega), x_up_self]
  · rw [x_up_nk (by omega), x_clr_ne (by omega), x_up_self]
  · rw [x_up_self]
theorem c_WS {P M : Int → Int → Int} : x_CallR 77 [.inr (0)] (1, P, M) (fun q => ∃ P1 M1, q = (none, (162, P1, M1)) ∧ (P1 0 0 = 1 ∧ P1 0 1 = 155 ∧ P1 0 2 = 156) ∧ x_TP 1 P1 ∧ x_TM 1 M1 ∧ x_TZ 1 M1 ∧ (P1 156 0 = 157 ∧ P1 156 2 = 158 ∧ P1 156 3 = 159 ∧ P1 156 5 = 160 ∧ P1 156 6 = 161) ∧ (M1 1 1 = 0 ∧ M1 1 3 = 0 ∧ M1 1 5 = 0 ∧ M1 1 6 = 0) ∧ (∀ k, P1 155 k = -1) ∧ M1 156 1 = 0 ∧ ∀ j b, b < 0 → M1 b j = M b j) := by
  refine e_body (ls0 := [.inr (0)]) xm77 rfl ?_
  refine e_aload (k := 0) (xi77 0) rfl (by omega) ?_
  refine e_oinit (k := 1) (xi77 1) ⟨by omega, by omega, Nat.le_of_ble_eq_true rfl⟩ ?_
  refine e_aload (k := 2) (xi77 2) rfl (by omega) ?_
  refine e_new (b1 := 160) (b2 := 2880) (u0 := 7)  (k := 3) (xi77 3) ⟨(by decide), by decide, rfl⟩ ?_
  show x_Ev 77 4 [.inr 0] [.inr 1, .inr 0] (160, 2880) (1 + 1, (x_clr P 1 (-1)), (x_clr M 1 0)) _
  rw [show (1 + 1 : Int) = 2 by omega]
  refine e_dup (k := 4) (xi77 4) ?_
  refine e_callR (k := 5) (c1 := 7) (c2 := 1056) (rest := [.inr 1, .inr 0]) (as := [.inr 1]) (xi77 5) (by decide) xm38 rfl ⟨rfl, Nat.le_of_ble_eq_true rfl, by decide⟩ (Or.inr (x_okt ⟨by omega, by omega, (by decide)⟩)) (c_town (o := 1) (P := (x_clr P 1 (-1))) (M := (x_clr M 1 0)) ⟨by omega, by decide⟩ hb_main ⟨x_clr_self, x_clr_self, x_clr_self, x_clr_self⟩) ?_
  rintro v h1 ⟨P1, M1, hq, hT⟩
  cases hq
  rw [show (154 + 1 : Int) = 155 by omega]
  show x_Ev 77 6 [.inr 0] [.inr 1, .inr 0] (7, 1056) (155, P1, M1) _
  refine e_putR (j := 0) (k := 6) (xi77 6) ⟨by omega, by omega, (by decide)⟩ rfl (by omega) ?_
  refine e_aload (k := 7) (xi77 7) rfl (by omega) ?_
  refine e_iconst (k := 8) (xi77 8) ?_
  refine e_newQ (b1 := 6) (b2 := 1052) (u0 := 4)  (k := 9) (xi77 9) ⟨(by decide), by decide, by decide, (by decide), by omega, by omega⟩ rfl ?_
  show x_Ev 77 10 [.inr 0] [.inr 155, .inr 0] (6, 1052) (155 + 1, (x_clr (x_up P1 0 0 1) 155 (-1)), (x_clr M1 155 0)) _
  rw [show (155 + 1 : Int) = 156 by omega]
  refine e_putR (j := 1) (k := 10) (xi77 10) ⟨by omega, by omega, (by decide)⟩ rfl (by omega) ?_
  refine e_aload (k := 11) (xi77 11) rfl (by omega) ?_
  refine e_new (b1 := 5) (b2 := 1045) (u0 := 7)  (k := 12) (xi77 12) ⟨(by decide), by decide, rfl⟩ ?_
  show x_Ev 77 13 [.inr 0] [.inr 156, .inr 0] (5, 1045) (156 + 1, (x_clr (x_up (x_clr (x_up P1 0 0 1) 155 (-1)) 0 1 155) 156 (-1)), (x_clr (x_clr M1 155 0) 156 0)) _
  rw [show (156 + 1 : Int) = 157 by omega]
  refine e_dup (k := 13) (xi77 13) ?_
  refine e_callR (k := 14) (c1 := 0) (c2 := 0) (rest := [.inr 156, .inr 0]) (as := [.inr 156]) (xi77 14) (by decide) xm27 rfl ⟨rfl, Nat.le_of_ble_eq_true rfl, by decide⟩ (Or.inr (x_okt ⟨by omega, by omega, (by decide)⟩)) (c_tour (P := (x_clr (x_up (x_clr (x_up P1 0 0 1) 155 (-1)) 0 1 155) 156 (-1))) (M := (x_clr (x_clr M1 155 0) 156 0))) ?_
  rintro v h1 ⟨P2, M2, hq, f1, f2, g0, g2, g3, g5, g6⟩
  cases hq
  show x_Ev 77 15 [.inr 0] [.inr 156, .inr 0] (0, 0) (162, P2, M2) _
  refine e_putR (j := 2) (k := 15) (xi77 15) ⟨by omega, by omega, (by decide)⟩ rfl (by omega) ?_
  refine e_vret (k := 16) (xi77 16) ?_
  refine ⟨(x_up P2 0 2 156), M2, rfl, ⟨(by rw [x_up_nk (by omega), f1 _ _ (by omega), x_clr_ne (by omega), x_up_nk (by omega), x_clr_ne (by omega), x_up_self]), (by rw [x_up_nk (by omega), f1 _ _ (by omega), x_clr_ne (by omega), x_up_self]), (by rw [x_up_self])⟩, tp_fr (t3_TP hT) (fun b j h1 h2 => ?_), tm_fr (t3_TM hT) (fun b j h1 h2 => ?_), tz_fr (t3_TZ hT) (fun b j h1 h2 => ?_), ⟨(x_up_ne (by omega)).trans g0, (x_up_ne (by omega)).trans g2, (x_up_ne (by omega)).trans g3, (x_up_ne (by omega)).trans g5, (x_up_ne (by omega)).trans g6⟩, ⟨?_, ?_, ?_, ?_⟩, ?_, ?_, fun j b h => ?_⟩
  · rw [x_up_ne (by omega), f1 _ _ (by omega), x_clr_ne (by omega), x_up_ne (by omega), x_clr_ne (by omega), x_up_ne (by omega)]
  · rw [f2 _ _ (by omega), x_clr_ne (by omega), x_clr_ne (by omega)]
  · rw [f2 _ _ (by omega), x_clr_ne (by omega), x_clr_ne (by omega)]
  · rw [f2 _ _ (by omega), x_clr_ne (by omega), x_clr_ne (by omega)]; exact hT.1.1.2.2.1.1
  · rw [f2 _ _ (by omega), x_clr_ne (by omega), x_clr_ne (by omega)]; exact hT.1.1.2.2.1.2.1
  · rw [f2 _ _ (by omega), x_clr_ne (by omega), x_clr_ne (by omega)]; exact hT.1.1.2.2.1.2.2.1
  · rw [f2 _ _ (by omega), x_clr_ne (by omega), x_clr_ne (by omega)]; exact hT.1.1.2.2.1.2.2.2
  · intro k
    rw [x_up_ne (by omega), f1 _ _ (by omega), x_clr_ne (by omega), x_up_ne (by omega), x_clr_self]
  · rw [f2 _ _ (by omega), x_clr_self]
  · rw [f2 _ _ (by omega), x_clr_ne (by omega), x_clr_ne (by omega), (hT.1.1.2.2.2 _ _ (by omega)).2, x_clr_ne (by omega)]
def a_F (n i : Int) : Int := if 970 ≤ i ∧ i < 970 + n ∧ ¬ (i - 970) / 12 = (i - 970) % 12 then 999 else 0
theorem a_F_up {A : Int → Int} {a b w : Int} (ha : 0 ≤ a ∧ a < 12) (hb : 0 ≤ b ∧ b < 12) (hA : ∀ i, A i = a_F (12 * a + b) i) (hw : (a = b ∧ w = 0) ∨ (¬ a = b ∧ w = 999)) : ∀ i, a_up A (970 + 12 * a + b) w i = a_F (12 * a + (1 + b)) i := by
  intro i
  have h := hA i
  unfold a_F at h ⊢
  unfold a_up
  by_cases q : i = 970 + 12 * a + b
  · rw [if_pos q]
    subst q
    rcases hw with ⟨h1, rfl⟩ | ⟨h1, rfl⟩
    · rw [if_neg (by omega)]
    · rw [if_pos ⟨by omega, by omega, by omega⟩]
  · rw [if_neg q, h]
    by_cases hp : 970 ≤ i ∧ i < 970 + (12 * a + b) ∧ ¬ (i - 970) / 12 = (i - 970) % 12
    · rw [if_pos hp, if_pos ⟨hp.1, by omega, hp.2.2⟩]
    · rw [if_neg hp, if_neg (fun q2 => hp ⟨q2.1, by omega, q2.2.2⟩)]
theorem x_row_self (M : Int → Int → Int) (a : Int) : M = x_row M a (M a) := by
  funext b j
  unfold x_row
  by_cases h : b = a
  · rw [if_pos h, h]
  · rw [if_neg h]
theorem c_mo1 {z : Int} {P M : Int → Int → Int} {r : Option xV × xH → Prop} (hS : x_Sh z P) {a : Int} (ha : 0 ≤ a ∧ a < 12) (kk : ∀ A, (∀ i, A i = a_F (12 * a + 12) i) → x_Ev 112 58 [.inr 162, .inl (a), .inl (12)] [] (0, 0) (z, P, x_row M 163 A) r) : ∀ (k : Nat) (b : Int) (A : Int → Int), b + k = 12 → (0 ≤ b ∧ b ≤ 12) → (∀ i, A i = a_F (12 * a + b) i) → x_Ev 112 37 [.inr 162, .inl (a), .inl (b)] [] (0, 0) (z, P, x_row M 163 A) r := by
  intro k
  induction k with
  | zero =>
    intro b A he hb hA
    refine e_iload (k := 37) (xi112 37) rfl ?_
    refine e_iconst (k := 38) (xi112 38) ?_
    refine e_c_ge (k := 39) (xi112 39) (fun c0 => ?_) (fun q => absurd (by omega) q)
    have hb12 : b = 12 := by omega
    subst hb12
    exact kk A hA
  | succ k ih =>
    intro b A he hb hA
    refine e_iload (k := 37) (xi112 37) rfl ?_
    refine e_iconst (k := 38) (xi112 38) ?_
    refine e_c_ge (k := 39) (xi112 39) (fun q => absurd q (by omega)) (fun c0 => ?_)
    refine e_aload (k := 40) (xi112 40) rfl (by decide) ?_
    refine e_getR (j := 0) (w := 163) (k := 41) (xi112 41) (ok_mo hS) rfl (sh_all hS) ?_
    refine e_iconst (k := 42) (xi112 42) ?_
    refine e_iconst (k := 43) (xi112 43) ?_
    refine e_iload (k := 44) (xi112 44) rfl ?_
    refine e_imul (w := 12 * a) (k := 45) (xi112 45) (x_wn (by omega)) ?_
    refine e_iadd (w := 970 + 12 * a) (k := 46) (xi112 46) (x_wn (by omega)) ?_
    refine e_iload (k := 47) (xi112 47) rfl ?_
    refine e_iadd (w := 970 + 12 * a + b) (k := 48) (xi112 48) (x_wn (by omega)) ?_
    refine e_iload (k := 49) (xi112 49) rfl ?_
    refine e_iload (k := 50) (xi112 50) rfl ?_
    refine e_c_ne (k := 51) (xi112 51) (fun c1 => ?_) (fun c1 => ?_)
    · skip
      refine e_iconst (k := 54) (xi112 54) ?_
      refine e_iastA (k := 55) (xi112 55) hS (by omega) ?_
      refine e_iinc (w := 1 + b) (k := 56) (xi112 56) rfl (x_wn (by omega)) ?_
      show x_Ev 112 57 [.inr 162, .inl (a), .inl (1 + b)] [] (0, 0) (z, P, (x_row M 163 (a_up A (970 + 12 * a + b) 999))) _
      refine e_goto (k := 57) (xi112 57) ?_
      exact ih (1 + b) _ (by omega) ⟨by omega, by omega⟩ (a_F_up ha ⟨by omega, by omega⟩ hA (Or.inr ⟨c1, rfl⟩))
    · skip
      refine e_iconst (k := 52) (xi112 52) ?_
      refine e_goto (k := 53) (xi112 53) ?_
      refine e_iastA (k := 55) (xi112 55) hS (by omega) ?_
      refine e_iinc (w := 1 + b) (k := 56) (xi112 56) rfl (x_wn (by omega)) ?_
      show x_Ev 112 57 [.inr 162, .inl (a), .inl (1 + b)] [] (0, 0) (z, P, (x_row M 163 (a_up A (970 + 12 * a + b) 0))) _
      refine e_goto (k := 57) (xi112 57) ?_
      exact ih (1 + b) _ (by omega) ⟨by omega, by omega⟩ (a_F_up ha ⟨by omega, by omega⟩ hA (Or.inl ⟨Classical.byContradiction c1, rfl⟩))
theorem c_mo2 {z : Int} {P M : Int → Int → Int} {r : Option xV × xH → Prop} (hS : x_Sh z P) (kk : ∀ v A, (∀ i, A i = a_F 144 i) → x_Ev 112 60 [.inr 162, .inl (12), v] [] (0, 0) (z, P, x_row M 163 A) r) : ∀ (k : Nat) (a : Int) (v : xV) (A : Int → Int), a + k = 12 → (0 ≤ a ∧ a ≤ 12) → (∀ i, A i = a_F (12 * a) i) → x_Ev 112 32 [.inr 162, .inl (a), v] [] (0, 0) (z, P, x_row M 163 A) r := by
  intro k
  induction k with
  | zero =>
    intro a v A he hb hA
    refine e_iload (k := 32) (xi112 32) rfl ?_
    refine e_iconst (k := 33) (xi112 33) ?_
    refine e_c_ge (k := 34) (xi112 34) (fun c0 => ?_) (fun q => absurd (by omega) q)
    have ha12 : a = 12 := by omega
    subst ha12
    exact kk _ A hA
  | succ k ih =>
    intro a v A he hb hA
    refine e_iload (k := 32) (xi112 32) rfl ?_
    refine e_iconst (k := 33) (xi112 33) ?_
    refine e_c_ge (k := 34) (xi112 34) (fun q => absurd q (by omega)) (fun c0 => ?_)
    refine e_iconst (k := 35) (xi112 35) ?_
    refine e_istore (k := 36) (xi112 36) (Nat.le_of_ble_eq_true rfl) ?_
    show x_Ev 112 37 [.inr 162, .inl (a), .inl 0] [] (0, 0) (z, P, (x_row M 163 A)) _
    exact c_mo1 hS ⟨by omega, by omega⟩ (fun A1 hA1 => by
            refine e_iinc (w := 1 + a) (k := 58) (xi112 58) rfl (x_wn (by omega)) ?_
            show x_Ev 112 59 [.inr 162, .inl (1 + a), .inl (12)] [] (0, 0) (z, P, x_row M 163 A1) _
            refine e_goto (k := 59) (xi112 59) ?_
            exact ih (1 + a) (.inl (12)) A1 (by omega) ⟨by omega, by omega⟩ (fun i => (hA1 i).trans (by rw [show 12 * a + 12 = 12 * (1 + a) by omega]))) 12 0 A (by omega) ⟨by omega, by omega⟩ (fun i => (hA i).trans (by rw [Int.add_zero]))
theorem c_model {P M : Int → Int → Int} (hC : (P 0 0 = 1 ∧ P 0 1 = 155 ∧ P 0 2 = 156) ∧ x_TP 1 P ∧ (P 156 0 = 157 ∧ P 156 2 = 158 ∧ P 156 3 = 159 ∧ P 156 5 = 160 ∧ P 156 6 = 161)) (hM : ∀ k, M 162 k = 0) : x_CallR 112 [.inr (162)] (163, P, M) (fun q => ∃ P1 M1 A, q = (none, (170, P1, x_row M1 163 A)) ∧ x_Sh 170 P1 ∧ (∀ b j, b < 162 → P1 b j = P b j) ∧ (∀ b j, b < 162 → M1 b j = M b j) ∧ (∀ i, A i = a_F 144 i) ∧ (∀ k, M1 162 k = 0) ∧ (∀ b k, 164 ≤ b → b < 170 → M1 b k = 0) ∧ ∀ b k, 170 ≤ b → M1 b k = M b k) := by
  refine e_body (ls0 := [.inr (162), x_un, x_un]) xm112 rfl ?_
  refine e_aload (k := 0) (xi112 0) rfl (by omega) ?_
  refine e_oinit (k := 1) (xi112 1) ⟨by omega, by omega, Nat.le_of_ble_eq_true rfl⟩ ?_
  refine e_aload (k := 2) (xi112 2) rfl (by omega) ?_
  refine e_iconst (k := 3) (xi112 3) ?_
  refine e_newI (b1 := 6) (b2 := 49) (u0 := 8200)  (k := 4) (xi112 4) ⟨(by decide), (by decide), by omega, by omega⟩ rfl ?_
  show x_Ev 112 5 [.inr 162, x_un, x_un] [.inr 163, .inr 162] (6, 49) (163 + 1, (x_clr P 163 (-1)), (x_clr M 163 0)) _
  rw [show (163 + 1 : Int) = 164 by omega]
  refine e_putR (j := 0) (k := 5) (xi112 5) ⟨by omega, by omega, (by decide)⟩ rfl (by omega) ?_
  refine e_aload (k := 6) (xi112 6) rfl (by omega) ?_
  refine e_iconst (k := 7) (xi112 7) ?_
  refine e_newZ (b1 := 5) (b2 := 45) (u0 := 4)  (k := 8) (xi112 8) ⟨(by decide), (by decide), by omega, by omega⟩ rfl ?_
  show x_Ev 112 9 [.inr 162, x_un, x_un] [.inr 164, .inr 162] (5, 45) (164 + 1, (x_clr (x_up (x_clr P 163 (-1)) 162 0 163) 164 (-1)), (x_clr (x_clr M 163 0) 164 0)) _
  rw [show (164 + 1 : Int) = 165 by omega]
  refine e_putR (j := 1) (k := 9) (xi112 9) ⟨by omega, by omega, (by decide)⟩ rfl (by omega) ?_
  refine e_aload (k := 10) (xi112 10) rfl (by omega) ?_
  refine e_iconst (k := 11) (xi112 11) ?_
  refine e_newI (b1 := 4) (b2 := 33) (u0 := 12)  (k := 12) (xi112 12) ⟨(by decide), (by decide), by omega, by omega⟩ rfl ?_
  show x_Ev 112 13 [.inr 162, x_un, x_un] [.inr 165, .inr 162] (4, 33) (165 + 1, (x_clr (x_up (x_clr (x_up (x_clr P 163 (-1)) 162 0 163) 164 (-1)) 162 1 164) 165 (-1)), (x_clr (x_clr (x_clr M 163 0) 164 0) 165 0)) _
  rw [show (165 + 1 : Int) = 166 by omega]
  refine e_putR (j := 5) (k := 13) (xi112 13) ⟨by omega, by omega, (by decide)⟩ rfl (by omega) ?_
  refine e_aload (k := 14) (xi112 14) rfl (by omega) ?_
  refine e_iconst (k := 15) (xi112 15) ?_
  refine e_newI (b1 := 3) (b2 := 21) (u0 := 12)  (k := 16) (xi112 16) ⟨(by decide), (by decide), by omega, by omega⟩ rfl ?_
  show x_Ev 112 17 [.inr 162, x_un, x_un] [.inr 166, .inr 162] (3, 21) (166 + 1, (x_clr (x_up (x_clr (x_up (x_clr (x_up (x_clr P 163 (-1)) 162 0 163) 164 (-1)) 162 1 164) 165 (-1)) 162 5 165) 166 (-1)), (x_clr (x_clr (x_clr (x_clr M 163 0) 164 0) 165 0) 166 0)) _
  rw [show (166 + 1 : Int) = 167 by omega]
  refine e_putR (j := 6) (k := 17) (xi112 17) ⟨by omega, by omega, (by decide)⟩ rfl (by omega) ?_
  refine e_aload (k := 18) (xi112 18) rfl (by omega) ?_
  refine e_iconst (k := 19) (xi112 19) ?_
  refine e_newI (b1 := 2) (b2 := 14) (u0 := 7)  (k := 20) (xi112 20) ⟨(by decide), (by decide), by omega, by omega⟩ rfl ?_
  show x_Ev 112 21 [.inr 162, x_un, x_un] [.inr 167, .inr 162] (2, 14) (167 + 1, (x_clr (x_up (x_clr (x_up (x_clr (x_up (x_clr (x_up (x_clr P 163 (-1)) 162 0 163) 164 (-1)) 162 1 164) 165 (-1)) 162 5 165) 166 (-1)) 162 6 166) 167 (-1)), (x_clr (x_clr (x_clr (x_clr (x_clr M 163 0) 164 0) 165 0) 166 0) 167 0)) _
  rw [show (167 + 1 : Int) = 168 by omega]
  refine e_putR (j := 8) (k := 21) (xi112 21) ⟨by omega, by omega, (by decide)⟩ rfl (by omega) ?_
  refine e_aload (k := 22) (xi112 22) rfl (by omega) ?_
  refine e_iconst (k := 23) (xi112 23) ?_
  refine e_newI (b1 := 1) (b2 := 7) (u0 := 7)  (k := 24) (xi112 24) ⟨(by decide), (by decide), by omega, by omega⟩ rfl ?_
  show x_Ev 112 25 [.inr 162, x_un, x_un] [.inr 168, .inr 162] (1, 7) (168 + 1, (x_clr (x_up (x_clr (x_up (x_clr (x_up (x_clr (x_up (x_clr (x_up (x_clr P 163 (-1)) 162 0 163) 164 (-1)) 162 1 164) 165 (-1)) 162 5 165) 166 (-1)) 162 6 166) 167 (-1)) 162 8 167) 168 (-1)), (x_clr (x_clr (x_clr (x_clr (x_clr (x_clr M 163 0) 164 0) 165 0) 166 0) 167 0) 168 0)) _
  rw [show (168 + 1 : Int) = 169 by omega]
  refine e_putR (j := 9) (k := 25) (xi112 25) ⟨by omega, by omega, (by decide)⟩ rfl (by omega) ?_
  refine e_aload (k := 26) (xi112 26) rfl (by omega) ?_
  refine e_iconst (k := 27) (xi112 27) ?_
  refine e_newI (b1 := 0) (b2 := 0) (u0 := 7)  (k := 28) (xi112 28) ⟨(by decide), (by decide), by omega, by omega⟩ rfl ?_
  show x_Ev 112 29 [.inr 162, x_un, x_un] [.inr 169, .inr 162] (0, 0) (169 + 1, (x_clr (x_up (x_clr (x_up (x_clr (x_up (x_clr (x_up (x_clr (x_up (x_clr (x_up (x_clr P 163 (-1)) 162 0 163) 164 (-1)) 162 1 164) 165 (-1)) 162 5 165) 166 (-1)) 162 6 166) 167 (-1)) 162 8 167) 168 (-1)) 162 9 168) 169 (-1)), (x_clr (x_clr (x_clr (x_clr (x_clr (x_clr (x_clr M 163 0) 164 0) 165 0) 166 0) 167 0) 168 0) 169 0)) _
  rw [show (169 + 1 : Int) = 170 by omega]
  refine e_putR (j := 10) (k := 29) (xi112 29) ⟨by omega, by omega, (by decide)⟩ rfl (by omega) ?_
  refine e_iconst (k := 30) (xi112 30) ?_
  refine e_istore (k := 31) (xi112 31) (Nat.le_of_ble_eq_true rfl) ?_
  show x_Ev 112 32 [.inr 162, .inl 0, x_un] [] (0, 0) (170, (x_up (x_clr (x_up (x_clr (x_up (x_clr (x_up (x_clr (x_up (x_clr (x_up (x_clr (x_up (x_clr P 163 (-1)) 162 0 163) 164 (-1)) 162 1 164) 165 (-1)) 162 5 165) 166 (-1)) 162 6 166) 167 (-1)) 162 8 167) 168 (-1)) 162 9 168) 169 (-1)) 162 10 169), (x_clr (x_clr (x_clr (x_clr (x_clr (x_clr (x_clr M 163 0) 164 0) 165 0) 166 0) 167 0) 168 0) 169 0)) _
  have fP : ∀ b j, b < 162 → (x_up (x_clr (x_up (x_clr (x_up (x_clr (x_up (x_clr (x_up (x_clr (x_up (x_clr (x_up (x_clr P 163 (-1)) 162 0 163) 164 (-1)) 162 1 164) 165 (-1)) 162 5 165) 166 (-1)) 162 6 166) 167 (-1)) 162 8 167) 168 (-1)) 162 9 168) 169 (-1)) 162 10 169) b j = P b j := by
    intro b j h1
    rw [x_up_ne (by omega), x_clr_ne (by omega), x_up_ne (by omega), x_clr_ne (by omega), x_up_ne (by omega), x_clr_ne (by omega), x_up_ne (by omega), x_clr_ne (by omega), x_up_ne (by omega), x_clr_ne (by omega), x_up_ne (by omega), x_clr_ne (by omega), x_up_ne (by omega), x_clr_ne (by omega)]
  have fM : ∀ b j, b < 162 → (x_clr (x_clr (x_clr (x_clr (x_clr (x_clr (x_clr M 163 0) 164 0) 165 0) 166 0) 167 0) 168 0) 169 0) b j = M b j := by
    intro b j h1
    rw [x_clr_ne (by omega), x_clr_ne (by omega), x_clr_ne (by omega), x_clr_ne (by omega), x_clr_ne (by omega), x_clr_ne (by omega), x_clr_ne (by omega)]
  have hS : x_Sh 170 (x_up (x_clr (x_up (x_clr (x_up (x_clr (x_up (x_clr (x_up (x_clr (x_up (x_clr (x_up (x_clr P 163 (-1)) 162 0 163) 164 (-1)) 162 1 164) 165 (-1)) 162 5 165) 166 (-1)) 162 6 166) 167 (-1)) 162 8 167) 168 (-1)) 162 9 168) 169 (-1)) 162 10 169) := ⟨by omega, ⟨(fP _ _ (by omega)).trans hC.1.1, (fP _ _ (by omega)).trans hC.1.2.1, (fP _ _ (by omega)).trans hC.1.2.2⟩, tp_fr hC.2.1 (fun b j h1 h2 => fP b j (by omega)), ⟨(fP _ _ (by omega)).trans hC.2.2.1, (fP _ _ (by omega)).trans hC.2.2.2.1, (fP _ _ (by omega)).trans hC.2.2.2.2.1, (fP _ _ (by omega)).trans hC.2.2.2.2.2.1, (fP _ _ (by omega)).trans hC.2.2.2.2.2.2⟩, (by rw [x_up_nk (by omega), x_clr_ne (by omega), x_up_nk (by omega), x_clr_ne (by omega), x_up_nk (by omega), x_clr_ne (by omega), x_up_nk (by omega), x_clr_ne (by omega), x_up_nk (by omega), x_clr_ne (by omega), x_up_nk (by omega), x_clr_ne (by omega), x_up_self]), (by rw [x_up_nk (by omega), x_clr_ne (by omega), x_up_nk (by omega), x_clr_ne (by omega), x_up_nk (by omega), x_clr_ne (by omega), x_up_nk (by omega), x_clr_ne (by omega), x_up_nk (by omega), x_clr_ne (by omega), x_up_self]), (by rw [x_up_nk (by omega), x_clr_ne (by omega), x_up_nk (by omega), x_clr_ne (by omega), x_up_nk (by omega), x_clr_ne (by omega), x_up_nk (by omega), x_clr_ne (by omega), x_up_self]), (by rw [x_up_nk (by omega), x_clr_ne (by omega), x_up_nk (by omega), x_clr_ne (by omega), x_up_nk (by omega), x_clr_ne (by omega), x_up_self]), (by rw [x_up_nk (by omega), x_clr_ne (by omega), x_up_nk (by omega), x_clr_ne (by omega), x_up_self]), (by rw [x_up_nk (by omega), x_clr_ne (by omega), x_up_self]), (by rw [x_up_self])⟩
  rw [x_row_self (x_clr (x_clr (x_clr (x_clr (x_clr (x_clr (x_clr M 163 0) 164 0) 165 0) 166 0) 167 0) 168 0) 169 0) 163]
  refine c_mo2 hS (fun v A hA => ?_) 12 0 _ _ (by omega) (by omega) (fun i => ?_)
  · exact e_vret (k := 60) (xi112 60) ⟨_, _, A, rfl, hS, fP, fM, hA, fun k => (by rw [x_clr_ne (by omega), x_clr_ne (by omega), x_clr_ne (by omega), x_clr_ne (by omega), x_clr_ne (by omega), x_clr_ne (by omega), x_clr_ne (by omega), hM]), fun b k h1 h2 => (by rcases (show b = 164 ∨ b = 165 ∨ b = 166 ∨ b = 167 ∨ b = 168 ∨ b = 169 by omega) with rfl | rfl | rfl | rfl | rfl | rfl <;> simp [x_clr]), fun b k h1 => (by rw [x_clr_ne (by omega), x_clr_ne (by omega), x_clr_ne (by omega), x_clr_ne (by omega), x_clr_ne (by omega), x_clr_ne (by omega), x_clr_ne (by omega)])⟩
  · rw [x_clr_ne (by omega), x_clr_ne (by omega), x_clr_ne (by omega), x_clr_ne (by omega), x_clr_ne (by omega), x_clr_ne (by omega), x_clr_self]
    unfold a_F
    rw [if_neg (by omega)]
