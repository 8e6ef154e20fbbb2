/-! IMAGE -/
theorem hb_170 : x_HB 170 := hb_img (j := 0) (by omega)
theorem f_image {P M : Int → Int → Int} (hS : x_Sh 170 P) (hI : ∀ k, P 155 k = -1) (hZ : x_TZ 1 M) (n : Int) : x_CallR 108 [.inr 0, .inl (n)] (170, P, M) (x_FK (if 0 ≤ n ∧ n < 4 then 1 else 0) M) := by
  refine e_body (ls0 := [.inr 0, .inl (n)]) xm108 rfl ?_
  refine e_iload (k := 0) (xi108 0) rfl ?_
  have no : ¬ (0 ≤ n ∧ n < 4) → x_Ev 108 5 [.inr 0, .inl (n)] [] (154, 1831) (170, P, M) (x_FK (if 0 ≤ n ∧ n < 4 then 1 else 0) M) := fun h => by
    refine e_iconst (k := 5) (xi108 5) ?_
    refine e_zret (k := 6) (xi108 6) (by decide) ?_
    rw [if_neg h]
    exact ⟨170, P, M, rfl, hS, fun b j h => rfl⟩
  refine e_z_lt (k := 1) (xi108 1) (fun c0 => no (by omega)) (fun c0 => ?_)
  refine e_iload (k := 2) (xi108 2) rfl ?_
  refine e_iconst (k := 3) (xi108 3) ?_
  refine e_c_lt (k := 4) (xi108 4) (fun c1 => ?_) (fun c1 => no (by omega))
  rw [if_pos ⟨by omega, c1⟩]
  refine e_aload (k := 7) (xi108 7) rfl (by decide) ?_
  refine e_getR (j := 1) (w := 155) (k := 8) (xi108 8) (ok_WS hS) rfl (sh_imgs hS) ?_
  refine e_iload (k := 9) (xi108 9) rfl ?_
  refine e_aald (w := -1) (k := 10) (xi108 10) (x_ok4 (ok_imgs hS) (by decide)) (by rw [ln_imgs]; omega) (hI _) ?_
  refine e_ifnonnull (k := 11) (xi108 11) (by omega) (fun q => absurd (by omega) q) (fun _ => ?_)
  refine e_aload (k := 12) (xi108 12) rfl (by decide) ?_
  refine e_getR (j := 1) (w := 155) (k := 13) (xi108 13) (ok_WS hS) rfl (sh_imgs hS) ?_
  refine e_iload (k := 14) (xi108 14) rfl ?_
  refine e_new (b1 := 153) (b2 := 1824) (u0 := 7) (k := 15) (xi108 15) ⟨by decide, by decide, rfl⟩ ?_
  refine e_dup (k := 16) (xi108 16) ?_
  show x_Ev 108 17 [.inr 0, .inl (n)] [.inr 170, .inr 170, .inl (n), .inr 155] (153, 1824) (1 + 170, x_clr P 170 (-1), x_clr M 170 0) _
  refine e_callR (k := 17) (c1 := 0) (c2 := 0) (rest := [.inr 170, .inl (n), .inr 155]) (as := [.inr 170]) (xi108 17) (by decide) xm38 rfl ⟨rfl, Nat.le_of_ble_eq_true rfl, by decide⟩ (Or.inr (x_okt ⟨by omega, by omega, by decide⟩)) (c_town (o := 170) (P := x_clr P 170 (-1)) (M := x_clr M 170 0) ⟨by omega, by decide⟩ hb_170 ⟨x_clr_self, x_clr_self, x_clr_self, x_clr_self⟩) ?_
  rintro v h1 ⟨P1, M1, hq, hT⟩
  cases hq
  show x_Ev 108 18 [.inr 0, .inl (n)] [.inr 170, .inl (n), .inr 155] (0, 0) (324, P1, M1) _
  have fP : ∀ b j, b < 170 → P1 b j = P b j := fun b j h => ((hT.1.1.2.2.2 b j (by omega)).1).trans (x_clr_ne (by omega))
  have fM : ∀ b j, b < 170 → M1 b j = M b j := fun b j h => ((hT.1.1.2.2.2 b j (by omega)).2).trans (x_clr_ne (by omega))
  refine e_aast (k := 18) (xi108 18) ⟨by omega, by omega, (by decide : x_kd 155 = 12), by decide, by decide⟩ (by rw [ln_imgs]; omega) ⟨by omega, by omega, by decide⟩ ?_
  have gP : ∀ b j, b < 170 → b ≠ 155 → x_up P1 155 n 170 b j = P b j := fun b j h1 h2 => (x_up_ne h2).trans (fP b j h1)
  have hS2 : x_Sh 324 (x_up P1 155 n 170) := by
    refine ⟨by omega, ⟨(gP _ _ (by omega) (by omega)).trans (sh_town hS), (gP _ _ (by omega) (by omega)).trans (sh_imgs hS), (gP _ _ (by omega) (by omega)).trans (sh_tour hS)⟩, tp_fr hS.2.2.1 (fun b j h1 h2 => gP b j (by omega) (by omega)), ⟨(gP _ _ (by omega) (by omega)).trans (sh_t0 hS), (gP _ _ (by omega) (by omega)).trans (sh_t2 hS), (gP _ _ (by omega) (by omega)).trans (sh_t3 hS), (gP _ _ (by omega) (by omega)).trans (sh_t5 hS), (gP _ _ (by omega) (by omega)).trans (sh_t6 hS)⟩, ⟨(gP _ _ (by omega) (by omega)).trans (sh_all hS), (gP _ _ (by omega) (by omega)).trans (sh_has hS), (gP _ _ (by omega) (by omega)).trans (sh_outs hS), (gP _ _ (by omega) (by omega)).trans (sh_over hS), (gP _ _ (by omega) (by omega)).trans (sh_tried hS), (gP _ _ (by omega) (by omega)).trans (sh_best hS), (gP _ _ (by omega) (by omega)).trans (sh_round hS)⟩⟩
  refine e_aload (k := 19) (xi108 19) rfl (by decide) ?_
  refine e_getR (j := 1) (w := 155) (k := 20) (xi108 20) (ok_WS hS2) rfl (sh_imgs hS2) ?_
  refine e_iload (k := 21) (xi108 21) rfl ?_
  refine e_aald (w := 170) (k := 22) (xi108 22) (x_ok4 (ok_imgs hS2) (by decide)) (by rw [ln_imgs]; omega) x_up_self ?_
  refine e_aload (k := 23) (xi108 23) rfl (by decide) ?_
  refine e_getR (j := 0) (w := 1) (k := 24) (xi108 24) (ok_WS hS2) rfl (sh_town hS2) ?_
  refine e_callR (k := 25) (c1 := 0) (c2 := 0) (rest := []) (as := [.inr 170, .inr 1]) (xi108 25) (by decide) xm39 rfl ⟨rfl, Nat.le_of_ble_eq_true rfl, by decide⟩ (Or.inr (x_okt ⟨by omega, by omega, by decide⟩)) (c_copy (z := 324) (o := 170) (u := 1) (P := x_up P1 155 n 170) (M := M1) ⟨by omega, by omega⟩ ⟨by omega, by omega⟩ hb_170 hb_main (tp_fr (t3_TP hT) (fun b j h1 h2 => x_up_ne (by omega))) hS2.2.2.1 (by omega) (tz_fr hZ (fun b j h1 h2 => fM b j (by omega))) (t3_TM hT)) ?_
  rintro v h1 ⟨M2, hq, hC⟩
  cases hq
  refine e_iconst (k := 26) (xi108 26) ?_
  refine e_zret (k := 27) (xi108 27) (by decide) ?_
  exact ⟨_, _, M2, rfl, hS2, fun b j h => (hC.1.1.1 b j (by omega)).trans (fM b j (by omega))⟩
