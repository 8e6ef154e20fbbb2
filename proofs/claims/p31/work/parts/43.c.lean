/-! THE CLASS'S ROUNDS, DEMANDS AND CALLS -/
theorem y_shl_n : ∀ c : Fin 8, 1 ≤ y_shl 1 (c.val : Int) ∧ y_shl 1 (c.val : Int) ≤ 128 := by decide +kernel
theorem y_shl_in (c : Int) (h : 0 ≤ c ∧ c ≤ 7) : 1 ≤ y_shl 1 c ∧ y_shl 1 c ≤ 128 := by
  have q := y_shl_n ⟨c.toNat, by omega⟩
  rwa [show ((⟨c.toNat, by omega⟩ : Fin 8).val : Int) = c by show ((c.toNat : Nat) : Int) = c; omega] at q
theorem y_or_n : ∀ (v : Fin 128) (c : Fin 7), 0 ≤ y_or (v.val : Int) (y_shl 1 (c.val : Int)) ∧ y_or (v.val : Int) (y_shl 1 (c.val : Int)) ≤ 127 := by decide +kernel
theorem y_or_in (v c : Int) (hv : 0 ≤ v ∧ v ≤ 127) (h : 0 ≤ c ∧ c ≤ 6) : 0 ≤ y_or v (y_shl 1 c) ∧ y_or v (y_shl 1 c) ≤ 127 := by
  have q := y_or_n ⟨v.toNat, by omega⟩ ⟨c.toNat, by omega⟩
  rwa [show ((⟨c.toNat, by omega⟩ : Fin 7).val : Int) = c by show ((c.toNat : Nat) : Int) = c; omega, show ((⟨v.toNat, by omega⟩ : Fin 128).val : Int) = v by show ((v.toNat : Nat) : Int) = v; omega] at q
def v_stopAt (k : Int) (M : Int → Int → Int) : Int := if k < 0 then (-1) else if M 156 1 ≤ k then (-1) else if 7 ≤ k then (-1) else M 157 k
theorem k_stopAt {z : Int} {P M : Int → Int → Int} (hS : x_Sh z P) (hT : y_TC M) (k : Int)   : x_CallR 28 [.inr 156, .inl (k)] (z, P, M) (fun q => q = (some (.inl (v_stopAt k M)), (z, P, M)) ∧ (fun v => -1 ≤ v ∧ v ≤ 11) (v_stopAt k M)) := by
  refine e_body (ls0 := [.inr 156, .inl (k)]) xm28 rfl ?_
  refine e_iload (k := 0) (xi28 0) rfl ?_
  refine e_z_lt (k := 1) (xi28 1) (fun c0 => ?_) (fun c0 => ?_)
  · skip
    refine e_iconst (k := 14) (xi28 14) ?_
    refine e_iret (k := 15) (xi28 15) ?_
    exact y_fV (Q := fun v => -1 ≤ v ∧ v ≤ 11) (show v_stopAt k M = (-1) from by rw [v_stopAt, if_pos c0]) (by omega)
  · skip
    refine e_iload (k := 2) (xi28 2) rfl ?_
    refine e_aload (k := 3) (xi28 3) rfl (by decide) ?_
    have t1 := ty_tour1 hT 
    refine e_getI (j := 1) (w := M 156 1) (k := 4) (xi28 4) (ok_tour hS) rfl rfl ?_
    refine e_c_ge (k := 5) (xi28 5) (fun c1 => ?_) (fun c1 => ?_)
    · skip
      refine e_iconst (k := 14) (xi28 14) ?_
      refine e_iret (k := 15) (xi28 15) ?_
      exact y_fV (Q := fun v => -1 ≤ v ∧ v ≤ 11) (show v_stopAt k M = (-1) from by rw [v_stopAt, if_neg c0, if_pos c1]) (by omega)
    · skip
      refine e_iload (k := 6) (xi28 6) rfl ?_
      refine e_iconst (k := 7) (xi28 7) ?_
      refine e_c_ge (k := 8) (xi28 8) (fun c2 => ?_) (fun c2 => ?_)
      · skip
        refine e_iconst (k := 14) (xi28 14) ?_
        refine e_iret (k := 15) (xi28 15) ?_
        exact y_fV (Q := fun v => -1 ≤ v ∧ v ≤ 11) (show v_stopAt k M = (-1) from by rw [v_stopAt, if_neg c0, if_neg c1, if_pos c2]) (by omega)
      · skip
        refine e_aload (k := 9) (xi28 9) rfl (by decide) ?_
        refine e_getR (j := 0) (w := 157) (k := 10) (xi28 10) (ok_tour hS) rfl (sh_t0 hS) ?_
        refine e_iload (k := 11) (xi28 11) rfl ?_
        have t2 := ty_t0 (j := k) hT 
        refine e_iald (w := M 157 k) (k := 12) (xi28 12) (ok_t0 hS) (by rw [ln_t0]; omega) rfl ?_
        refine e_goto (k := 13) (xi28 13) ?_
        refine e_iret (k := 15) (xi28 15) ?_
        exact y_fV (Q := fun v => -1 ≤ v ∧ v ≤ 11) (show v_stopAt k M = M 157 k from by rw [v_stopAt, if_neg c0, if_neg c1, if_neg c2]) (by omega)
def v_allStands (M : Int → Int → Int) : Int := (-1) + y_shl 1 (M 156 4)
theorem k_allStands {z : Int} {P M : Int → Int → Int} (hS : x_Sh z P) (hT : y_TC M)    : x_CallR 31 [.inr 156] (z, P, M) (fun q => q = (some (.inl (v_allStands M)), (z, P, M)) ∧ (fun v => 0 ≤ v ∧ v ≤ 127) (v_allStands M)) := by
  refine e_body (ls0 := [.inr 156]) xm31 rfl ?_
  refine e_iconst (k := 0) (xi31 0) ?_
  refine e_aload (k := 1) (xi31 1) rfl (by decide) ?_
  have t1 := ty_tour4 hT 
  refine e_getI (j := 4) (w := M 156 4) (k := 2) (xi31 2) (ok_tour hS) rfl rfl ?_
  refine e_ishl (w := y_shl 1 (M 156 4)) (k := 3) (xi31 3) rfl ?_
  have b2 := y_shl_in (M 156 4) (by omega)
  refine e_iconst (k := 4) (xi31 4) ?_
  refine e_isub (w := (-1) + y_shl 1 (M 156 4)) (k := 5) (xi31 5) (x_wn (by omega)) ?_
  refine e_iret (k := 6) (xi31 6) ?_
  exact y_fV (Q := fun v => 0 ≤ v ∧ v ≤ 127) (show v_allStands M = (-1) + y_shl 1 (M 156 4) from rfl) (by omega)
def w_gather_a : Nat → (Int → Int → Int) → Int → Int
  | 0, M, i => 0
  | k + 1, M, i => if M 1 1 ≤ i then 1 else if v_surplusAt i M = 0 then w_gather_a k M (1 + i) else if 7 ≤ M 156 4 then 0 else if -v_surplusAt i M ≤ v_freeDocks i M then w_gather_a k ((x_up ((x_up ((x_up M 158 (M 156 4) i)) 159 (M 156 4) (v_surplusAt i M))) 156 4 (1 + M 156 4))) (1 + i) else 0
def z_gather_a : Nat → (Int → Int → Int) → Int → (Int → Int → Int)
  | 0, M, i => M
  | k + 1, M, i => if M 1 1 ≤ i then M else if v_surplusAt i M = 0 then z_gather_a k M (1 + i) else if 7 ≤ M 156 4 then M else if -v_surplusAt i M ≤ v_freeDocks i M then z_gather_a k ((x_up ((x_up ((x_up M 158 (M 156 4) i)) 159 (M 156 4) (v_surplusAt i M))) 156 4 (1 + M 156 4))) (1 + i) else M
theorem kw_gather_a {z : Int} {P M0 : Int → Int → Int} (hS : x_Sh z P)     : ∀ k : Nat, ∀ x3 x4 : xV, ∀ M : (Int → Int → Int), ∀ i : Int, y_TL 0 M0 M → (0 ≤ i ∧ i ≤ 12) → 12 - i < (k : Int) → x_Ev 30 5 [.inr 156, .inr 1, .inl (i), x3, x4] [] (0, 0) (z, P, M) (fun q => q = (some (.inl (w_gather_a k M i)), (z, P, (z_gather_a k M i))) ∧ y_TL 0 M0 (z_gather_a k M i) ∧ (fun v => 0 ≤ v ∧ v ≤ 1) (w_gather_a k M i)) := by
  intro k
  induction k with
  | zero => intro x3 x4 M i tl0 hi hm; omega
  | succ k ih =>
    intro x3 x4 M i tl0 hi hm
    refine e_iload (k := 5) (xi30 5) rfl ?_
    refine e_aload (k := 6) (xi30 6) rfl (by decide) ?_
    have t1 := ty_town1 tl0.1 
    refine e_getI (j := 1) (w := M 1 1) (k := 7) (xi30 7) (ok_town hS) rfl rfl ?_
    refine e_c_ge (k := 8) (xi30 8) (fun c0 => ?_) (fun c0 => ?_)
    · skip
      refine e_iconst (k := 51) (xi30 51) ?_
      refine e_zret (k := 52) (xi30 52) (by first | decide | omega) ?_
      exact y_fW (Q := fun v => 0 ≤ v ∧ v ≤ 1) (show w_gather_a (k + 1) M i = 1 from by rw [w_gather_a, if_pos c0]) (show z_gather_a (k + 1) M i = M from by rw [z_gather_a, if_pos c0]) tl0 (by omega)
    · skip
      refine e_aload (k := 9) (xi30 9) rfl (by decide) ?_
      refine e_getR (j := 0) (w := 2) (k := 10) (xi30 10) (ok_town hS) rfl (sh_stands hS) ?_
      refine e_iload (k := 11) (xi30 11) rfl ?_
      refine e_aald (w := 3 + 7 * i) (k := 12) (xi30 12) (x_ok4 (ok_stands hS) (by decide)) (by rw [ln_stands]; omega) (sh_st hS (show 0 ≤ i ∧ i < 12 by omega)) ?_
      refine e_astore (k := 13) (xi30 13) (Nat.le_of_ble_eq_true rfl) (by omega) ?_
      show x_Ev 30 14 [.inr 156, .inr 1, .inl (i), .inr (3 + 7 * i), x4] [] (0, 0) (z, P, M) _
      refine e_aload (k := 14) (xi30 14) rfl (by decide) ?_
      refine e_aload (k := 15) (xi30 15) rfl (by omega) ?_
      refine e_callR (k := 16) (c1 := 0) (c2 := 0) (rest := []) (as := [.inr 1, .inr (3 + 7 * i)]) (xi30 16) (by decide) xm51 rfl ⟨rfl, Nat.le_of_ble_eq_true rfl, by decide⟩ (Or.inr (x_okt (ok_town hS))) (k_surplusAt hS tl0.1 i (show 0 ≤ i ∧ i < 12 by omega) ) ?_
      rintro v_ h_ ⟨e2, q4⟩
      cases e2
      show x_Ev 30 17 [.inr 156, .inr 1, .inl (i), .inr (3 + 7 * i), x4] [.inl (v_surplusAt i M)] (0, 0) (z, P, M) _
      refine e_istore (k := 17) (xi30 17) (Nat.le_of_ble_eq_true rfl) ?_
      show x_Ev 30 18 [.inr 156, .inr 1, .inl (i), .inr (3 + 7 * i), .inl (v_surplusAt i M)] [] (0, 0) (z, P, M) _
      refine e_iload (k := 18) (xi30 18) rfl ?_
      refine e_z_eq (k := 19) (xi30 19) (fun c1 => ?_) (fun c1 => ?_)
      · skip
        refine e_iinc (w := 1 + i) (k := 49) (xi30 49) rfl (x_wn (by omega)) ?_
        show x_Ev 30 50 [.inr 156, .inr 1, .inl (1 + i), .inr (3 + 7 * i), .inl (v_surplusAt i M)] [] (0, 0) (z, P, M) _
        refine e_goto (k := 50) (xi30 50) ?_
        rw [(show w_gather_a (k + 1) M i = w_gather_a k M (1 + i) from by rw [w_gather_a, if_neg c0, if_pos c1])]
        rw [(show z_gather_a (k + 1) M i = z_gather_a k M (1 + i) from by rw [z_gather_a, if_neg c0, if_pos c1])]
        exact ih _ _ M (1 + i) tl0 (by omega) (by omega)
      · skip
        refine e_aload (k := 20) (xi30 20) rfl (by decide) ?_
        have t5 := ty_tour4 tl0.1 
        refine e_getI (j := 4) (w := M 156 4) (k := 21) (xi30 21) (ok_tour hS) rfl rfl ?_
        refine e_iconst (k := 22) (xi30 22) ?_
        refine e_c_ge (k := 23) (xi30 23) (fun c2 => ?_) (fun c2 => ?_)
        · skip
          refine e_iconst (k := 29) (xi30 29) ?_
          refine e_zret (k := 30) (xi30 30) (by first | decide | omega) ?_
          exact y_fW (Q := fun v => 0 ≤ v ∧ v ≤ 1) (show w_gather_a (k + 1) M i = 0 from by rw [w_gather_a, if_neg c0, if_neg c1, if_pos c2]) (show z_gather_a (k + 1) M i = M from by rw [z_gather_a, if_neg c0, if_neg c1, if_pos c2]) tl0 (by omega)
        · skip
          refine e_aload (k := 24) (xi30 24) rfl (by omega) ?_
          refine e_callR (k := 25) (c1 := 0) (c2 := 0) (rest := []) (as := [.inr (3 + 7 * i)]) (xi30 25) (by decide) xm22 rfl ⟨rfl, Nat.le_of_ble_eq_true rfl, by decide⟩ (Or.inr (x_okt (ok_st hS (show 0 ≤ i ∧ i < 12 by omega)))) (k_freeDocks hS tl0.1 i (show 0 ≤ i ∧ i < 12 by omega) ) ?_
          rintro v_ h_ ⟨e6, q8⟩
          cases e6
          show x_Ev 30 26 [.inr 156, .inr 1, .inl (i), .inr (3 + 7 * i), .inl (v_surplusAt i M)] [.inl (v_freeDocks i M)] (0, 0) (z, P, M) _
          refine e_iload (k := 26) (xi30 26) rfl ?_
          refine e_ineg (w := -v_surplusAt i M) (k := 27) (xi30 27) (x_wn (by omega)) ?_
          refine e_c_ge (k := 28) (xi30 28) (fun c3 => ?_) (fun c3 => ?_)
          · skip
            refine e_aload (k := 31) (xi30 31) rfl (by decide) ?_
            refine e_getR (j := 2) (w := 158) (k := 32) (xi30 32) (ok_tour hS) rfl (sh_t2 hS) ?_
            refine e_aload (k := 33) (xi30 33) rfl (by decide) ?_
            refine e_getI (j := 4) (w := M 156 4) (k := 34) (xi30 34) (ok_tour hS) rfl rfl ?_
            refine e_iload (k := 35) (xi30 35) rfl ?_
            refine e_iast (k := 36) (xi30 36) (ok_t2 hS) (by rw [ln_t2]; omega) ?_
            have tl9 : y_TL 0 M0 (x_up M 158 (M 156 4) i) := tl_up tl0 (sl_t2 (j := M 156 4)  (by omega)) (nf_t2 (j := M 156 4) )
            refine e_aload (k := 37) (xi30 37) rfl (by decide) ?_
            refine e_getR (j := 3) (w := 159) (k := 38) (xi30 38) (ok_tour hS) rfl (sh_t3 hS) ?_
            refine e_aload (k := 39) (xi30 39) rfl (by decide) ?_
            refine e_getI (j := 4) (w := M 156 4) (k := 40) (xi30 40) (ok_tour hS) rfl (((x_up_ne (by omega)).trans rfl)) ?_
            refine e_iload (k := 41) (xi30 41) rfl ?_
            refine e_iast (k := 42) (xi30 42) (ok_t3 hS) (by rw [ln_t3]; omega) ?_
            have tl10 : y_TL 0 M0 (x_up ((x_up M 158 (M 156 4) i)) 159 (M 156 4) (v_surplusAt i M)) := tl_up tl9 (sl_t3 (j := M 156 4)  (by omega)) (nf_t3 (j := M 156 4) )
            refine e_aload (k := 43) (xi30 43) rfl (by decide) ?_
            refine e_dup (k := 44) (xi30 44) ?_
            refine e_getI (j := 4) (w := M 156 4) (k := 45) (xi30 45) (ok_tour hS) rfl (((x_up_ne (by omega)).trans (((x_up_ne (by omega)).trans rfl)))) ?_
            refine e_iconst (k := 46) (xi30 46) ?_
            refine e_iadd (w := 1 + M 156 4) (k := 47) (xi30 47) (x_wn (by omega)) ?_
            refine e_putI (j := 4) (k := 48) (xi30 48) (ok_tour hS) rfl ?_
            have tl11 : y_TL 0 M0 (x_up ((x_up ((x_up M 158 (M 156 4) i)) 159 (M 156 4) (v_surplusAt i M))) 156 4 (1 + M 156 4)) := tl_up tl10 (sl_tour4  (by omega)) (nf_tour4 )
            refine e_iinc (w := 1 + i) (k := 49) (xi30 49) rfl (x_wn (by omega)) ?_
            show x_Ev 30 50 [.inr 156, .inr 1, .inl (1 + i), .inr (3 + 7 * i), .inl (v_surplusAt i M)] [] (0, 0) (z, P, (x_up ((x_up ((x_up M 158 (M 156 4) i)) 159 (M 156 4) (v_surplusAt i M))) 156 4 (1 + M 156 4))) _
            refine e_goto (k := 50) (xi30 50) ?_
            rw [(show w_gather_a (k + 1) M i = w_gather_a k ((x_up ((x_up ((x_up M 158 (M 156 4) i)) 159 (M 156 4) (v_surplusAt i M))) 156 4 (1 + M 156 4))) (1 + i) from by rw [w_gather_a, if_neg c0, if_neg c1, if_neg c2, if_pos c3])]
            rw [(show z_gather_a (k + 1) M i = z_gather_a k ((x_up ((x_up ((x_up M 158 (M 156 4) i)) 159 (M 156 4) (v_surplusAt i M))) 156 4 (1 + M 156 4))) (1 + i) from by rw [z_gather_a, if_neg c0, if_neg c1, if_neg c2, if_pos c3])]
            exact ih _ _ ((x_up ((x_up ((x_up M 158 (M 156 4) i)) 159 (M 156 4) (v_surplusAt i M))) 156 4 (1 + M 156 4))) (1 + i) tl11 (by omega) (by omega)
          · skip
            refine e_iconst (k := 29) (xi30 29) ?_
            refine e_zret (k := 30) (xi30 30) (by first | decide | omega) ?_
            exact y_fW (Q := fun v => 0 ≤ v ∧ v ≤ 1) (show w_gather_a (k + 1) M i = 0 from by rw [w_gather_a, if_neg c0, if_neg c1, if_neg c2, if_neg c3]) (show z_gather_a (k + 1) M i = M from by rw [z_gather_a, if_neg c0, if_neg c1, if_neg c2, if_neg c3]) tl0 (by omega)
def v_gather (M : Int → Int → Int) : Int := w_gather_a 13 ((x_up M 156 4 0)) 0
def u_gather (M : Int → Int → Int) : Int → Int → Int := (z_gather_a 13 ((x_up M 156 4 0)) 0)
theorem k_gather {z : Int} {P M : Int → Int → Int} (hS : x_Sh z P) (hT : y_TC M)    : x_CallR 30 [.inr 156, .inr 1] (z, P, M) (fun q => q = (some (.inl (v_gather M)), (z, P, u_gather M)) ∧ y_TL 0 M (u_gather M) ∧ (fun v => 0 ≤ v ∧ v ≤ 1) (v_gather M)) := by
  have tl0 : y_TL 0 M M := tl_refl hT
  refine e_body (ls0 := [.inr 156, .inr 1, x_un, x_un, x_un]) xm30 rfl ?_
  refine e_aload (k := 0) (xi30 0) rfl (by decide) ?_
  refine e_iconst (k := 1) (xi30 1) ?_
  refine e_putI (j := 4) (k := 2) (xi30 2) (ok_tour hS) rfl ?_
  have tl1 : y_TL 0 M (x_up M 156 4 0) := tl_up tl0 (sl_tour4  (by omega)) (nf_tour4 )
  refine e_iconst (k := 3) (xi30 3) ?_
  refine e_istore (k := 4) (xi30 4) (Nat.le_of_ble_eq_true rfl) ?_
  show x_Ev 30 5 [.inr 156, .inr 1, .inl 0, x_un, x_un] [] (0, 0) (z, P, (x_up M 156 4 0)) _
  refine x_ev_mono (kw_gather_a hS      13 _ _ ((x_up M 156 4 0)) 0 tl1 (by omega) (by omega)) ?_
  rintro _ ⟨e2, tl3, q4⟩
  cases e2
  exact y_fW (Q := fun v => 0 ≤ v ∧ v ≤ 1) (show v_gather M = w_gather_a 13 ((x_up M 156 4 0)) 0 from rfl) (show u_gather M = (z_gather_a 13 ((x_up M 156 4 0)) 0) from rfl) tl3 (by omega)
def l_addUpHeld_b (se : Int) : Nat → (Int → Int → Int) → Int → (Int → Int → Int) × Int
  | 0, M, i => (M, i)
  | k + 1, M, i => if M 156 4 ≤ i then (M, i) else if ¬ y_and (y_shr se i) 1 = 1 then l_addUpHeld_b se k M (1 + i) else l_addUpHeld_b se k ((x_up M 160 se (x_w (M 160 se + M 159 i)))) (1 + i)
theorem kl_addUpHeld_b {z : Int} {P M0 : Int → Int → Int} {r : Option xV × xH → Prop} (hS : x_Sh z P) (se : Int)    : ∀ k : Nat, ∀ M : (Int → Int → Int), ∀ i : Int, y_TL 0 M0 M → ((0 ≤ i ∧ i ≤ 7) ∧ 0 ≤ se ∧ se ≤ 127) → 7 - i < (k : Int) → (y_TL 0 M0 ((l_addUpHeld_b se k M i).1) → True → x_Ev 32 37 [.inr 156, .inl (se), .inl ((l_addUpHeld_b se k M i).2)] [] (0, 0) (z, P, (l_addUpHeld_b se k M i).1) r) → x_Ev 32 13 [.inr 156, .inl (se), .inl (i)] [] (0, 0) (z, P, M) r := by
  intro k
  induction k with
  | zero => intro M i tl0 hi hm; omega
  | succ k ih =>
    intro M i tl0 hi hm kk
    refine e_iload (k := 13) (xi32 13) rfl ?_
    refine e_aload (k := 14) (xi32 14) rfl (by decide) ?_
    have t1 := ty_tour4 tl0.1 
    refine e_getI (j := 4) (w := M 156 4) (k := 15) (xi32 15) (ok_tour hS) rfl rfl ?_
    refine e_c_ge (k := 16) (xi32 16) (fun c0 => ?_) (fun c0 => ?_)
    · skip
      rw [(show l_addUpHeld_b se (k + 1) M i = (M, i) from by rw [l_addUpHeld_b, if_pos c0])] at kk
      try dsimp only at kk
      exact kk tl0 (by first | exact trivial | omega)
    · skip
      refine e_iload (k := 17) (xi32 17) rfl ?_
      refine e_iload (k := 18) (xi32 18) rfl ?_
      refine e_ishr (w := y_shr se i) (k := 19) (xi32 19) rfl ?_
      refine e_iconst (k := 20) (xi32 20) ?_
      refine e_iand (w := y_and (y_shr se i) 1) (k := 21) (xi32 21) rfl ?_
      refine e_iconst (k := 22) (xi32 22) ?_
      refine e_c_ne (k := 23) (xi32 23) (fun c1 => ?_) (fun c1 => ?_)
      · skip
        refine e_iinc (w := 1 + i) (k := 35) (xi32 35) rfl (x_wn (by omega)) ?_
        show x_Ev 32 36 [.inr 156, .inl (se), .inl (1 + i)] [] (0, 0) (z, P, M) _
        refine e_goto (k := 36) (xi32 36) ?_
        rw [(show l_addUpHeld_b se (k + 1) M i = l_addUpHeld_b se k M (1 + i) from by rw [l_addUpHeld_b, if_neg c0, if_pos c1])] at kk
        exact ih M (1 + i) tl0 (by omega) (by omega) kk
      · skip
        refine e_aload (k := 24) (xi32 24) rfl (by decide) ?_
        refine e_getR (j := 5) (w := 160) (k := 25) (xi32 25) (ok_tour hS) rfl (sh_t5 hS) ?_
        refine e_iload (k := 26) (xi32 26) rfl ?_
        refine e_dup2 (k := 27) (xi32 27) ?_
        refine e_iald (w := M 160 se) (k := 28) (xi32 28) (ok_t5 hS) (by rw [ln_t5]; omega) rfl ?_
        refine e_aload (k := 29) (xi32 29) rfl (by decide) ?_
        refine e_getR (j := 3) (w := 159) (k := 30) (xi32 30) (ok_tour hS) rfl (sh_t3 hS) ?_
        refine e_iload (k := 31) (xi32 31) rfl ?_
        have t2 := ty_t3 (j := i) tl0.1 
        refine e_iald (w := M 159 i) (k := 32) (xi32 32) (ok_t3 hS) (by rw [ln_t3]; omega) rfl ?_
        refine e_iadd (w := x_w (M 160 se + M 159 i)) (k := 33) (xi32 33) (x_wr (by omega)) ?_
        refine e_iast (k := 34) (xi32 34) (ok_t5 hS) (by rw [ln_t5]; omega) ?_
        have tl3 : y_TL 0 M0 (x_up M 160 se (x_w (M 160 se + M 159 i))) := tl_up tl0 (sl_t5 (j := se)  ) (nf_t5 (j := se) )
        refine e_iinc (w := 1 + i) (k := 35) (xi32 35) rfl (x_wn (by omega)) ?_
        show x_Ev 32 36 [.inr 156, .inl (se), .inl (1 + i)] [] (0, 0) (z, P, (x_up M 160 se (x_w (M 160 se + M 159 i)))) _
        refine e_goto (k := 36) (xi32 36) ?_
        rw [(show l_addUpHeld_b se (k + 1) M i = l_addUpHeld_b se k ((x_up M 160 se (x_w (M 160 se + M 159 i)))) (1 + i) from by rw [l_addUpHeld_b, if_neg c0, if_neg c1])] at kk
        exact ih ((x_up M 160 se (x_w (M 160 se + M 159 i)))) (1 + i) tl3 (by omega) (by omega) kk
def l_addUpHeld_a : Nat → (Int → Int → Int) → Int → (Int → Int → Int) × Int
  | 0, M, se => (M, se)
  | k + 1, M, se => if v_allStands M < se then (M, se) else l_addUpHeld_a k ((l_addUpHeld_b se 8 ((x_up M 160 se 0)) 0).1) (1 + se)
theorem kl_addUpHeld_a {z : Int} {P M0 : Int → Int → Int} {r : Option xV × xH → Prop} (hS : x_Sh z P)     : ∀ k : Nat, ∀ x2 : xV, ∀ M : (Int → Int → Int), ∀ se : Int, y_TL 0 M0 M → (0 ≤ se ∧ se ≤ 128) → 128 - se < (k : Int) → (∀ x2 : xV, y_TL 0 M0 ((l_addUpHeld_a k M se).1) → True → x_Ev 32 39 [.inr 156, .inl ((l_addUpHeld_a k M se).2), x2] [] (0, 0) (z, P, (l_addUpHeld_a k M se).1) r) → x_Ev 32 2 [.inr 156, .inl (se), x2] [] (0, 0) (z, P, M) r := by
  intro k
  induction k with
  | zero => intro x2 M se tl0 hi hm; omega
  | succ k ih =>
    intro x2 M se tl0 hi hm kk
    refine e_iload (k := 2) (xi32 2) rfl ?_
    refine e_aload (k := 3) (xi32 3) rfl (by decide) ?_
    refine e_callR (k := 4) (c1 := 0) (c2 := 0) (rest := [.inl (se)]) (as := [.inr 156]) (xi32 4) (by decide) xm31 rfl ⟨rfl, Nat.le_of_ble_eq_true rfl, by decide⟩ (Or.inr (x_okt (ok_tour hS))) (k_allStands hS tl0.1   ) ?_
    rintro v_ h_ ⟨e1, q3⟩
    cases e1
    show x_Ev 32 5 [.inr 156, .inl (se), x2] [.inl (v_allStands M), .inl (se)] (0, 0) (z, P, M) _
    refine e_c_gt (k := 5) (xi32 5) (fun c0 => ?_) (fun c0 => ?_)
    · skip
      rw [(show l_addUpHeld_a (k + 1) M se = (M, se) from by rw [l_addUpHeld_a, if_pos c0])] at kk
      try dsimp only at kk
      exact kk _ tl0 (by first | exact trivial | omega)
    · skip
      refine e_aload (k := 6) (xi32 6) rfl (by decide) ?_
      refine e_getR (j := 5) (w := 160) (k := 7) (xi32 7) (ok_tour hS) rfl (sh_t5 hS) ?_
      refine e_iload (k := 8) (xi32 8) rfl ?_
      refine e_iconst (k := 9) (xi32 9) ?_
      refine e_iast (k := 10) (xi32 10) (ok_t5 hS) (by rw [ln_t5]; omega) ?_
      have tl4 : y_TL 0 M0 (x_up M 160 se 0) := tl_up tl0 (sl_t5 (j := se)  ) (nf_t5 (j := se) )
      refine e_iconst (k := 11) (xi32 11) ?_
      refine e_istore (k := 12) (xi32 12) (Nat.le_of_ble_eq_true rfl) ?_
      show x_Ev 32 13 [.inr 156, .inl (se), .inl 0] [] (0, 0) (z, P, (x_up M 160 se 0)) _
      refine kl_addUpHeld_b hS  se    8 ((x_up M 160 se 0)) 0 tl4 (by omega) (by omega) ?_
      intro tl5 q6
      show x_Ev 32 37 [.inr 156, .inl (se), .inl ((l_addUpHeld_b se 8 ((x_up M 160 se 0)) 0).2)] [] (0, 0) (z, P, (l_addUpHeld_b se 8 ((x_up M 160 se 0)) 0).1) _
      refine e_iinc (w := 1 + se) (k := 37) (xi32 37) rfl (x_wn (by omega)) ?_
      show x_Ev 32 38 [.inr 156, .inl (1 + se), .inl ((l_addUpHeld_b se 8 ((x_up M 160 se 0)) 0).2)] [] (0, 0) (z, P, (l_addUpHeld_b se 8 ((x_up M 160 se 0)) 0).1) _
      refine e_goto (k := 38) (xi32 38) ?_
      rw [(show l_addUpHeld_a (k + 1) M se = l_addUpHeld_a k ((l_addUpHeld_b se 8 ((x_up M 160 se 0)) 0).1) (1 + se) from by rw [l_addUpHeld_a, if_neg c0])] at kk
      exact ih _ ((l_addUpHeld_b se 8 ((x_up M 160 se 0)) 0).1) (1 + se) tl5 (by omega) (by omega) kk
def u_addUpHeld (M : Int → Int → Int) : Int → Int → Int := (l_addUpHeld_a 129 M 0).1
theorem k_addUpHeld {z : Int} {P M : Int → Int → Int} (hS : x_Sh z P) (hT : y_TC M)    : x_CallR 32 [.inr 156] (z, P, M) (fun q => q = (none, (z, P, u_addUpHeld M)) ∧ y_TL 0 M (u_addUpHeld M)) := by
  have tl0 : y_TL 0 M M := tl_refl hT
  refine e_body (ls0 := [.inr 156, x_un, x_un]) xm32 rfl ?_
  refine e_iconst (k := 0) (xi32 0) ?_
  refine e_istore (k := 1) (xi32 1) (Nat.le_of_ble_eq_true rfl) ?_
  show x_Ev 32 2 [.inr 156, .inl 0, x_un] [] (0, 0) (z, P, M) _
  refine kl_addUpHeld_a hS      129 _ M 0 tl0 (by omega) (by omega) ?_
  intro x3 tl1 q2
  show x_Ev 32 39 [.inr 156, .inl ((l_addUpHeld_a 129 M 0).2), x3] [] (0, 0) (z, P, (l_addUpHeld_a 129 M 0).1) _
  refine e_vret (k := 39) (xi32 39) ?_
  exact y_fU (show u_addUpHeld M = (l_addUpHeld_a 129 M 0).1 from rfl) tl1
def v_onwardBy (fr vi i : Int) (M : Int → Int → Int) : Int := v_lengthBetween fr (M 158 i) M + M 161 (7 * y_or vi (y_shl 1 i) + i)
theorem k_onwardBy {z : Int} {P M : Int → Int → Int} (hS : x_Sh z P) (hT : y_TC M) (fr : Int) (vi : Int) (i : Int)  (hvi : 0 ≤ vi ∧ vi ≤ 127) (hi : 0 ≤ i ∧ i ≤ 6) : x_CallR 35 [.inr 156, .inr 1, .inl (fr), .inl (vi), .inl (i)] (z, P, M) (fun q => q = (some (.inl (v_onwardBy fr vi i M)), (z, P, M)) ∧ (fun v => 0 ≤ v ∧ v ≤ 1000999) (v_onwardBy fr vi i M)) := by
  refine e_body (ls0 := [.inr 156, .inr 1, .inl (fr), .inl (vi), .inl (i)]) xm35 rfl ?_
  refine e_aload (k := 0) (xi35 0) rfl (by decide) ?_
  refine e_iload (k := 1) (xi35 1) rfl ?_
  refine e_aload (k := 2) (xi35 2) rfl (by decide) ?_
  refine e_getR (j := 2) (w := 158) (k := 3) (xi35 3) (ok_tour hS) rfl (sh_t2 hS) ?_
  refine e_iload (k := 4) (xi35 4) rfl ?_
  have t1 := ty_t2 (j := i) hT 
  refine e_iald (w := M 158 i) (k := 5) (xi35 5) (ok_t2 hS) (by rw [ln_t2]; omega) rfl ?_
  refine e_callR (k := 6) (c1 := 0) (c2 := 0) (rest := []) (as := [.inr 1, .inl (fr), .inl (M 158 i)]) (xi35 6) (by decide) xm52 rfl ⟨rfl, Nat.le_of_ble_eq_true rfl, by decide⟩ (Or.inr (x_okt (ok_town hS))) (k_lengthBetween hS hT fr (M 158 i)  ) ?_
  rintro v_ h_ ⟨e2, q4⟩
  cases e2
  show x_Ev 35 7 [.inr 156, .inr 1, .inl (fr), .inl (vi), .inl (i)] [.inl (v_lengthBetween fr (M 158 i) M)] (0, 0) (z, P, M) _
  refine e_aload (k := 7) (xi35 7) rfl (by decide) ?_
  refine e_getR (j := 6) (w := 161) (k := 8) (xi35 8) (ok_tour hS) rfl (sh_t6 hS) ?_
  refine e_iload (k := 9) (xi35 9) rfl ?_
  refine e_iconst (k := 10) (xi35 10) ?_
  refine e_iload (k := 11) (xi35 11) rfl ?_
  refine e_ishl (w := y_shl 1 i) (k := 12) (xi35 12) rfl ?_
  refine e_ior (w := y_or vi (y_shl 1 i)) (k := 13) (xi35 13) rfl ?_
  have b5 := y_or_in vi i (by omega) (by omega)
  refine e_iconst (k := 14) (xi35 14) ?_
  refine e_imul (w := 7 * y_or vi (y_shl 1 i)) (k := 15) (xi35 15) (x_wn (by omega)) ?_
  refine e_iload (k := 16) (xi35 16) rfl ?_
  refine e_iadd (w := 7 * y_or vi (y_shl 1 i) + i) (k := 17) (xi35 17) (x_wn (by omega)) ?_
  have t6 := ty_t6 (j := 7 * y_or vi (y_shl 1 i) + i) hT 
  refine e_iald (w := M 161 (7 * y_or vi (y_shl 1 i) + i)) (k := 18) (xi35 18) (ok_t6 hS) (by rw [ln_t6]; omega) rfl ?_
  refine e_iadd (w := v_lengthBetween fr (M 158 i) M + M 161 (7 * y_or vi (y_shl 1 i) + i)) (k := 19) (xi35 19) (x_wn (by omega)) ?_
  refine e_iret (k := 20) (xi35 20) ?_
  exact y_fV (Q := fun v => 0 ≤ v ∧ v ≤ 1000999) (show v_onwardBy fr vi i M = v_lengthBetween fr (M 158 i) M + M 161 (7 * y_or vi (y_shl 1 i) + i) from rfl) (by omega)
def l_leastOnward_a (fr vi : Int) (M : Int → Int → Int) : Nat → Int → Int → Int × Int
  | 0, m, i => (m, i)
  | k + 1, m, i => if M 156 4 ≤ i then (m, i) else if ¬ y_and (y_shr vi i) 1 = 0 then l_leastOnward_a fr vi M k m (1 + i) else l_leastOnward_a fr vi M k (min m (v_onwardBy fr vi i M)) (1 + i)
theorem kl_leastOnward_a {z : Int} {P M : Int → Int → Int} {r : Option xV × xH → Prop} (hS : x_Sh z P) (hT : y_TC M) (fr : Int) (vi : Int)   (hvi : 0 ≤ vi ∧ vi ≤ 127) : ∀ k : Nat, ∀ m : Int, ∀ i : Int, ((0 ≤ m ∧ m ≤ 1000000) ∧ 0 ≤ i ∧ i ≤ 7) → 7 - i < (k : Int) → (0 ≤ ((l_leastOnward_a fr vi M k m i).1) ∧ ((l_leastOnward_a fr vi M k m i).1) ≤ 1000000 → x_Ev 34 38 [.inr 156, .inr 1, .inl (fr), .inl (vi), .inl ((l_leastOnward_a fr vi M k m i).1), .inl ((l_leastOnward_a fr vi M k m i).2)] [] (0, 0) (z, P, M) r) → x_Ev 34 17 [.inr 156, .inr 1, .inl (fr), .inl (vi), .inl (m), .inl (i)] [] (0, 0) (z, P, M) r := by
  intro k
  induction k with
  | zero => intro m i hi hm; omega
  | succ k ih =>
    intro m i hi hm kk
    refine e_iload (k := 17) (xi34 17) rfl ?_
    refine e_aload (k := 18) (xi34 18) rfl (by decide) ?_
    have t1 := ty_tour4 hT 
    refine e_getI (j := 4) (w := M 156 4) (k := 19) (xi34 19) (ok_tour hS) rfl rfl ?_
    refine e_c_ge (k := 20) (xi34 20) (fun c0 => ?_) (fun c0 => ?_)
    · skip
      rw [(show l_leastOnward_a fr vi M (k + 1) m i = (m, i) from by rw [l_leastOnward_a, if_pos c0])] at kk
      try dsimp only at kk
      exact kk (by first | exact trivial | omega)
    · skip
      refine e_iload (k := 21) (xi34 21) rfl ?_
      refine e_iload (k := 22) (xi34 22) rfl ?_
      refine e_ishr (w := y_shr vi i) (k := 23) (xi34 23) rfl ?_
      refine e_iconst (k := 24) (xi34 24) ?_
      refine e_iand (w := y_and (y_shr vi i) 1) (k := 25) (xi34 25) rfl ?_
      refine e_z_ne (k := 26) (xi34 26) (fun c1 => ?_) (fun c1 => ?_)
      · skip
        refine e_iinc (w := 1 + i) (k := 36) (xi34 36) rfl (x_wn (by omega)) ?_
        show x_Ev 34 37 [.inr 156, .inr 1, .inl (fr), .inl (vi), .inl (m), .inl (1 + i)] [] (0, 0) (z, P, M) _
        refine e_goto (k := 37) (xi34 37) ?_
        rw [(show l_leastOnward_a fr vi M (k + 1) m i = l_leastOnward_a fr vi M k m (1 + i) from by rw [l_leastOnward_a, if_neg c0, if_pos c1])] at kk
        exact ih m (1 + i) (by omega) (by omega) kk
      · skip
        refine e_iload (k := 27) (xi34 27) rfl ?_
        refine e_aload (k := 28) (xi34 28) rfl (by decide) ?_
        refine e_aload (k := 29) (xi34 29) rfl (by decide) ?_
        refine e_iload (k := 30) (xi34 30) rfl ?_
        refine e_iload (k := 31) (xi34 31) rfl ?_
        refine e_iload (k := 32) (xi34 32) rfl ?_
        refine e_callR (k := 33) (c1 := 0) (c2 := 0) (rest := [.inl (m)]) (as := [.inr 156, .inr 1, .inl (fr), .inl (vi), .inl (i)]) (xi34 33) (by decide) xm35 rfl ⟨rfl, Nat.le_of_ble_eq_true rfl, by decide⟩ (Or.inr (x_okt (ok_tour hS))) (k_onwardBy hS hT fr vi i  (by omega) (by omega)) ?_
        rintro v_ h_ ⟨e2, q4⟩
        cases e2
        show x_Ev 34 34 [.inr 156, .inr 1, .inl (fr), .inl (vi), .inl (m), .inl (i)] [.inl (v_onwardBy fr vi i M), .inl (m)] (0, 0) (z, P, M) _
        refine e_min (k := 34) (xi34 34) (Nat.le_of_ble_eq_true rfl) ?_
        refine e_istore (k := 35) (xi34 35) (Nat.le_of_ble_eq_true rfl) ?_
        show x_Ev 34 36 [.inr 156, .inr 1, .inl (fr), .inl (vi), .inl (min m (v_onwardBy fr vi i M)), .inl (i)] [] (0, 0) (z, P, M) _
        refine e_iinc (w := 1 + i) (k := 36) (xi34 36) rfl (x_wn (by omega)) ?_
        show x_Ev 34 37 [.inr 156, .inr 1, .inl (fr), .inl (vi), .inl (min m (v_onwardBy fr vi i M)), .inl (1 + i)] [] (0, 0) (z, P, M) _
        refine e_goto (k := 37) (xi34 37) ?_
        rw [(show l_leastOnward_a fr vi M (k + 1) m i = l_leastOnward_a fr vi M k (min m (v_onwardBy fr vi i M)) (1 + i) from by rw [l_leastOnward_a, if_neg c0, if_neg c1])] at kk
        exact ih (min m (v_onwardBy fr vi i M)) (1 + i) (by omega) (by omega) kk
def v_leastOnward (fr vi : Int) (M : Int → Int → Int) : Int := if ¬ vi = v_allStands M then (l_leastOnward_a fr vi M 8 1000000 0).1 else if ¬ M 160 vi = 0 then 1000000 else 0
theorem k_leastOnward {z : Int} {P M : Int → Int → Int} (hS : x_Sh z P) (hT : y_TC M) (fr : Int) (vi : Int)  (hvi : 0 ≤ vi ∧ vi ≤ 127) : x_CallR 34 [.inr 156, .inr 1, .inl (fr), .inl (vi)] (z, P, M) (fun q => q = (some (.inl (v_leastOnward fr vi M)), (z, P, M)) ∧ (fun v => 0 ≤ v ∧ v ≤ 1000000) (v_leastOnward fr vi M)) := by
  refine e_body (ls0 := [.inr 156, .inr 1, .inl (fr), .inl (vi), x_un, x_un]) xm34 rfl ?_
  refine e_iload (k := 0) (xi34 0) rfl ?_
  refine e_aload (k := 1) (xi34 1) rfl (by decide) ?_
  refine e_callR (k := 2) (c1 := 0) (c2 := 0) (rest := [.inl (vi)]) (as := [.inr 156]) (xi34 2) (by decide) xm31 rfl ⟨rfl, Nat.le_of_ble_eq_true rfl, by decide⟩ (Or.inr (x_okt (ok_tour hS))) (k_allStands hS hT   ) ?_
  rintro v_ h_ ⟨e1, q3⟩
  cases e1
  show x_Ev 34 3 [.inr 156, .inr 1, .inl (fr), .inl (vi), x_un, x_un] [.inl (v_allStands M), .inl (vi)] (0, 0) (z, P, M) _
  refine e_c_ne (k := 3) (xi34 3) (fun c0 => ?_) (fun c0 => ?_)
  · skip
    refine e_iconst (k := 13) (xi34 13) ?_
    refine e_istore (k := 14) (xi34 14) (Nat.le_of_ble_eq_true rfl) ?_
    show x_Ev 34 15 [.inr 156, .inr 1, .inl (fr), .inl (vi), .inl 1000000, x_un] [] (0, 0) (z, P, M) _
    refine e_iconst (k := 15) (xi34 15) ?_
    refine e_istore (k := 16) (xi34 16) (Nat.le_of_ble_eq_true rfl) ?_
    show x_Ev 34 17 [.inr 156, .inr 1, .inl (fr), .inl (vi), .inl 1000000, .inl 0] [] (0, 0) (z, P, M) _
    refine kl_leastOnward_a hS hT fr vi    (by omega) 8 1000000 0 (by omega) (by omega) ?_
    intro q5
    show x_Ev 34 38 [.inr 156, .inr 1, .inl (fr), .inl (vi), .inl ((l_leastOnward_a fr vi M 8 1000000 0).1), .inl ((l_leastOnward_a fr vi M 8 1000000 0).2)] [] (0, 0) (z, P, M) _
    refine e_iload (k := 38) (xi34 38) rfl ?_
    refine e_iret (k := 39) (xi34 39) ?_
    exact y_fV (Q := fun v => 0 ≤ v ∧ v ≤ 1000000) (show v_leastOnward fr vi M = (l_leastOnward_a fr vi M 8 1000000 0).1 from by rw [v_leastOnward, if_pos c0]) (by omega)
  · skip
    refine e_aload (k := 4) (xi34 4) rfl (by decide) ?_
    refine e_getR (j := 5) (w := 160) (k := 5) (xi34 5) (ok_tour hS) rfl (sh_t5 hS) ?_
    refine e_iload (k := 6) (xi34 6) rfl ?_
    refine e_iald (w := M 160 vi) (k := 7) (xi34 7) (ok_t5 hS) (by rw [ln_t5]; omega) rfl ?_
    refine e_z_ne (k := 8) (xi34 8) (fun c1 => ?_) (fun c1 => ?_)
    · skip
      refine e_iconst (k := 11) (xi34 11) ?_
      refine e_iret (k := 12) (xi34 12) ?_
      exact y_fV (Q := fun v => 0 ≤ v ∧ v ≤ 1000000) (show v_leastOnward fr vi M = 1000000 from by rw [v_leastOnward, if_neg c0, if_pos c1]) (by omega)
    · skip
      refine e_iconst (k := 9) (xi34 9) ?_
      refine e_goto (k := 10) (xi34 10) ?_
      refine e_iret (k := 12) (xi34 12) ?_
      exact y_fV (Q := fun v => 0 ≤ v ∧ v ≤ 1000000) (show v_leastOnward fr vi M = 0 from by rw [v_leastOnward, if_neg c0, if_neg c1]) (by omega)
def v_leadsOn (fr vi i be : Int) (M : Int → Int → Int) : Int := if ¬ y_and (y_shr vi i) 1 = 0 then 0 else if ¬ v_onwardBy fr vi i M = be then 0 else 1
theorem k_leadsOn {z : Int} {P M : Int → Int → Int} (hS : x_Sh z P) (hT : y_TC M) (fr : Int) (vi : Int) (i : Int) (be : Int)  (hvi : 0 ≤ vi ∧ vi ≤ 127) (hi : 0 ≤ i ∧ i ≤ 6) : x_CallR 37 [.inr 156, .inr 1, .inl (fr), .inl (vi), .inl (i), .inl (be)] (z, P, M) (fun q => q = (some (.inl (v_leadsOn fr vi i be M)), (z, P, M)) ∧ (fun v => 0 ≤ v ∧ v ≤ 1) (v_leadsOn fr vi i be M)) := by
  refine e_body (ls0 := [.inr 156, .inr 1, .inl (fr), .inl (vi), .inl (i), .inl (be)]) xm37 rfl ?_
  refine e_iload (k := 0) (xi37 0) rfl ?_
  refine e_iload (k := 1) (xi37 1) rfl ?_
  refine e_ishr (w := y_shr vi i) (k := 2) (xi37 2) rfl ?_
  refine e_iconst (k := 3) (xi37 3) ?_
  refine e_iand (w := y_and (y_shr vi i) 1) (k := 4) (xi37 4) rfl ?_
  refine e_z_ne (k := 5) (xi37 5) (fun c0 => ?_) (fun c0 => ?_)
  · skip
    refine e_iconst (k := 16) (xi37 16) ?_
    refine e_zret (k := 17) (xi37 17) (by first | decide | omega) ?_
    exact y_fV (Q := fun v => 0 ≤ v ∧ v ≤ 1) (show v_leadsOn fr vi i be M = 0 from by rw [v_leadsOn, if_pos c0]) (by omega)
  · skip
    refine e_aload (k := 6) (xi37 6) rfl (by decide) ?_
    refine e_aload (k := 7) (xi37 7) rfl (by decide) ?_
    refine e_iload (k := 8) (xi37 8) rfl ?_
    refine e_iload (k := 9) (xi37 9) rfl ?_
    refine e_iload (k := 10) (xi37 10) rfl ?_
    refine e_callR (k := 11) (c1 := 0) (c2 := 0) (rest := []) (as := [.inr 156, .inr 1, .inl (fr), .inl (vi), .inl (i)]) (xi37 11) (by decide) xm35 rfl ⟨rfl, Nat.le_of_ble_eq_true rfl, by decide⟩ (Or.inr (x_okt (ok_tour hS))) (k_onwardBy hS hT fr vi i  (by omega) (by omega)) ?_
    rintro v_ h_ ⟨e1, q3⟩
    cases e1
    show x_Ev 37 12 [.inr 156, .inr 1, .inl (fr), .inl (vi), .inl (i), .inl (be)] [.inl (v_onwardBy fr vi i M)] (0, 0) (z, P, M) _
    refine e_iload (k := 12) (xi37 12) rfl ?_
    refine e_c_ne (k := 13) (xi37 13) (fun c1 => ?_) (fun c1 => ?_)
    · skip
      refine e_iconst (k := 16) (xi37 16) ?_
      refine e_zret (k := 17) (xi37 17) (by first | decide | omega) ?_
      exact y_fV (Q := fun v => 0 ≤ v ∧ v ≤ 1) (show v_leadsOn fr vi i be M = 0 from by rw [v_leadsOn, if_neg c0, if_pos c1]) (by omega)
    · skip
      refine e_iconst (k := 14) (xi37 14) ?_
      refine e_goto (k := 15) (xi37 15) ?_
      refine e_zret (k := 17) (xi37 17) (by first | decide | omega) ?_
      exact y_fV (Q := fun v => 0 ≤ v ∧ v ≤ 1) (show v_leadsOn fr vi i be M = 1 from by rw [v_leadsOn, if_neg c0, if_neg c1]) (by omega)
def l_measureLeft_b (ld se ft : Int) : Nat → (Int → Int → Int) → Int → (Int → Int → Int) × Int
  | 0, M, la => (M, la)
  | k + 1, M, la => if M 156 4 ≤ la then (M, la) else if ¬ y_and (y_shr se la) 1 = 1 then l_measureLeft_b ld se ft k M (1 + la) else if ft = 0 then l_measureLeft_b ld se ft k ((x_up M 161 (7 * se + la) 1000000)) (1 + la) else l_measureLeft_b ld se ft k ((x_up M 161 (7 * se + la) (v_leastOnward (M 158 la) se M))) (1 + la)
theorem kl_measureLeft_b {z : Int} {P M0 : Int → Int → Int} {r : Option xV × xH → Prop} (hS : x_Sh z P) (ld : Int) (se : Int) (ft : Int)    : ∀ k : Nat, ∀ M : (Int → Int → Int), ∀ la : Int, y_TL 0 M0 M → ((0 ≤ la ∧ la ≤ 7) ∧ 0 ≤ se ∧ se ≤ 127) → 7 - la < (k : Int) → (y_TL 0 M0 ((l_measureLeft_b ld se ft k M la).1) → True → x_Ev 33 55 [.inr 156, .inr 1, .inl (ld), .inl (se), .inl (ft), .inl ((l_measureLeft_b ld se ft k M la).2)] [] (0, 0) (z, P, (l_measureLeft_b ld se ft k M la).1) r) → x_Ev 33 22 [.inr 156, .inr 1, .inl (ld), .inl (se), .inl (ft), .inl (la)] [] (0, 0) (z, P, M) r := by
  intro k
  induction k with
  | zero => intro M la tl0 hi hm; omega
  | succ k ih =>
    intro M la tl0 hi hm kk
    refine e_iload (k := 22) (xi33 22) rfl ?_
    refine e_aload (k := 23) (xi33 23) rfl (by decide) ?_
    have t1 := ty_tour4 tl0.1 
    refine e_getI (j := 4) (w := M 156 4) (k := 24) (xi33 24) (ok_tour hS) rfl rfl ?_
    refine e_c_ge (k := 25) (xi33 25) (fun c0 => ?_) (fun c0 => ?_)
    · skip
      rw [(show l_measureLeft_b ld se ft (k + 1) M la = (M, la) from by rw [l_measureLeft_b, if_pos c0])] at kk
      try dsimp only at kk
      exact kk tl0 (by first | exact trivial | omega)
    · skip
      refine e_iload (k := 26) (xi33 26) rfl ?_
      refine e_iload (k := 27) (xi33 27) rfl ?_
      refine e_ishr (w := y_shr se la) (k := 28) (xi33 28) rfl ?_
      refine e_iconst (k := 29) (xi33 29) ?_
      refine e_iand (w := y_and (y_shr se la) 1) (k := 30) (xi33 30) rfl ?_
      refine e_iconst (k := 31) (xi33 31) ?_
      refine e_c_ne (k := 32) (xi33 32) (fun c1 => ?_) (fun c1 => ?_)
      · skip
        refine e_iinc (w := 1 + la) (k := 53) (xi33 53) rfl (x_wn (by omega)) ?_
        show x_Ev 33 54 [.inr 156, .inr 1, .inl (ld), .inl (se), .inl (ft), .inl (1 + la)] [] (0, 0) (z, P, M) _
        refine e_goto (k := 54) (xi33 54) ?_
        rw [(show l_measureLeft_b ld se ft (k + 1) M la = l_measureLeft_b ld se ft k M (1 + la) from by rw [l_measureLeft_b, if_neg c0, if_pos c1])] at kk
        exact ih M (1 + la) tl0 (by omega) (by omega) kk
      · skip
        refine e_aload (k := 33) (xi33 33) rfl (by decide) ?_
        refine e_getR (j := 6) (w := 161) (k := 34) (xi33 34) (ok_tour hS) rfl (sh_t6 hS) ?_
        refine e_iload (k := 35) (xi33 35) rfl ?_
        refine e_iconst (k := 36) (xi33 36) ?_
        refine e_imul (w := 7 * se) (k := 37) (xi33 37) (x_wn (by omega)) ?_
        refine e_iload (k := 38) (xi33 38) rfl ?_
        refine e_iadd (w := 7 * se + la) (k := 39) (xi33 39) (x_wn (by omega)) ?_
        refine e_iload (k := 40) (xi33 40) rfl ?_
        refine e_z_eq (k := 41) (xi33 41) (fun c2 => ?_) (fun c2 => ?_)
        · skip
          refine e_iconst (k := 51) (xi33 51) ?_
          refine e_iast (k := 52) (xi33 52) (ok_t6 hS) (by rw [ln_t6]; omega) ?_
          have tl2 : y_TL 0 M0 (x_up M 161 (7 * se + la) 1000000) := tl_up tl0 (sl_t6 (j := 7 * se + la)  (by omega)) (nf_t6 (j := 7 * se + la) )
          refine e_iinc (w := 1 + la) (k := 53) (xi33 53) rfl (x_wn (by omega)) ?_
          show x_Ev 33 54 [.inr 156, .inr 1, .inl (ld), .inl (se), .inl (ft), .inl (1 + la)] [] (0, 0) (z, P, (x_up M 161 (7 * se + la) 1000000)) _
          refine e_goto (k := 54) (xi33 54) ?_
          rw [(show l_measureLeft_b ld se ft (k + 1) M la = l_measureLeft_b ld se ft k ((x_up M 161 (7 * se + la) 1000000)) (1 + la) from by rw [l_measureLeft_b, if_neg c0, if_neg c1, if_pos c2])] at kk
          exact ih ((x_up M 161 (7 * se + la) 1000000)) (1 + la) tl2 (by omega) (by omega) kk
        · skip
          refine e_aload (k := 42) (xi33 42) rfl (by decide) ?_
          refine e_aload (k := 43) (xi33 43) rfl (by decide) ?_
          refine e_aload (k := 44) (xi33 44) rfl (by decide) ?_
          refine e_getR (j := 2) (w := 158) (k := 45) (xi33 45) (ok_tour hS) rfl (sh_t2 hS) ?_
          refine e_iload (k := 46) (xi33 46) rfl ?_
          have t3 := ty_t2 (j := la) tl0.1 
          refine e_iald (w := M 158 la) (k := 47) (xi33 47) (ok_t2 hS) (by rw [ln_t2]; omega) rfl ?_
          refine e_iload (k := 48) (xi33 48) rfl ?_
          refine e_callR (k := 49) (c1 := 0) (c2 := 0) (rest := [.inl (7 * se + la), .inr 161]) (as := [.inr 156, .inr 1, .inl (M 158 la), .inl (se)]) (xi33 49) (by decide) xm34 rfl ⟨rfl, Nat.le_of_ble_eq_true rfl, by decide⟩ (Or.inr (x_okt (ok_tour hS))) (k_leastOnward hS tl0.1 (M 158 la) se  (by omega)) ?_
          rintro v_ h_ ⟨e4, q6⟩
          cases e4
          show x_Ev 33 50 [.inr 156, .inr 1, .inl (ld), .inl (se), .inl (ft), .inl (la)] [.inl (v_leastOnward (M 158 la) se M), .inl (7 * se + la), .inr 161] (0, 0) (z, P, M) _
          refine e_goto (k := 50) (xi33 50) ?_
          refine e_iast (k := 52) (xi33 52) (ok_t6 hS) (by rw [ln_t6]; omega) ?_
          have tl7 : y_TL 0 M0 (x_up M 161 (7 * se + la) (v_leastOnward (M 158 la) se M)) := tl_up tl0 (sl_t6 (j := 7 * se + la)  (by omega)) (nf_t6 (j := 7 * se + la) )
          refine e_iinc (w := 1 + la) (k := 53) (xi33 53) rfl (x_wn (by omega)) ?_
          show x_Ev 33 54 [.inr 156, .inr 1, .inl (ld), .inl (se), .inl (ft), .inl (1 + la)] [] (0, 0) (z, P, (x_up M 161 (7 * se + la) (v_leastOnward (M 158 la) se M))) _
          refine e_goto (k := 54) (xi33 54) ?_
          rw [(show l_measureLeft_b ld se ft (k + 1) M la = l_measureLeft_b ld se ft k ((x_up M 161 (7 * se + la) (v_leastOnward (M 158 la) se M))) (1 + la) from by rw [l_measureLeft_b, if_neg c0, if_neg c1, if_neg c2])] at kk
          exact ih ((x_up M 161 (7 * se + la) (v_leastOnward (M 158 la) se M))) (1 + la) tl7 (by omega) (by omega) kk
def l_measureLeft_a (ld : Int) : Nat → (Int → Int → Int) → Int → (Int → Int → Int) × Int
  | 0, M, se => (M, se)
  | k + 1, M, se => if se ≤ 0 then (M, se) else if M 160 se < 0 then l_measureLeft_a ld k ((l_measureLeft_b ld se 0 8 M 0).1) ((-1) + se) else if ld < M 160 se then l_measureLeft_a ld k ((l_measureLeft_b ld se 0 8 M 0).1) ((-1) + se) else l_measureLeft_a ld k ((l_measureLeft_b ld se 1 8 M 0).1) ((-1) + se)
theorem kl_measureLeft_a {z : Int} {P M0 : Int → Int → Int} {r : Option xV × xH → Prop} (hS : x_Sh z P) (ld : Int)    : ∀ k : Nat, ∀ x4 x5 : xV, ∀ M : (Int → Int → Int), ∀ se : Int, y_TL 0 M0 M → (0 ≤ se ∧ se ≤ 127) → se < (k : Int) → (∀ x4 x5 : xV, y_TL 0 M0 ((l_measureLeft_a ld k M se).1) → True → x_Ev 33 57 [.inr 156, .inr 1, .inl (ld), .inl ((l_measureLeft_a ld k M se).2), x4, x5] [] (0, 0) (z, P, (l_measureLeft_a ld k M se).1) r) → x_Ev 33 3 [.inr 156, .inr 1, .inl (ld), .inl (se), x4, x5] [] (0, 0) (z, P, M) r := by
  intro k
  induction k with
  | zero => intro x4 x5 M se tl0 hi hm; omega
  | succ k ih =>
    intro x4 x5 M se tl0 hi hm kk
    refine e_iload (k := 3) (xi33 3) rfl ?_
    refine e_z_le (k := 4) (xi33 4) (fun c0 => ?_) (fun c0 => ?_)
    · skip
      rw [(show l_measureLeft_a ld (k + 1) M se = (M, se) from by rw [l_measureLeft_a, if_pos c0])] at kk
      try dsimp only at kk
      exact kk _ _ tl0 (by first | exact trivial | omega)
    · skip
      refine e_aload (k := 5) (xi33 5) rfl (by decide) ?_
      refine e_getR (j := 5) (w := 160) (k := 6) (xi33 6) (ok_tour hS) rfl (sh_t5 hS) ?_
      refine e_iload (k := 7) (xi33 7) rfl ?_
      refine e_iald (w := M 160 se) (k := 8) (xi33 8) (ok_t5 hS) (by rw [ln_t5]; omega) rfl ?_
      refine e_z_lt (k := 9) (xi33 9) (fun c1 => ?_) (fun c1 => ?_)
      · skip
        refine e_iconst (k := 18) (xi33 18) ?_
        refine e_istore (k := 19) (xi33 19) (Nat.le_of_ble_eq_true rfl) ?_
        show x_Ev 33 20 [.inr 156, .inr 1, .inl (ld), .inl (se), .inl 0, x5] [] (0, 0) (z, P, M) _
        refine e_iconst (k := 20) (xi33 20) ?_
        refine e_istore (k := 21) (xi33 21) (Nat.le_of_ble_eq_true rfl) ?_
        show x_Ev 33 22 [.inr 156, .inr 1, .inl (ld), .inl (se), .inl 0, .inl 0] [] (0, 0) (z, P, M) _
        refine kl_measureLeft_b hS ld se 0    8 M 0 tl0 (by omega) (by omega) ?_
        intro tl1 q2
        show x_Ev 33 55 [.inr 156, .inr 1, .inl (ld), .inl (se), .inl 0, .inl ((l_measureLeft_b ld se 0 8 M 0).2)] [] (0, 0) (z, P, (l_measureLeft_b ld se 0 8 M 0).1) _
        refine e_iinc (w := (-1) + se) (k := 55) (xi33 55) rfl (x_wn (by omega)) ?_
        show x_Ev 33 56 [.inr 156, .inr 1, .inl (ld), .inl ((-1) + se), .inl 0, .inl ((l_measureLeft_b ld se 0 8 M 0).2)] [] (0, 0) (z, P, (l_measureLeft_b ld se 0 8 M 0).1) _
        refine e_goto (k := 56) (xi33 56) ?_
        rw [(show l_measureLeft_a ld (k + 1) M se = l_measureLeft_a ld k ((l_measureLeft_b ld se 0 8 M 0).1) ((-1) + se) from by rw [l_measureLeft_a, if_neg c0, if_pos c1])] at kk
        exact ih _ _ ((l_measureLeft_b ld se 0 8 M 0).1) ((-1) + se) tl1 (by omega) (by omega) kk
      · skip
        refine e_aload (k := 10) (xi33 10) rfl (by decide) ?_
        refine e_getR (j := 5) (w := 160) (k := 11) (xi33 11) (ok_tour hS) rfl (sh_t5 hS) ?_
        refine e_iload (k := 12) (xi33 12) rfl ?_
        refine e_iald (w := M 160 se) (k := 13) (xi33 13) (ok_t5 hS) (by rw [ln_t5]; omega) rfl ?_
        refine e_iload (k := 14) (xi33 14) rfl ?_
        refine e_c_gt (k := 15) (xi33 15) (fun c2 => ?_) (fun c2 => ?_)
        · skip
          refine e_iconst (k := 18) (xi33 18) ?_
          refine e_istore (k := 19) (xi33 19) (Nat.le_of_ble_eq_true rfl) ?_
          show x_Ev 33 20 [.inr 156, .inr 1, .inl (ld), .inl (se), .inl 0, x5] [] (0, 0) (z, P, M) _
          refine e_iconst (k := 20) (xi33 20) ?_
          refine e_istore (k := 21) (xi33 21) (Nat.le_of_ble_eq_true rfl) ?_
          show x_Ev 33 22 [.inr 156, .inr 1, .inl (ld), .inl (se), .inl 0, .inl 0] [] (0, 0) (z, P, M) _
          refine kl_measureLeft_b hS ld se 0    8 M 0 tl0 (by omega) (by omega) ?_
          intro tl3 q4
          show x_Ev 33 55 [.inr 156, .inr 1, .inl (ld), .inl (se), .inl 0, .inl ((l_measureLeft_b ld se 0 8 M 0).2)] [] (0, 0) (z, P, (l_measureLeft_b ld se 0 8 M 0).1) _
          refine e_iinc (w := (-1) + se) (k := 55) (xi33 55) rfl (x_wn (by omega)) ?_
          show x_Ev 33 56 [.inr 156, .inr 1, .inl (ld), .inl ((-1) + se), .inl 0, .inl ((l_measureLeft_b ld se 0 8 M 0).2)] [] (0, 0) (z, P, (l_measureLeft_b ld se 0 8 M 0).1) _
          refine e_goto (k := 56) (xi33 56) ?_
          rw [(show l_measureLeft_a ld (k + 1) M se = l_measureLeft_a ld k ((l_measureLeft_b ld se 0 8 M 0).1) ((-1) + se) from by rw [l_measureLeft_a, if_neg c0, if_neg c1, if_pos c2])] at kk
          exact ih _ _ ((l_measureLeft_b ld se 0 8 M 0).1) ((-1) + se) tl3 (by omega) (by omega) kk
        · skip
          refine e_iconst (k := 16) (xi33 16) ?_
          refine e_goto (k := 17) (xi33 17) ?_
          refine e_istore (k := 19) (xi33 19) (Nat.le_of_ble_eq_true rfl) ?_
          show x_Ev 33 20 [.inr 156, .inr 1, .inl (ld), .inl (se), .inl 1, x5] [] (0, 0) (z, P, M) _
          refine e_iconst (k := 20) (xi33 20) ?_
          refine e_istore (k := 21) (xi33 21) (Nat.le_of_ble_eq_true rfl) ?_
          show x_Ev 33 22 [.inr 156, .inr 1, .inl (ld), .inl (se), .inl 1, .inl 0] [] (0, 0) (z, P, M) _
          refine kl_measureLeft_b hS ld se 1    8 M 0 tl0 (by omega) (by omega) ?_
          intro tl5 q6
          show x_Ev 33 55 [.inr 156, .inr 1, .inl (ld), .inl (se), .inl 1, .inl ((l_measureLeft_b ld se 1 8 M 0).2)] [] (0, 0) (z, P, (l_measureLeft_b ld se 1 8 M 0).1) _
          refine e_iinc (w := (-1) + se) (k := 55) (xi33 55) rfl (x_wn (by omega)) ?_
          show x_Ev 33 56 [.inr 156, .inr 1, .inl (ld), .inl ((-1) + se), .inl 1, .inl ((l_measureLeft_b ld se 1 8 M 0).2)] [] (0, 0) (z, P, (l_measureLeft_b ld se 1 8 M 0).1) _
          refine e_goto (k := 56) (xi33 56) ?_
          rw [(show l_measureLeft_a ld (k + 1) M se = l_measureLeft_a ld k ((l_measureLeft_b ld se 1 8 M 0).1) ((-1) + se) from by rw [l_measureLeft_a, if_neg c0, if_neg c1, if_neg c2])] at kk
          exact ih _ _ ((l_measureLeft_b ld se 1 8 M 0).1) ((-1) + se) tl5 (by omega) (by omega) kk
def u_measureLeft (ld : Int) (M : Int → Int → Int) : Int → Int → Int := (l_measureLeft_a ld 129 M (v_allStands M)).1
theorem k_measureLeft {z : Int} {P M : Int → Int → Int} (hS : x_Sh z P) (hT : y_TC M) (ld : Int)   : x_CallR 33 [.inr 156, .inr 1, .inl (ld)] (z, P, M) (fun q => q = (none, (z, P, u_measureLeft ld M)) ∧ y_TL 0 M (u_measureLeft ld M)) := by
  have tl0 : y_TL 0 M M := tl_refl hT
  refine e_body (ls0 := [.inr 156, .inr 1, .inl (ld), x_un, x_un, x_un]) xm33 rfl ?_
  refine e_aload (k := 0) (xi33 0) rfl (by decide) ?_
  refine e_callR (k := 1) (c1 := 0) (c2 := 0) (rest := []) (as := [.inr 156]) (xi33 1) (by decide) xm31 rfl ⟨rfl, Nat.le_of_ble_eq_true rfl, by decide⟩ (Or.inr (x_okt (ok_tour hS))) (k_allStands hS tl0.1   ) ?_
  rintro v_ h_ ⟨e1, q3⟩
  cases e1
  show x_Ev 33 2 [.inr 156, .inr 1, .inl (ld), x_un, x_un, x_un] [.inl (v_allStands M)] (0, 0) (z, P, M) _
  refine e_istore (k := 2) (xi33 2) (Nat.le_of_ble_eq_true rfl) ?_
  show x_Ev 33 3 [.inr 156, .inr 1, .inl (ld), .inl (v_allStands M), x_un, x_un] [] (0, 0) (z, P, M) _
  refine kl_measureLeft_a hS ld     129 _ _ M (v_allStands M) tl0 (by omega) (by omega) ?_
  intro x6 x7 tl4 q5
  show x_Ev 33 57 [.inr 156, .inr 1, .inl (ld), .inl ((l_measureLeft_a ld 129 M (v_allStands M)).2), x6, x7] [] (0, 0) (z, P, (l_measureLeft_a ld 129 M (v_allStands M)).1) _
  refine e_vret (k := 57) (xi33 57) ?_
  exact y_fU (show u_measureLeft ld M = (l_measureLeft_a ld 129 M (v_allStands M)).1 from rfl) tl4
def l_trace_b (st vi fr j be : Int) (M : Int → Int → Int) : Nat → Int → Int
  | 0, i => i
  | k + 1, i => if (-1) + M 156 4 ≤ i then i else if ¬ v_leadsOn fr vi i be M = 0 then i else l_trace_b st vi fr j be M k (1 + i)
theorem kl_trace_b {z : Int} {P M : Int → Int → Int} {r : Option xV × xH → Prop} (hS : x_Sh z P) (hT : y_TC M) (st : Int) (vi : Int) (fr : Int) (j : Int) (be : Int)  (hvi : 0 ≤ vi ∧ vi ≤ 127)  : ∀ k : Nat, ∀ i : Int, (0 ≤ i ∧ i ≤ 6) → 7 - i < (k : Int) → (0 ≤ ((l_trace_b st vi fr j be M k i)) ∧ ((l_trace_b st vi fr j be M k i)) ≤ 6 → x_Ev 36 34 [.inr 156, .inr 1, .inl (st), .inl (vi), .inl (fr), .inl (j), .inl (be), .inl ((l_trace_b st vi fr j be M k i))] [] (0, 0) (z, P, M) r) → x_Ev 36 18 [.inr 156, .inr 1, .inl (st), .inl (vi), .inl (fr), .inl (j), .inl (be), .inl (i)] [] (0, 0) (z, P, M) r := by
  intro k
  induction k with
  | zero => intro i hi hm; omega
  | succ k ih =>
    intro i hi hm kk
    refine e_iload (k := 18) (xi36 18) rfl ?_
    refine e_aload (k := 19) (xi36 19) rfl (by decide) ?_
    have t1 := ty_tour4 hT 
    refine e_getI (j := 4) (w := M 156 4) (k := 20) (xi36 20) (ok_tour hS) rfl rfl ?_
    refine e_iconst (k := 21) (xi36 21) ?_
    refine e_isub (w := (-1) + M 156 4) (k := 22) (xi36 22) (x_wn (by omega)) ?_
    refine e_c_ge (k := 23) (xi36 23) (fun c0 => ?_) (fun c0 => ?_)
    · skip
      rw [(show l_trace_b st vi fr j be M (k + 1) i = i from by rw [l_trace_b, if_pos c0])] at kk
      try dsimp only at kk
      exact kk (by first | exact trivial | omega)
    · skip
      refine e_aload (k := 24) (xi36 24) rfl (by decide) ?_
      refine e_aload (k := 25) (xi36 25) rfl (by decide) ?_
      refine e_iload (k := 26) (xi36 26) rfl ?_
      refine e_iload (k := 27) (xi36 27) rfl ?_
      refine e_iload (k := 28) (xi36 28) rfl ?_
      refine e_iload (k := 29) (xi36 29) rfl ?_
      refine e_callR (k := 30) (c1 := 0) (c2 := 0) (rest := []) (as := [.inr 156, .inr 1, .inl (fr), .inl (vi), .inl (i), .inl (be)]) (xi36 30) (by decide) xm37 rfl ⟨rfl, Nat.le_of_ble_eq_true rfl, by decide⟩ (Or.inr (x_okt (ok_tour hS))) (k_leadsOn hS hT fr vi i be  (by omega) (by omega)) ?_
      rintro v_ h_ ⟨e2, q4⟩
      cases e2
      show x_Ev 36 31 [.inr 156, .inr 1, .inl (st), .inl (vi), .inl (fr), .inl (j), .inl (be), .inl (i)] [.inl (v_leadsOn fr vi i be M)] (0, 0) (z, P, M) _
      refine e_z_ne (k := 31) (xi36 31) (fun c1 => ?_) (fun c1 => ?_)
      · skip
        rw [(show l_trace_b st vi fr j be M (k + 1) i = i from by rw [l_trace_b, if_neg c0, if_pos c1])] at kk
        try dsimp only at kk
        exact kk (by first | exact trivial | omega)
      · skip
        refine e_iinc (w := 1 + i) (k := 32) (xi36 32) rfl (x_wn (by omega)) ?_
        show x_Ev 36 33 [.inr 156, .inr 1, .inl (st), .inl (vi), .inl (fr), .inl (j), .inl (be), .inl (1 + i)] [] (0, 0) (z, P, M) _
        refine e_goto (k := 33) (xi36 33) ?_
        rw [(show l_trace_b st vi fr j be M (k + 1) i = l_trace_b st vi fr j be M k (1 + i) from by rw [l_trace_b, if_neg c0, if_neg c1])] at kk
        exact ih (1 + i) (by omega) (by omega) kk
def l_trace_a (st : Int) : Nat → (Int → Int → Int) → Int → Int → Int → (Int → Int → Int) × Int × Int × Int
  | 0, M, vi, fr, j => (M, vi, fr, j)
  | k + 1, M, vi, fr, j => if M 156 4 ≤ j then (M, vi, fr, j) else l_trace_a st k ((x_up M 157 j (M 158 ((l_trace_b st vi fr j (v_leastOnward fr vi M) M 8 0))))) (y_or vi (y_shl 1 ((l_trace_b st vi fr j (v_leastOnward fr vi M) M 8 0)))) (M 158 ((l_trace_b st vi fr j (v_leastOnward fr vi M) M 8 0))) (1 + j)
theorem kl_trace_a {z : Int} {P M0 : Int → Int → Int} {r : Option xV × xH → Prop} (hS : x_Sh z P) (st : Int)    : ∀ k : Nat, ∀ x6 x7 : xV, ∀ M : (Int → Int → Int), ∀ vi : Int, ∀ fr : Int, ∀ j : Int, y_TL 0 M0 M → ((0 ≤ vi ∧ vi ≤ 127) ∧ 0 ≤ j ∧ j ≤ 7) → 7 - j < (k : Int) → (∀ x6 x7 : xV, y_TL 0 M0 ((l_trace_a st k M vi fr j).1) → True → x_Ev 36 55 [.inr 156, .inr 1, .inl (st), .inl ((l_trace_a st k M vi fr j).2.1), .inl ((l_trace_a st k M vi fr j).2.2.1), .inl ((l_trace_a st k M vi fr j).2.2.2), x6, x7] [] (0, 0) (z, P, (l_trace_a st k M vi fr j).1) r) → x_Ev 36 6 [.inr 156, .inr 1, .inl (st), .inl (vi), .inl (fr), .inl (j), x6, x7] [] (0, 0) (z, P, M) r := by
  intro k
  induction k with
  | zero => intro x6 x7 M vi fr j tl0 hi hm; omega
  | succ k ih =>
    intro x6 x7 M vi fr j tl0 hi hm kk
    refine e_iload (k := 6) (xi36 6) rfl ?_
    refine e_aload (k := 7) (xi36 7) rfl (by decide) ?_
    have t1 := ty_tour4 tl0.1 
    refine e_getI (j := 4) (w := M 156 4) (k := 8) (xi36 8) (ok_tour hS) rfl rfl ?_
    refine e_c_ge (k := 9) (xi36 9) (fun c0 => ?_) (fun c0 => ?_)
    · skip
      rw [(show l_trace_a st (k + 1) M vi fr j = (M, vi, fr, j) from by rw [l_trace_a, if_pos c0])] at kk
      try dsimp only at kk
      exact kk _ _ tl0 (by first | exact trivial | omega)
    · skip
      refine e_aload (k := 10) (xi36 10) rfl (by decide) ?_
      refine e_aload (k := 11) (xi36 11) rfl (by decide) ?_
      refine e_iload (k := 12) (xi36 12) rfl ?_
      refine e_iload (k := 13) (xi36 13) rfl ?_
      refine e_callR (k := 14) (c1 := 0) (c2 := 0) (rest := []) (as := [.inr 156, .inr 1, .inl (fr), .inl (vi)]) (xi36 14) (by decide) xm34 rfl ⟨rfl, Nat.le_of_ble_eq_true rfl, by decide⟩ (Or.inr (x_okt (ok_tour hS))) (k_leastOnward hS tl0.1 fr vi  (by omega)) ?_
      rintro v_ h_ ⟨e2, q4⟩
      cases e2
      show x_Ev 36 15 [.inr 156, .inr 1, .inl (st), .inl (vi), .inl (fr), .inl (j), x6, x7] [.inl (v_leastOnward fr vi M)] (0, 0) (z, P, M) _
      refine e_istore (k := 15) (xi36 15) (Nat.le_of_ble_eq_true rfl) ?_
      show x_Ev 36 16 [.inr 156, .inr 1, .inl (st), .inl (vi), .inl (fr), .inl (j), .inl (v_leastOnward fr vi M), x7] [] (0, 0) (z, P, M) _
      refine e_iconst (k := 16) (xi36 16) ?_
      refine e_istore (k := 17) (xi36 17) (Nat.le_of_ble_eq_true rfl) ?_
      show x_Ev 36 18 [.inr 156, .inr 1, .inl (st), .inl (vi), .inl (fr), .inl (j), .inl (v_leastOnward fr vi M), .inl 0] [] (0, 0) (z, P, M) _
      refine kl_trace_b hS tl0.1 st vi fr j (v_leastOnward fr vi M)   (by omega) 8 0 (by omega) (by omega) ?_
      intro q6
      show x_Ev 36 34 [.inr 156, .inr 1, .inl (st), .inl (vi), .inl (fr), .inl (j), .inl (v_leastOnward fr vi M), .inl ((l_trace_b st vi fr j (v_leastOnward fr vi M) M 8 0))] [] (0, 0) (z, P, M) _
      refine e_aload (k := 34) (xi36 34) rfl (by decide) ?_
      refine e_getR (j := 0) (w := 157) (k := 35) (xi36 35) (ok_tour hS) rfl (sh_t0 hS) ?_
      refine e_iload (k := 36) (xi36 36) rfl ?_
      refine e_aload (k := 37) (xi36 37) rfl (by decide) ?_
      refine e_getR (j := 2) (w := 158) (k := 38) (xi36 38) (ok_tour hS) rfl (sh_t2 hS) ?_
      refine e_iload (k := 39) (xi36 39) rfl ?_
      have t7 := ty_t2 (j := (l_trace_b st vi fr j (v_leastOnward fr vi M) M 8 0)) tl0.1 
      refine e_iald (w := M 158 ((l_trace_b st vi fr j (v_leastOnward fr vi M) M 8 0))) (k := 40) (xi36 40) (ok_t2 hS) (by rw [ln_t2]; omega) rfl ?_
      refine e_iast (k := 41) (xi36 41) (ok_t0 hS) (by rw [ln_t0]; omega) ?_
      have tl8 : y_TL 0 M0 (x_up M 157 j (M 158 ((l_trace_b st vi fr j (v_leastOnward fr vi M) M 8 0)))) := tl_up tl0 (sl_t0 (j := j)  (by omega)) (nf_t0 (j := j) )
      refine e_iload (k := 42) (xi36 42) rfl ?_
      refine e_iconst (k := 43) (xi36 43) ?_
      refine e_iload (k := 44) (xi36 44) rfl ?_
      refine e_ishl (w := y_shl 1 ((l_trace_b st vi fr j (v_leastOnward fr vi M) M 8 0))) (k := 45) (xi36 45) rfl ?_
      refine e_ior (w := y_or vi (y_shl 1 ((l_trace_b st vi fr j (v_leastOnward fr vi M) M 8 0)))) (k := 46) (xi36 46) rfl ?_
      have b9 := y_or_in vi ((l_trace_b st vi fr j (v_leastOnward fr vi M) M 8 0)) (by omega) (by omega)
      refine e_istore (k := 47) (xi36 47) (Nat.le_of_ble_eq_true rfl) ?_
      show x_Ev 36 48 [.inr 156, .inr 1, .inl (st), .inl (y_or vi (y_shl 1 ((l_trace_b st vi fr j (v_leastOnward fr vi M) M 8 0)))), .inl (fr), .inl (j), .inl (v_leastOnward fr vi M), .inl ((l_trace_b st vi fr j (v_leastOnward fr vi M) M 8 0))] [] (0, 0) (z, P, (x_up M 157 j (M 158 ((l_trace_b st vi fr j (v_leastOnward fr vi M) M 8 0))))) _
      refine e_aload (k := 48) (xi36 48) rfl (by decide) ?_
      refine e_getR (j := 2) (w := 158) (k := 49) (xi36 49) (ok_tour hS) rfl (sh_t2 hS) ?_
      refine e_iload (k := 50) (xi36 50) rfl ?_
      refine e_iald (w := M 158 ((l_trace_b st vi fr j (v_leastOnward fr vi M) M 8 0))) (k := 51) (xi36 51) (ok_t2 hS) (by rw [ln_t2]; omega) (((x_up_ne (by omega)).trans rfl)) ?_
      refine e_istore (k := 52) (xi36 52) (Nat.le_of_ble_eq_true rfl) ?_
      show x_Ev 36 53 [.inr 156, .inr 1, .inl (st), .inl (y_or vi (y_shl 1 ((l_trace_b st vi fr j (v_leastOnward fr vi M) M 8 0)))), .inl (M 158 ((l_trace_b st vi fr j (v_leastOnward fr vi M) M 8 0))), .inl (j), .inl (v_leastOnward fr vi M), .inl ((l_trace_b st vi fr j (v_leastOnward fr vi M) M 8 0))] [] (0, 0) (z, P, (x_up M 157 j (M 158 ((l_trace_b st vi fr j (v_leastOnward fr vi M) M 8 0))))) _
      refine e_iinc (w := 1 + j) (k := 53) (xi36 53) rfl (x_wn (by omega)) ?_
      show x_Ev 36 54 [.inr 156, .inr 1, .inl (st), .inl (y_or vi (y_shl 1 ((l_trace_b st vi fr j (v_leastOnward fr vi M) M 8 0)))), .inl (M 158 ((l_trace_b st vi fr j (v_leastOnward fr vi M) M 8 0))), .inl (1 + j), .inl (v_leastOnward fr vi M), .inl ((l_trace_b st vi fr j (v_leastOnward fr vi M) M 8 0))] [] (0, 0) (z, P, (x_up M 157 j (M 158 ((l_trace_b st vi fr j (v_leastOnward fr vi M) M 8 0))))) _
      refine e_goto (k := 54) (xi36 54) ?_
      rw [(show l_trace_a st (k + 1) M vi fr j = l_trace_a st k ((x_up M 157 j (M 158 ((l_trace_b st vi fr j (v_leastOnward fr vi M) M 8 0))))) (y_or vi (y_shl 1 ((l_trace_b st vi fr j (v_leastOnward fr vi M) M 8 0)))) (M 158 ((l_trace_b st vi fr j (v_leastOnward fr vi M) M 8 0))) (1 + j) from by rw [l_trace_a, if_neg c0])] at kk
      exact ih _ _ ((x_up M 157 j (M 158 ((l_trace_b st vi fr j (v_leastOnward fr vi M) M 8 0))))) (y_or vi (y_shl 1 ((l_trace_b st vi fr j (v_leastOnward fr vi M) M 8 0)))) (M 158 ((l_trace_b st vi fr j (v_leastOnward fr vi M) M 8 0))) (1 + j) tl8 (by omega) (by omega) kk
def u_trace (st : Int) (M : Int → Int → Int) : Int → Int → Int := (x_up ((l_trace_a st 8 M 0 st 0).1) 156 1 (((l_trace_a st 8 M 0 st 0).1) 156 4))
theorem k_trace {z : Int} {P M : Int → Int → Int} (hS : x_Sh z P) (hT : y_TC M) (st : Int)   : x_CallR 36 [.inr 156, .inr 1, .inl (st)] (z, P, M) (fun q => q = (none, (z, P, u_trace st M)) ∧ y_TL 0 M (u_trace st M)) := by
  have tl0 : y_TL 0 M M := tl_refl hT
  refine e_body (ls0 := [.inr 156, .inr 1, .inl (st), x_un, x_un, x_un, x_un, x_un]) xm36 rfl ?_
  refine e_iconst (k := 0) (xi36 0) ?_
  refine e_istore (k := 1) (xi36 1) (Nat.le_of_ble_eq_true rfl) ?_
  show x_Ev 36 2 [.inr 156, .inr 1, .inl (st), .inl 0, x_un, x_un, x_un, x_un] [] (0, 0) (z, P, M) _
  refine e_iload (k := 2) (xi36 2) rfl ?_
  refine e_istore (k := 3) (xi36 3) (Nat.le_of_ble_eq_true rfl) ?_
  show x_Ev 36 4 [.inr 156, .inr 1, .inl (st), .inl 0, .inl (st), x_un, x_un, x_un] [] (0, 0) (z, P, M) _
  refine e_iconst (k := 4) (xi36 4) ?_
  refine e_istore (k := 5) (xi36 5) (Nat.le_of_ble_eq_true rfl) ?_
  show x_Ev 36 6 [.inr 156, .inr 1, .inl (st), .inl 0, .inl (st), .inl 0, x_un, x_un] [] (0, 0) (z, P, M) _
  refine kl_trace_a hS st     8 _ _ M 0 st 0 tl0 (by omega) (by omega) ?_
  intro x3 x4 tl1 q2
  show x_Ev 36 55 [.inr 156, .inr 1, .inl (st), .inl ((l_trace_a st 8 M 0 st 0).2.1), .inl ((l_trace_a st 8 M 0 st 0).2.2.1), .inl ((l_trace_a st 8 M 0 st 0).2.2.2), x3, x4] [] (0, 0) (z, P, (l_trace_a st 8 M 0 st 0).1) _
  refine e_aload (k := 55) (xi36 55) rfl (by decide) ?_
  refine e_aload (k := 56) (xi36 56) rfl (by decide) ?_
  have t5 := ty_tour4 tl1.1 
  refine e_getI (j := 4) (w := ((l_trace_a st 8 M 0 st 0).1) 156 4) (k := 57) (xi36 57) (ok_tour hS) rfl rfl ?_
  refine e_putI (j := 1) (k := 58) (xi36 58) (ok_tour hS) rfl ?_
  have tl6 : y_TL 0 M (x_up ((l_trace_a st 8 M 0 st 0).1) 156 1 (((l_trace_a st 8 M 0 st 0).1) 156 4)) := tl_up tl1 (sl_tour1  (by omega)) (nf_tour1 )
  refine e_vret (k := 59) (xi36 59) ?_
  exact y_fU (show u_trace st M = (x_up ((l_trace_a st 8 M 0 st 0).1) 156 1 (((l_trace_a st 8 M 0 st 0).1) 156 4)) from rfl) tl6
def v_prepare0 (M : Int → Int → Int) : Int := (-1)
def u_prepare0 (M : Int → Int → Int) : Int → Int → Int := M
theorem k_prepare0 {z : Int} {P M : Int → Int → Int} (hS : x_Sh z P) (hT : y_TC M)    : x_CallR 29 [.inr 156, .inr 1, .inr (-1)] (z, P, M) (fun q => q = (some (.inl (v_prepare0 M)), (z, P, u_prepare0 M)) ∧ y_TL 0 M (u_prepare0 M) ∧ (fun v => -1 ≤ v ∧ v ≤ 999999) (v_prepare0 M)) := by
  have tl0 : y_TL 0 M M := tl_refl hT
  refine e_body (ls0 := [.inr 156, .inr 1, .inr (-1), x_un]) xm29 rfl ?_
  refine e_aload (k := 0) (xi29 0) rfl (by decide) ?_
  refine e_ifnull (k := 1) (xi29 1) (by omega) (fun _ => ?_) (fun q => absurd (by omega) q)
  refine e_iconst (k := 9) (xi29 9) ?_
  refine e_iret (k := 10) (xi29 10) ?_
  exact y_fW (Q := fun v => -1 ≤ v ∧ v ≤ 999999) (show v_prepare0 M = (-1) from rfl) (show u_prepare0 M = M from rfl) tl0 (by omega)
def v_prepare1 (c : Int) (M : Int → Int → Int) : Int := if 0 < M (149 + 2 * c) 6 then (-1) else if ¬ v_gather M = 0 then (if v_leastOnward (((u_measureLeft (((u_addUpHeld ((u_gather M)))) (149 + 2 * c) 1) ((u_addUpHeld ((u_gather M)))))) (149 + 2 * c) 2) 0 ((u_measureLeft (((u_addUpHeld ((u_gather M)))) (149 + 2 * c) 1) ((u_addUpHeld ((u_gather M)))))) < 1000000 then v_leastOnward (((u_measureLeft (((u_addUpHeld ((u_gather M)))) (149 + 2 * c) 1) ((u_addUpHeld ((u_gather M)))))) (149 + 2 * c) 2) 0 ((u_measureLeft (((u_addUpHeld ((u_gather M)))) (149 + 2 * c) 1) ((u_addUpHeld ((u_gather M)))))) else (-1)) else (-1)
def u_prepare1 (c : Int) (M : Int → Int → Int) : Int → Int → Int := if 0 < M (149 + 2 * c) 6 then M else if ¬ v_gather M = 0 then (if v_leastOnward (((u_measureLeft (((u_addUpHeld ((u_gather M)))) (149 + 2 * c) 1) ((u_addUpHeld ((u_gather M)))))) (149 + 2 * c) 2) 0 ((u_measureLeft (((u_addUpHeld ((u_gather M)))) (149 + 2 * c) 1) ((u_addUpHeld ((u_gather M)))))) < 1000000 then (u_trace (((u_measureLeft (((u_addUpHeld ((u_gather M)))) (149 + 2 * c) 1) ((u_addUpHeld ((u_gather M)))))) (149 + 2 * c) 2) ((u_measureLeft (((u_addUpHeld ((u_gather M)))) (149 + 2 * c) 1) ((u_addUpHeld ((u_gather M))))))) else (u_measureLeft (((u_addUpHeld ((u_gather M)))) (149 + 2 * c) 1) ((u_addUpHeld ((u_gather M)))))) else (u_gather M)
theorem k_prepare1 {z : Int} {P M : Int → Int → Int} (hS : x_Sh z P) (hT : y_TC M) (c : Int) (hc : 0 ≤ c ∧ c < 3)  : x_CallR 29 [.inr 156, .inr 1, .inr (149 + 2 * c)] (z, P, M) (fun q => q = (some (.inl (v_prepare1 c M)), (z, P, u_prepare1 c M)) ∧ y_TL 0 M (u_prepare1 c M) ∧ (fun v => -1 ≤ v ∧ v ≤ 999999) (v_prepare1 c M)) := by
  have tl0 : y_TL 0 M M := tl_refl hT
  refine e_body (ls0 := [.inr 156, .inr 1, .inr (149 + 2 * c), x_un]) xm29 rfl ?_
  refine e_aload (k := 0) (xi29 0) rfl (by omega) ?_
  refine e_ifnull (k := 1) (xi29 1) (by omega) (fun q => absurd q (by omega)) (fun _ => ?_)
  refine e_aload (k := 2) (xi29 2) rfl (by omega) ?_
  have t1 := ty_ca6 tl0.1 hc
  refine e_getI (j := 6) (w := M (149 + 2 * c) 6) (k := 3) (xi29 3) (ok_ca hS hc) rfl rfl ?_
  refine e_z_gt (k := 4) (xi29 4) (fun c0 => ?_) (fun c0 => ?_)
  · skip
    refine e_iconst (k := 9) (xi29 9) ?_
    refine e_iret (k := 10) (xi29 10) ?_
    exact y_fW (Q := fun v => -1 ≤ v ∧ v ≤ 999999) (show v_prepare1 c M = (-1) from by rw [v_prepare1, if_pos c0]) (show u_prepare1 c M = M from by rw [u_prepare1, if_pos c0]) tl0 (by omega)
  · skip
    refine e_aload (k := 5) (xi29 5) rfl (by decide) ?_
    refine e_aload (k := 6) (xi29 6) rfl (by decide) ?_
    refine e_callR (k := 7) (c1 := 0) (c2 := 0) (rest := []) (as := [.inr 156, .inr 1]) (xi29 7) (by decide) xm30 rfl ⟨rfl, Nat.le_of_ble_eq_true rfl, by decide⟩ (Or.inr (x_okt (ok_tour hS))) (k_gather hS tl0.1   ) ?_
    rintro v_ h_ ⟨e2, tl3, q4⟩
    cases e2
    have tl5 := tl_trans tl0 (tl3)
    have n6 := tl_n tl3
    show x_Ev 29 8 [.inr 156, .inr 1, .inr (149 + 2 * c), x_un] [.inl (v_gather M)] (0, 0) (z, P, (u_gather M)) _
    refine e_z_ne (k := 8) (xi29 8) (fun c1 => ?_) (fun c1 => ?_)
    · skip
      refine e_aload (k := 11) (xi29 11) rfl (by decide) ?_
      refine e_callR (k := 12) (c1 := 0) (c2 := 0) (rest := []) (as := [.inr 156]) (xi29 12) (by decide) xm32 rfl ⟨rfl, Nat.le_of_ble_eq_true rfl, by decide⟩ (Or.inr (x_okt (ok_tour hS))) (k_addUpHeld hS tl5.1   ) ?_
      rintro v_ h_ ⟨e7, tl8⟩
      cases e7
      have tl10 := tl_trans tl5 (tl8)
      have n11 := tl_n tl8
      show x_Ev 29 13 [.inr 156, .inr 1, .inr (149 + 2 * c), x_un] [] (0, 0) (z, P, (u_addUpHeld ((u_gather M)))) _
      refine e_aload (k := 13) (xi29 13) rfl (by decide) ?_
      refine e_aload (k := 14) (xi29 14) rfl (by decide) ?_
      refine e_aload (k := 15) (xi29 15) rfl (by omega) ?_
      have t12 := ty_ca1 tl10.1 hc
      refine e_getI (j := 1) (w := ((u_addUpHeld ((u_gather M)))) (149 + 2 * c) 1) (k := 16) (xi29 16) (ok_ca hS hc) rfl rfl ?_
      refine e_callR (k := 17) (c1 := 0) (c2 := 0) (rest := []) (as := [.inr 156, .inr 1, .inl (((u_addUpHeld ((u_gather M)))) (149 + 2 * c) 1)]) (xi29 17) (by decide) xm33 rfl ⟨rfl, Nat.le_of_ble_eq_true rfl, by decide⟩ (Or.inr (x_okt (ok_tour hS))) (k_measureLeft hS tl10.1 (((u_addUpHeld ((u_gather M)))) (149 + 2 * c) 1)  ) ?_
      rintro v_ h_ ⟨e13, tl14⟩
      cases e13
      have tl16 := tl_trans tl10 (tl14)
      have n17 := tl_n tl14
      show x_Ev 29 18 [.inr 156, .inr 1, .inr (149 + 2 * c), x_un] [] (0, 0) (z, P, (u_measureLeft (((u_addUpHeld ((u_gather M)))) (149 + 2 * c) 1) ((u_addUpHeld ((u_gather M)))))) _
      refine e_aload (k := 18) (xi29 18) rfl (by decide) ?_
      refine e_aload (k := 19) (xi29 19) rfl (by decide) ?_
      refine e_aload (k := 20) (xi29 20) rfl (by omega) ?_
      have t18 := ty_ca2 tl16.1 hc
      refine e_getI (j := 2) (w := ((u_measureLeft (((u_addUpHeld ((u_gather M)))) (149 + 2 * c) 1) ((u_addUpHeld ((u_gather M)))))) (149 + 2 * c) 2) (k := 21) (xi29 21) (ok_ca hS hc) rfl rfl ?_
      refine e_iconst (k := 22) (xi29 22) ?_
      refine e_callR (k := 23) (c1 := 0) (c2 := 0) (rest := []) (as := [.inr 156, .inr 1, .inl (((u_measureLeft (((u_addUpHeld ((u_gather M)))) (149 + 2 * c) 1) ((u_addUpHeld ((u_gather M)))))) (149 + 2 * c) 2), .inl 0]) (xi29 23) (by decide) xm34 rfl ⟨rfl, Nat.le_of_ble_eq_true rfl, by decide⟩ (Or.inr (x_okt (ok_tour hS))) (k_leastOnward hS tl16.1 (((u_measureLeft (((u_addUpHeld ((u_gather M)))) (149 + 2 * c) 1) ((u_addUpHeld ((u_gather M)))))) (149 + 2 * c) 2) 0  (by omega)) ?_
      rintro v_ h_ ⟨e19, q21⟩
      cases e19
      show x_Ev 29 24 [.inr 156, .inr 1, .inr (149 + 2 * c), x_un] [.inl (v_leastOnward (((u_measureLeft (((u_addUpHeld ((u_gather M)))) (149 + 2 * c) 1) ((u_addUpHeld ((u_gather M)))))) (149 + 2 * c) 2) 0 ((u_measureLeft (((u_addUpHeld ((u_gather M)))) (149 + 2 * c) 1) ((u_addUpHeld ((u_gather M)))))))] (0, 0) (z, P, (u_measureLeft (((u_addUpHeld ((u_gather M)))) (149 + 2 * c) 1) ((u_addUpHeld ((u_gather M)))))) _
      refine e_istore (k := 24) (xi29 24) (Nat.le_of_ble_eq_true rfl) ?_
      show x_Ev 29 25 [.inr 156, .inr 1, .inr (149 + 2 * c), .inl (v_leastOnward (((u_measureLeft (((u_addUpHeld ((u_gather M)))) (149 + 2 * c) 1) ((u_addUpHeld ((u_gather M)))))) (149 + 2 * c) 2) 0 ((u_measureLeft (((u_addUpHeld ((u_gather M)))) (149 + 2 * c) 1) ((u_addUpHeld ((u_gather M)))))))] [] (0, 0) (z, P, (u_measureLeft (((u_addUpHeld ((u_gather M)))) (149 + 2 * c) 1) ((u_addUpHeld ((u_gather M)))))) _
      refine e_iload (k := 25) (xi29 25) rfl ?_
      refine e_iconst (k := 26) (xi29 26) ?_
      refine e_c_lt (k := 27) (xi29 27) (fun c2 => ?_) (fun c2 => ?_)
      · skip
        refine e_aload (k := 30) (xi29 30) rfl (by decide) ?_
        refine e_aload (k := 31) (xi29 31) rfl (by decide) ?_
        refine e_aload (k := 32) (xi29 32) rfl (by omega) ?_
        refine e_getI (j := 2) (w := ((u_measureLeft (((u_addUpHeld ((u_gather M)))) (149 + 2 * c) 1) ((u_addUpHeld ((u_gather M)))))) (149 + 2 * c) 2) (k := 33) (xi29 33) (ok_ca hS hc) rfl rfl ?_
        refine e_callR (k := 34) (c1 := 0) (c2 := 0) (rest := []) (as := [.inr 156, .inr 1, .inl (((u_measureLeft (((u_addUpHeld ((u_gather M)))) (149 + 2 * c) 1) ((u_addUpHeld ((u_gather M)))))) (149 + 2 * c) 2)]) (xi29 34) (by decide) xm36 rfl ⟨rfl, Nat.le_of_ble_eq_true rfl, by decide⟩ (Or.inr (x_okt (ok_tour hS))) (k_trace hS tl16.1 (((u_measureLeft (((u_addUpHeld ((u_gather M)))) (149 + 2 * c) 1) ((u_addUpHeld ((u_gather M)))))) (149 + 2 * c) 2)  ) ?_
        rintro v_ h_ ⟨e22, tl23⟩
        cases e22
        have tl25 := tl_trans tl16 (tl23)
        have n26 := tl_n tl23
        show x_Ev 29 35 [.inr 156, .inr 1, .inr (149 + 2 * c), .inl (v_leastOnward (((u_measureLeft (((u_addUpHeld ((u_gather M)))) (149 + 2 * c) 1) ((u_addUpHeld ((u_gather M)))))) (149 + 2 * c) 2) 0 ((u_measureLeft (((u_addUpHeld ((u_gather M)))) (149 + 2 * c) 1) ((u_addUpHeld ((u_gather M)))))))] [] (0, 0) (z, P, (u_trace (((u_measureLeft (((u_addUpHeld ((u_gather M)))) (149 + 2 * c) 1) ((u_addUpHeld ((u_gather M)))))) (149 + 2 * c) 2) ((u_measureLeft (((u_addUpHeld ((u_gather M)))) (149 + 2 * c) 1) ((u_addUpHeld ((u_gather M)))))))) _
        refine e_iload (k := 35) (xi29 35) rfl ?_
        refine e_iret (k := 36) (xi29 36) ?_
        exact y_fW (Q := fun v => -1 ≤ v ∧ v ≤ 999999) (show v_prepare1 c M = v_leastOnward (((u_measureLeft (((u_addUpHeld ((u_gather M)))) (149 + 2 * c) 1) ((u_addUpHeld ((u_gather M)))))) (149 + 2 * c) 2) 0 ((u_measureLeft (((u_addUpHeld ((u_gather M)))) (149 + 2 * c) 1) ((u_addUpHeld ((u_gather M)))))) from by rw [v_prepare1, if_neg c0, if_pos c1, if_pos c2]) (show u_prepare1 c M = (u_trace (((u_measureLeft (((u_addUpHeld ((u_gather M)))) (149 + 2 * c) 1) ((u_addUpHeld ((u_gather M)))))) (149 + 2 * c) 2) ((u_measureLeft (((u_addUpHeld ((u_gather M)))) (149 + 2 * c) 1) ((u_addUpHeld ((u_gather M))))))) from by rw [u_prepare1, if_neg c0, if_pos c1, if_pos c2]) tl25 (by omega)
      · skip
        refine e_iconst (k := 28) (xi29 28) ?_
        refine e_iret (k := 29) (xi29 29) ?_
        exact y_fW (Q := fun v => -1 ≤ v ∧ v ≤ 999999) (show v_prepare1 c M = (-1) from by rw [v_prepare1, if_neg c0, if_pos c1, if_neg c2]) (show u_prepare1 c M = (u_measureLeft (((u_addUpHeld ((u_gather M)))) (149 + 2 * c) 1) ((u_addUpHeld ((u_gather M))))) from by rw [u_prepare1, if_neg c0, if_pos c1, if_neg c2]) tl16 (by omega)
    · skip
      refine e_iconst (k := 9) (xi29 9) ?_
      refine e_iret (k := 10) (xi29 10) ?_
      exact y_fW (Q := fun v => -1 ≤ v ∧ v ≤ 999999) (show v_prepare1 c M = (-1) from by rw [v_prepare1, if_neg c0, if_neg c1]) (show u_prepare1 c M = (u_gather M) from by rw [u_prepare1, if_neg c0, if_neg c1]) tl5 (by omega)
def l_runFrom_b (s w dk x fh h ts : Int) (M : Int → Int → Int) : Nat → Int → Int → Int → Int × Int × Int
  | 0, nw, aw, tu => (nw, aw, tu)
  | k + 1, nw, aw, tu => if ts ≤ tu then (nw, aw, tu) else if M (8 + 7 * s) h ≤ tu then (if M (9 + 7 * s) h ≤ tu then l_runFrom_b s w dk x fh h ts M k nw aw (1 + tu) else if nw ≤ 0 then l_runFrom_b s w dk x fh h ts M k nw (1 + aw) (1 + tu) else l_runFrom_b s w dk x fh h ts M k ((-1) + nw) aw (1 + tu)) else if dk ≤ nw then (if M (9 + 7 * s) h ≤ tu then l_runFrom_b s w dk x fh h ts M k nw (1 + aw) (1 + tu) else if nw ≤ 0 then l_runFrom_b s w dk x fh h ts M k nw (2 + aw) (1 + tu) else l_runFrom_b s w dk x fh h ts M k ((-1) + nw) (1 + aw) (1 + tu)) else if M (9 + 7 * s) h ≤ tu then l_runFrom_b s w dk x fh h ts M k (1 + nw) aw (1 + tu) else if 1 + nw ≤ 0 then l_runFrom_b s w dk x fh h ts M k (1 + nw) (1 + aw) (1 + tu) else l_runFrom_b s w dk x fh h ts M k nw aw (1 + tu)
theorem kl_runFrom_b {z : Int} {P M : Int → Int → Int} {r : Option xV × xH → Prop} (hS : x_Sh z P) (hT : y_TC M) (s : Int) (w : Int) (dk : Int) (x : Int) (fh : Int) (h : Int) (ts : Int) (hs : 0 ≤ s ∧ s < 12) (hts : 0 ≤ ts ∧ ts ≤ 99) (hh0 : 0 ≤ h ∧ h < 24) (hw : 0 ≤ w ∧ w ≤ 12) (hdk : 0 ≤ dk ∧ dk ≤ 12) : ∀ k : Nat, ∀ nw : Int, ∀ aw : Int, ∀ tu : Int, ((0 ≤ nw ∧ nw ≤ 12) ∧ (0 ≤ aw ∧ aw ≤ 200 * h + 2 * tu) ∧ 0 ≤ tu ∧ tu ≤ ts) → ts - tu < (k : Int) → ((0 ≤ ((l_runFrom_b s w dk x fh h ts M k nw aw tu).1) ∧ ((l_runFrom_b s w dk x fh h ts M k nw aw tu).1) ≤ 12) ∧ (0 ≤ ((l_runFrom_b s w dk x fh h ts M k nw aw tu).2.1) ∧ ((l_runFrom_b s w dk x fh h ts M k nw aw tu).2.1) ≤ 200 * h + 198) → x_Ev 12 51 [.inr (7 + 7 * s), .inl (w), .inl (dk), .inl (x), .inl ((l_runFrom_b s w dk x fh h ts M k nw aw tu).1), .inl ((l_runFrom_b s w dk x fh h ts M k nw aw tu).2.1), .inl (fh), .inl (h), .inl (ts), .inl ((l_runFrom_b s w dk x fh h ts M k nw aw tu).2.2)] [] (0, 0) (z, P, M) r) → x_Ev 12 23 [.inr (7 + 7 * s), .inl (w), .inl (dk), .inl (x), .inl (nw), .inl (aw), .inl (fh), .inl (h), .inl (ts), .inl (tu)] [] (0, 0) (z, P, M) r := by
  intro k
  induction k with
  | zero => intro nw aw tu hi hm; omega
  | succ k ih =>
    intro nw aw tu hi hm kk
    refine e_iload (k := 23) (xi12 23) rfl ?_
    refine e_iload (k := 24) (xi12 24) rfl ?_
    refine e_c_ge (k := 25) (xi12 25) (fun c0 => ?_) (fun c0 => ?_)
    · skip
      rw [(show l_runFrom_b s w dk x fh h ts M (k + 1) nw aw tu = (nw, aw, tu) from by rw [l_runFrom_b, if_pos c0])] at kk
      try dsimp only at kk
      exact kk (by first | exact trivial | omega)
    · skip
      refine e_iload (k := 26) (xi12 26) rfl ?_
      refine e_aload (k := 27) (xi12 27) rfl (by omega) ?_
      refine e_getR (j := 1) (w := 8 + 7 * s) (k := 28) (xi12 28) (ok_dem hS hs) rfl (sh_br hS hs) ?_
      refine e_iload (k := 29) (xi12 29) rfl ?_
      have t1 := ty_br (j := h) hT hs (by omega)
      refine e_iald (w := M (8 + 7 * s) h) (k := 30) (xi12 30) (ok_br hS hs) (by rw [(ln_br hs)]; omega) rfl ?_
      refine e_c_ge (k := 31) (xi12 31) (fun c1 => ?_) (fun c1 => ?_)
      · skip
        refine e_iload (k := 38) (xi12 38) rfl ?_
        refine e_aload (k := 39) (xi12 39) rfl (by omega) ?_
        refine e_getR (j := 2) (w := 9 + 7 * s) (k := 40) (xi12 40) (ok_dem hS hs) rfl (sh_wa hS hs) ?_
        refine e_iload (k := 41) (xi12 41) rfl ?_
        have t2 := ty_wa (j := h) hT hs (by omega)
        refine e_iald (w := M (9 + 7 * s) h) (k := 42) (xi12 42) (ok_wa hS hs) (by rw [(ln_wa hs)]; omega) rfl ?_
        refine e_c_ge (k := 43) (xi12 43) (fun c2 => ?_) (fun c2 => ?_)
        · skip
          refine e_iinc (w := 1 + tu) (k := 49) (xi12 49) rfl (x_wn (by omega)) ?_
          show x_Ev 12 50 [.inr (7 + 7 * s), .inl (w), .inl (dk), .inl (x), .inl (nw), .inl (aw), .inl (fh), .inl (h), .inl (ts), .inl (1 + tu)] [] (0, 0) (z, P, M) _
          refine e_goto (k := 50) (xi12 50) ?_
          rw [(show l_runFrom_b s w dk x fh h ts M (k + 1) nw aw tu = l_runFrom_b s w dk x fh h ts M k nw aw (1 + tu) from by rw [l_runFrom_b, if_neg c0, if_pos c1, if_pos c2])] at kk
          exact ih nw aw (1 + tu) (by omega) (by omega) kk
        · skip
          refine e_iload (k := 44) (xi12 44) rfl ?_
          refine e_z_le (k := 45) (xi12 45) (fun c3 => ?_) (fun c3 => ?_)
          · skip
            refine e_iinc (w := 1 + aw) (k := 48) (xi12 48) rfl (x_wn (by omega)) ?_
            show x_Ev 12 49 [.inr (7 + 7 * s), .inl (w), .inl (dk), .inl (x), .inl (nw), .inl (1 + aw), .inl (fh), .inl (h), .inl (ts), .inl (tu)] [] (0, 0) (z, P, M) _
            refine e_iinc (w := 1 + tu) (k := 49) (xi12 49) rfl (x_wn (by omega)) ?_
            show x_Ev 12 50 [.inr (7 + 7 * s), .inl (w), .inl (dk), .inl (x), .inl (nw), .inl (1 + aw), .inl (fh), .inl (h), .inl (ts), .inl (1 + tu)] [] (0, 0) (z, P, M) _
            refine e_goto (k := 50) (xi12 50) ?_
            rw [(show l_runFrom_b s w dk x fh h ts M (k + 1) nw aw tu = l_runFrom_b s w dk x fh h ts M k nw (1 + aw) (1 + tu) from by rw [l_runFrom_b, if_neg c0, if_pos c1, if_neg c2, if_pos c3])] at kk
            exact ih nw (1 + aw) (1 + tu) (by omega) (by omega) kk
          · skip
            refine e_iinc (w := (-1) + nw) (k := 46) (xi12 46) rfl (x_wn (by omega)) ?_
            show x_Ev 12 47 [.inr (7 + 7 * s), .inl (w), .inl (dk), .inl (x), .inl ((-1) + nw), .inl (aw), .inl (fh), .inl (h), .inl (ts), .inl (tu)] [] (0, 0) (z, P, M) _
            refine e_goto (k := 47) (xi12 47) ?_
            refine e_iinc (w := 1 + tu) (k := 49) (xi12 49) rfl (x_wn (by omega)) ?_
            show x_Ev 12 50 [.inr (7 + 7 * s), .inl (w), .inl (dk), .inl (x), .inl ((-1) + nw), .inl (aw), .inl (fh), .inl (h), .inl (ts), .inl (1 + tu)] [] (0, 0) (z, P, M) _
            refine e_goto (k := 50) (xi12 50) ?_
            rw [(show l_runFrom_b s w dk x fh h ts M (k + 1) nw aw tu = l_runFrom_b s w dk x fh h ts M k ((-1) + nw) aw (1 + tu) from by rw [l_runFrom_b, if_neg c0, if_pos c1, if_neg c2, if_neg c3])] at kk
            exact ih ((-1) + nw) aw (1 + tu) (by omega) (by omega) kk
      · skip
        refine e_iload (k := 32) (xi12 32) rfl ?_
        refine e_iload (k := 33) (xi12 33) rfl ?_
        refine e_c_ge (k := 34) (xi12 34) (fun c4 => ?_) (fun c4 => ?_)
        · skip
          refine e_iinc (w := 1 + aw) (k := 37) (xi12 37) rfl (x_wn (by omega)) ?_
          show x_Ev 12 38 [.inr (7 + 7 * s), .inl (w), .inl (dk), .inl (x), .inl (nw), .inl (1 + aw), .inl (fh), .inl (h), .inl (ts), .inl (tu)] [] (0, 0) (z, P, M) _
          refine e_iload (k := 38) (xi12 38) rfl ?_
          refine e_aload (k := 39) (xi12 39) rfl (by omega) ?_
          refine e_getR (j := 2) (w := 9 + 7 * s) (k := 40) (xi12 40) (ok_dem hS hs) rfl (sh_wa hS hs) ?_
          refine e_iload (k := 41) (xi12 41) rfl ?_
          have t3 := ty_wa (j := h) hT hs (by omega)
          refine e_iald (w := M (9 + 7 * s) h) (k := 42) (xi12 42) (ok_wa hS hs) (by rw [(ln_wa hs)]; omega) rfl ?_
          refine e_c_ge (k := 43) (xi12 43) (fun c5 => ?_) (fun c5 => ?_)
          · skip
            refine e_iinc (w := 1 + tu) (k := 49) (xi12 49) rfl (x_wn (by omega)) ?_
            show x_Ev 12 50 [.inr (7 + 7 * s), .inl (w), .inl (dk), .inl (x), .inl (nw), .inl (1 + aw), .inl (fh), .inl (h), .inl (ts), .inl (1 + tu)] [] (0, 0) (z, P, M) _
            refine e_goto (k := 50) (xi12 50) ?_
            rw [(show l_runFrom_b s w dk x fh h ts M (k + 1) nw aw tu = l_runFrom_b s w dk x fh h ts M k nw (1 + aw) (1 + tu) from by rw [l_runFrom_b, if_neg c0, if_neg c1, if_pos c4, if_pos c5])] at kk
            exact ih nw (1 + aw) (1 + tu) (by omega) (by omega) kk
          · skip
            refine e_iload (k := 44) (xi12 44) rfl ?_
            refine e_z_le (k := 45) (xi12 45) (fun c6 => ?_) (fun c6 => ?_)
            · skip
              refine e_iinc (w := 2 + aw) (k := 48) (xi12 48) rfl (x_wn (by omega)) ?_
              show x_Ev 12 49 [.inr (7 + 7 * s), .inl (w), .inl (dk), .inl (x), .inl (nw), .inl (2 + aw), .inl (fh), .inl (h), .inl (ts), .inl (tu)] [] (0, 0) (z, P, M) _
              refine e_iinc (w := 1 + tu) (k := 49) (xi12 49) rfl (x_wn (by omega)) ?_
              show x_Ev 12 50 [.inr (7 + 7 * s), .inl (w), .inl (dk), .inl (x), .inl (nw), .inl (2 + aw), .inl (fh), .inl (h), .inl (ts), .inl (1 + tu)] [] (0, 0) (z, P, M) _
              refine e_goto (k := 50) (xi12 50) ?_
              rw [(show l_runFrom_b s w dk x fh h ts M (k + 1) nw aw tu = l_runFrom_b s w dk x fh h ts M k nw (2 + aw) (1 + tu) from by rw [l_runFrom_b, if_neg c0, if_neg c1, if_pos c4, if_neg c5, if_pos c6])] at kk
              exact ih nw (2 + aw) (1 + tu) (by omega) (by omega) kk
            · skip
              refine e_iinc (w := (-1) + nw) (k := 46) (xi12 46) rfl (x_wn (by omega)) ?_
              show x_Ev 12 47 [.inr (7 + 7 * s), .inl (w), .inl (dk), .inl (x), .inl ((-1) + nw), .inl (1 + aw), .inl (fh), .inl (h), .inl (ts), .inl (tu)] [] (0, 0) (z, P, M) _
              refine e_goto (k := 47) (xi12 47) ?_
              refine e_iinc (w := 1 + tu) (k := 49) (xi12 49) rfl (x_wn (by omega)) ?_
              show x_Ev 12 50 [.inr (7 + 7 * s), .inl (w), .inl (dk), .inl (x), .inl ((-1) + nw), .inl (1 + aw), .inl (fh), .inl (h), .inl (ts), .inl (1 + tu)] [] (0, 0) (z, P, M) _
              refine e_goto (k := 50) (xi12 50) ?_
              rw [(show l_runFrom_b s w dk x fh h ts M (k + 1) nw aw tu = l_runFrom_b s w dk x fh h ts M k ((-1) + nw) (1 + aw) (1 + tu) from by rw [l_runFrom_b, if_neg c0, if_neg c1, if_pos c4, if_neg c5, if_neg c6])] at kk
              exact ih ((-1) + nw) (1 + aw) (1 + tu) (by omega) (by omega) kk
        · skip
          refine e_iinc (w := 1 + nw) (k := 35) (xi12 35) rfl (x_wn (by omega)) ?_
          show x_Ev 12 36 [.inr (7 + 7 * s), .inl (w), .inl (dk), .inl (x), .inl (1 + nw), .inl (aw), .inl (fh), .inl (h), .inl (ts), .inl (tu)] [] (0, 0) (z, P, M) _
          refine e_goto (k := 36) (xi12 36) ?_
          refine e_iload (k := 38) (xi12 38) rfl ?_
          refine e_aload (k := 39) (xi12 39) rfl (by omega) ?_
          refine e_getR (j := 2) (w := 9 + 7 * s) (k := 40) (xi12 40) (ok_dem hS hs) rfl (sh_wa hS hs) ?_
          refine e_iload (k := 41) (xi12 41) rfl ?_
          have t4 := ty_wa (j := h) hT hs (by omega)
          refine e_iald (w := M (9 + 7 * s) h) (k := 42) (xi12 42) (ok_wa hS hs) (by rw [(ln_wa hs)]; omega) rfl ?_
          refine e_c_ge (k := 43) (xi12 43) (fun c7 => ?_) (fun c7 => ?_)
          · skip
            refine e_iinc (w := 1 + tu) (k := 49) (xi12 49) rfl (x_wn (by omega)) ?_
            show x_Ev 12 50 [.inr (7 + 7 * s), .inl (w), .inl (dk), .inl (x), .inl (1 + nw), .inl (aw), .inl (fh), .inl (h), .inl (ts), .inl (1 + tu)] [] (0, 0) (z, P, M) _
            refine e_goto (k := 50) (xi12 50) ?_
            rw [(show l_runFrom_b s w dk x fh h ts M (k + 1) nw aw tu = l_runFrom_b s w dk x fh h ts M k (1 + nw) aw (1 + tu) from by rw [l_runFrom_b, if_neg c0, if_neg c1, if_neg c4, if_pos c7])] at kk
            exact ih (1 + nw) aw (1 + tu) (by omega) (by omega) kk
          · skip
            refine e_iload (k := 44) (xi12 44) rfl ?_
            refine e_z_le (k := 45) (xi12 45) (fun c8 => ?_) (fun c8 => ?_)
            · skip
              refine e_iinc (w := 1 + aw) (k := 48) (xi12 48) rfl (x_wn (by omega)) ?_
              show x_Ev 12 49 [.inr (7 + 7 * s), .inl (w), .inl (dk), .inl (x), .inl (1 + nw), .inl (1 + aw), .inl (fh), .inl (h), .inl (ts), .inl (tu)] [] (0, 0) (z, P, M) _
              refine e_iinc (w := 1 + tu) (k := 49) (xi12 49) rfl (x_wn (by omega)) ?_
              show x_Ev 12 50 [.inr (7 + 7 * s), .inl (w), .inl (dk), .inl (x), .inl (1 + nw), .inl (1 + aw), .inl (fh), .inl (h), .inl (ts), .inl (1 + tu)] [] (0, 0) (z, P, M) _
              refine e_goto (k := 50) (xi12 50) ?_
              rw [(show l_runFrom_b s w dk x fh h ts M (k + 1) nw aw tu = l_runFrom_b s w dk x fh h ts M k (1 + nw) (1 + aw) (1 + tu) from by rw [l_runFrom_b, if_neg c0, if_neg c1, if_neg c4, if_neg c7, if_pos c8])] at kk
              exact ih (1 + nw) (1 + aw) (1 + tu) (by omega) (by omega) kk
            · skip
              refine e_iinc (w := nw) (k := 46) (xi12 46) rfl (x_wn (by omega)) ?_
              show x_Ev 12 47 [.inr (7 + 7 * s), .inl (w), .inl (dk), .inl (x), .inl (nw), .inl (aw), .inl (fh), .inl (h), .inl (ts), .inl (tu)] [] (0, 0) (z, P, M) _
              refine e_goto (k := 47) (xi12 47) ?_
              refine e_iinc (w := 1 + tu) (k := 49) (xi12 49) rfl (x_wn (by omega)) ?_
              show x_Ev 12 50 [.inr (7 + 7 * s), .inl (w), .inl (dk), .inl (x), .inl (nw), .inl (aw), .inl (fh), .inl (h), .inl (ts), .inl (1 + tu)] [] (0, 0) (z, P, M) _
              refine e_goto (k := 50) (xi12 50) ?_
              rw [(show l_runFrom_b s w dk x fh h ts M (k + 1) nw aw tu = l_runFrom_b s w dk x fh h ts M k nw aw (1 + tu) from by rw [l_runFrom_b, if_neg c0, if_neg c1, if_neg c4, if_neg c7, if_neg c8])] at kk
              exact ih nw aw (1 + tu) (by omega) (by omega) kk
def l_runFrom_a (s w dk x : Int) (M : Int → Int → Int) : Nat → Int → Int → Int → Int → Int × Int × Int × Int
  | 0, nw, aw, fh, h => (nw, aw, fh, h)
  | k + 1, nw, aw, fh, h => if 24 ≤ h then (nw, aw, fh, h) else if (l_runFrom_b s w dk x fh h (max (M (8 + 7 * s) h) (M (9 + 7 * s) h)) M 100 nw aw 0).2.1 ≤ 0 then l_runFrom_a s w dk x M k ((l_runFrom_b s w dk x fh h (max (M (8 + 7 * s) h) (M (9 + 7 * s) h)) M 100 nw aw 0).1) ((l_runFrom_b s w dk x fh h (max (M (8 + 7 * s) h) (M (9 + 7 * s) h)) M 100 nw aw 0).2.1) fh (1 + h) else if ¬ fh = (-1) then l_runFrom_a s w dk x M k ((l_runFrom_b s w dk x fh h (max (M (8 + 7 * s) h) (M (9 + 7 * s) h)) M 100 nw aw 0).1) ((l_runFrom_b s w dk x fh h (max (M (8 + 7 * s) h) (M (9 + 7 * s) h)) M 100 nw aw 0).2.1) fh (1 + h) else l_runFrom_a s w dk x M k ((l_runFrom_b s w dk x fh h (max (M (8 + 7 * s) h) (M (9 + 7 * s) h)) M 100 nw aw 0).1) ((l_runFrom_b s w dk x fh h (max (M (8 + 7 * s) h) (M (9 + 7 * s) h)) M 100 nw aw 0).2.1) h (1 + h)
theorem kl_runFrom_a {z : Int} {P M : Int → Int → Int} {r : Option xV × xH → Prop} (hS : x_Sh z P) (hT : y_TC M) (s : Int) (w : Int) (dk : Int) (x : Int) (hs : 0 ≤ s ∧ s < 12)  (hw : 0 ≤ w ∧ w ≤ 12) (hdk : 0 ≤ dk ∧ dk ≤ 12) : ∀ k : Nat, ∀ x8 x9 : xV, ∀ nw : Int, ∀ aw : Int, ∀ fh : Int, ∀ h : Int, ((0 ≤ nw ∧ nw ≤ 12) ∧ (0 ≤ aw ∧ aw ≤ 200 * h) ∧ 0 ≤ h ∧ h ≤ 24) → 24 - h < (k : Int) → (∀ x8 x9 : xV, True → x_Ev 12 60 [.inr (7 + 7 * s), .inl (w), .inl (dk), .inl (x), .inl ((l_runFrom_a s w dk x M k nw aw fh h).1), .inl ((l_runFrom_a s w dk x M k nw aw fh h).2.1), .inl ((l_runFrom_a s w dk x M k nw aw fh h).2.2.1), .inl ((l_runFrom_a s w dk x M k nw aw fh h).2.2.2), x8, x9] [] (0, 0) (z, P, M) r) → x_Ev 12 8 [.inr (7 + 7 * s), .inl (w), .inl (dk), .inl (x), .inl (nw), .inl (aw), .inl (fh), .inl (h), x8, x9] [] (0, 0) (z, P, M) r := by
  intro k
  induction k with
  | zero => intro x8 x9 nw aw fh h hi hm; omega
  | succ k ih =>
    intro x8 x9 nw aw fh h hi hm kk
    refine e_iload (k := 8) (xi12 8) rfl ?_
    refine e_iconst (k := 9) (xi12 9) ?_
    refine e_c_ge (k := 10) (xi12 10) (fun c0 => ?_) (fun c0 => ?_)
    · skip
      rw [(show l_runFrom_a s w dk x M (k + 1) nw aw fh h = (nw, aw, fh, h) from by rw [l_runFrom_a, if_pos c0])] at kk
      try dsimp only at kk
      exact kk _ _ (by first | exact trivial | omega)
    · skip
      refine e_aload (k := 11) (xi12 11) rfl (by omega) ?_
      refine e_getR (j := 1) (w := 8 + 7 * s) (k := 12) (xi12 12) (ok_dem hS hs) rfl (sh_br hS hs) ?_
      refine e_iload (k := 13) (xi12 13) rfl ?_
      have t1 := ty_br (j := h) hT hs (by omega)
      refine e_iald (w := M (8 + 7 * s) h) (k := 14) (xi12 14) (ok_br hS hs) (by rw [(ln_br hs)]; omega) rfl ?_
      refine e_aload (k := 15) (xi12 15) rfl (by omega) ?_
      refine e_getR (j := 2) (w := 9 + 7 * s) (k := 16) (xi12 16) (ok_dem hS hs) rfl (sh_wa hS hs) ?_
      refine e_iload (k := 17) (xi12 17) rfl ?_
      have t2 := ty_wa (j := h) hT hs (by omega)
      refine e_iald (w := M (9 + 7 * s) h) (k := 18) (xi12 18) (ok_wa hS hs) (by rw [(ln_wa hs)]; omega) rfl ?_
      refine e_max (k := 19) (xi12 19) (Nat.le_of_ble_eq_true rfl) ?_
      refine e_istore (k := 20) (xi12 20) (Nat.le_of_ble_eq_true rfl) ?_
      show x_Ev 12 21 [.inr (7 + 7 * s), .inl (w), .inl (dk), .inl (x), .inl (nw), .inl (aw), .inl (fh), .inl (h), .inl (max (M (8 + 7 * s) h) (M (9 + 7 * s) h)), x9] [] (0, 0) (z, P, M) _
      refine e_iconst (k := 21) (xi12 21) ?_
      refine e_istore (k := 22) (xi12 22) (Nat.le_of_ble_eq_true rfl) ?_
      show x_Ev 12 23 [.inr (7 + 7 * s), .inl (w), .inl (dk), .inl (x), .inl (nw), .inl (aw), .inl (fh), .inl (h), .inl (max (M (8 + 7 * s) h) (M (9 + 7 * s) h)), .inl 0] [] (0, 0) (z, P, M) _
      refine kl_runFrom_b hS hT s w dk x fh h (max (M (8 + 7 * s) h) (M (9 + 7 * s) h)) hs  (by omega) (by omega) (by omega) (by omega) 100 nw aw 0 (by omega) (by omega) ?_
      intro q4
      show x_Ev 12 51 [.inr (7 + 7 * s), .inl (w), .inl (dk), .inl (x), .inl ((l_runFrom_b s w dk x fh h (max (M (8 + 7 * s) h) (M (9 + 7 * s) h)) M 100 nw aw 0).1), .inl ((l_runFrom_b s w dk x fh h (max (M (8 + 7 * s) h) (M (9 + 7 * s) h)) M 100 nw aw 0).2.1), .inl (fh), .inl (h), .inl (max (M (8 + 7 * s) h) (M (9 + 7 * s) h)), .inl ((l_runFrom_b s w dk x fh h (max (M (8 + 7 * s) h) (M (9 + 7 * s) h)) M 100 nw aw 0).2.2)] [] (0, 0) (z, P, M) _
      refine e_iload (k := 51) (xi12 51) rfl ?_
      refine e_z_le (k := 52) (xi12 52) (fun c1 => ?_) (fun c1 => ?_)
      · skip
        refine e_iinc (w := 1 + h) (k := 58) (xi12 58) rfl (x_wn (by omega)) ?_
        show x_Ev 12 59 [.inr (7 + 7 * s), .inl (w), .inl (dk), .inl (x), .inl ((l_runFrom_b s w dk x fh h (max (M (8 + 7 * s) h) (M (9 + 7 * s) h)) M 100 nw aw 0).1), .inl ((l_runFrom_b s w dk x fh h (max (M (8 + 7 * s) h) (M (9 + 7 * s) h)) M 100 nw aw 0).2.1), .inl (fh), .inl (1 + h), .inl (max (M (8 + 7 * s) h) (M (9 + 7 * s) h)), .inl ((l_runFrom_b s w dk x fh h (max (M (8 + 7 * s) h) (M (9 + 7 * s) h)) M 100 nw aw 0).2.2)] [] (0, 0) (z, P, M) _
        refine e_goto (k := 59) (xi12 59) ?_
        rw [(show l_runFrom_a s w dk x M (k + 1) nw aw fh h = l_runFrom_a s w dk x M k ((l_runFrom_b s w dk x fh h (max (M (8 + 7 * s) h) (M (9 + 7 * s) h)) M 100 nw aw 0).1) ((l_runFrom_b s w dk x fh h (max (M (8 + 7 * s) h) (M (9 + 7 * s) h)) M 100 nw aw 0).2.1) fh (1 + h) from by rw [l_runFrom_a, if_neg c0, if_pos c1])] at kk
        exact ih _ _ ((l_runFrom_b s w dk x fh h (max (M (8 + 7 * s) h) (M (9 + 7 * s) h)) M 100 nw aw 0).1) ((l_runFrom_b s w dk x fh h (max (M (8 + 7 * s) h) (M (9 + 7 * s) h)) M 100 nw aw 0).2.1) fh (1 + h) (by omega) (by omega) kk
      · skip
        refine e_iload (k := 53) (xi12 53) rfl ?_
        refine e_iconst (k := 54) (xi12 54) ?_
        refine e_c_ne (k := 55) (xi12 55) (fun c2 => ?_) (fun c2 => ?_)
        · skip
          refine e_iinc (w := 1 + h) (k := 58) (xi12 58) rfl (x_wn (by omega)) ?_
          show x_Ev 12 59 [.inr (7 + 7 * s), .inl (w), .inl (dk), .inl (x), .inl ((l_runFrom_b s w dk x fh h (max (M (8 + 7 * s) h) (M (9 + 7 * s) h)) M 100 nw aw 0).1), .inl ((l_runFrom_b s w dk x fh h (max (M (8 + 7 * s) h) (M (9 + 7 * s) h)) M 100 nw aw 0).2.1), .inl (fh), .inl (1 + h), .inl (max (M (8 + 7 * s) h) (M (9 + 7 * s) h)), .inl ((l_runFrom_b s w dk x fh h (max (M (8 + 7 * s) h) (M (9 + 7 * s) h)) M 100 nw aw 0).2.2)] [] (0, 0) (z, P, M) _
          refine e_goto (k := 59) (xi12 59) ?_
          rw [(show l_runFrom_a s w dk x M (k + 1) nw aw fh h = l_runFrom_a s w dk x M k ((l_runFrom_b s w dk x fh h (max (M (8 + 7 * s) h) (M (9 + 7 * s) h)) M 100 nw aw 0).1) ((l_runFrom_b s w dk x fh h (max (M (8 + 7 * s) h) (M (9 + 7 * s) h)) M 100 nw aw 0).2.1) fh (1 + h) from by rw [l_runFrom_a, if_neg c0, if_neg c1, if_pos c2])] at kk
          exact ih _ _ ((l_runFrom_b s w dk x fh h (max (M (8 + 7 * s) h) (M (9 + 7 * s) h)) M 100 nw aw 0).1) ((l_runFrom_b s w dk x fh h (max (M (8 + 7 * s) h) (M (9 + 7 * s) h)) M 100 nw aw 0).2.1) fh (1 + h) (by omega) (by omega) kk
        · skip
          refine e_iload (k := 56) (xi12 56) rfl ?_
          refine e_istore (k := 57) (xi12 57) (Nat.le_of_ble_eq_true rfl) ?_
          show x_Ev 12 58 [.inr (7 + 7 * s), .inl (w), .inl (dk), .inl (x), .inl ((l_runFrom_b s w dk x fh h (max (M (8 + 7 * s) h) (M (9 + 7 * s) h)) M 100 nw aw 0).1), .inl ((l_runFrom_b s w dk x fh h (max (M (8 + 7 * s) h) (M (9 + 7 * s) h)) M 100 nw aw 0).2.1), .inl (h), .inl (h), .inl (max (M (8 + 7 * s) h) (M (9 + 7 * s) h)), .inl ((l_runFrom_b s w dk x fh h (max (M (8 + 7 * s) h) (M (9 + 7 * s) h)) M 100 nw aw 0).2.2)] [] (0, 0) (z, P, M) _
          refine e_iinc (w := 1 + h) (k := 58) (xi12 58) rfl (x_wn (by omega)) ?_
          show x_Ev 12 59 [.inr (7 + 7 * s), .inl (w), .inl (dk), .inl (x), .inl ((l_runFrom_b s w dk x fh h (max (M (8 + 7 * s) h) (M (9 + 7 * s) h)) M 100 nw aw 0).1), .inl ((l_runFrom_b s w dk x fh h (max (M (8 + 7 * s) h) (M (9 + 7 * s) h)) M 100 nw aw 0).2.1), .inl (h), .inl (1 + h), .inl (max (M (8 + 7 * s) h) (M (9 + 7 * s) h)), .inl ((l_runFrom_b s w dk x fh h (max (M (8 + 7 * s) h) (M (9 + 7 * s) h)) M 100 nw aw 0).2.2)] [] (0, 0) (z, P, M) _
          refine e_goto (k := 59) (xi12 59) ?_
          rw [(show l_runFrom_a s w dk x M (k + 1) nw aw fh h = l_runFrom_a s w dk x M k ((l_runFrom_b s w dk x fh h (max (M (8 + 7 * s) h) (M (9 + 7 * s) h)) M 100 nw aw 0).1) ((l_runFrom_b s w dk x fh h (max (M (8 + 7 * s) h) (M (9 + 7 * s) h)) M 100 nw aw 0).2.1) h (1 + h) from by rw [l_runFrom_a, if_neg c0, if_neg c1, if_neg c2])] at kk
          exact ih _ _ ((l_runFrom_b s w dk x fh h (max (M (8 + 7 * s) h) (M (9 + 7 * s) h)) M 100 nw aw 0).1) ((l_runFrom_b s w dk x fh h (max (M (8 + 7 * s) h) (M (9 + 7 * s) h)) M 100 nw aw 0).2.1) h (1 + h) (by omega) (by omega) kk
def v_runFrom (s w dk x : Int) (M : Int → Int → Int) : Int := if x = 0 then (l_runFrom_a s w dk x M 25 w 0 ((-1)) 0).2.1 else if x = 1 then (l_runFrom_a s w dk x M 25 w 0 ((-1)) 0).2.2.1 else if x = 2 then (l_runFrom_a s w dk x M 25 w 0 ((-1)) 0).1 else (-3)
theorem k_runFrom {z : Int} {P M : Int → Int → Int} (hS : x_Sh z P) (hT : y_TC M) (s : Int) (w : Int) (dk : Int) (x : Int) (hs : 0 ≤ s ∧ s < 12) (hw : 0 ≤ w ∧ w ≤ 12) (hdk : 0 ≤ dk ∧ dk ≤ 12) : x_CallR 12 [.inr (7 + 7 * s), .inl (w), .inl (dk), .inl (x)] (z, P, M) (fun q => q = (some (.inl (v_runFrom s w dk x M)), (z, P, M)) ∧ True) := by
  refine e_body (ls0 := [.inr (7 + 7 * s), .inl (w), .inl (dk), .inl (x), x_un, x_un, x_un, x_un, x_un, x_un]) xm12 rfl ?_
  refine e_iload (k := 0) (xi12 0) rfl ?_
  refine e_istore (k := 1) (xi12 1) (Nat.le_of_ble_eq_true rfl) ?_
  show x_Ev 12 2 [.inr (7 + 7 * s), .inl (w), .inl (dk), .inl (x), .inl (w), x_un, x_un, x_un, x_un, x_un] [] (0, 0) (z, P, M) _
  refine e_iconst (k := 2) (xi12 2) ?_
  refine e_istore (k := 3) (xi12 3) (Nat.le_of_ble_eq_true rfl) ?_
  show x_Ev 12 4 [.inr (7 + 7 * s), .inl (w), .inl (dk), .inl (x), .inl (w), .inl 0, x_un, x_un, x_un, x_un] [] (0, 0) (z, P, M) _
  refine e_iconst (k := 4) (xi12 4) ?_
  refine e_istore (k := 5) (xi12 5) (Nat.le_of_ble_eq_true rfl) ?_
  show x_Ev 12 6 [.inr (7 + 7 * s), .inl (w), .inl (dk), .inl (x), .inl (w), .inl 0, .inl ((-1)), x_un, x_un, x_un] [] (0, 0) (z, P, M) _
  refine e_iconst (k := 6) (xi12 6) ?_
  refine e_istore (k := 7) (xi12 7) (Nat.le_of_ble_eq_true rfl) ?_
  show x_Ev 12 8 [.inr (7 + 7 * s), .inl (w), .inl (dk), .inl (x), .inl (w), .inl 0, .inl ((-1)), .inl 0, x_un, x_un] [] (0, 0) (z, P, M) _
  refine kl_runFrom_a hS hT s w dk x  hs  (by omega) (by omega) 25 _ _ w 0 ((-1)) 0 (by omega) (by omega) ?_
  intro x3 x4 q2
  show x_Ev 12 60 [.inr (7 + 7 * s), .inl (w), .inl (dk), .inl (x), .inl ((l_runFrom_a s w dk x M 25 w 0 ((-1)) 0).1), .inl ((l_runFrom_a s w dk x M 25 w 0 ((-1)) 0).2.1), .inl ((l_runFrom_a s w dk x M 25 w 0 ((-1)) 0).2.2.1), .inl ((l_runFrom_a s w dk x M 25 w 0 ((-1)) 0).2.2.2), x3, x4] [] (0, 0) (z, P, M) _
  refine e_iload (k := 60) (xi12 60) rfl ?_
  by_cases c0 : x = 0
  · skip
    refine e_sw (t2 := 62) (k := 61) (xi12 61) (by rw [c0]; decide +kernel) ?_
    refine e_iload (k := 62) (xi12 62) rfl ?_
    refine e_iret (k := 63) (xi12 63) ?_
    exact y_fV (Q := fun _ => True) (show v_runFrom s w dk x M = (l_runFrom_a s w dk x M 25 w 0 ((-1)) 0).2.1 from by rw [v_runFrom, if_pos c0]) trivial
  by_cases c1 : x = 1
  · skip
    refine e_sw (t2 := 64) (k := 61) (xi12 61) (by rw [c1]; decide +kernel) ?_
    refine e_iload (k := 64) (xi12 64) rfl ?_
    refine e_iret (k := 65) (xi12 65) ?_
    exact y_fV (Q := fun _ => True) (show v_runFrom s w dk x M = (l_runFrom_a s w dk x M 25 w 0 ((-1)) 0).2.2.1 from by rw [v_runFrom, if_neg c0, if_pos c1]) trivial
  by_cases c2 : x = 2
  · skip
    refine e_sw (t2 := 66) (k := 61) (xi12 61) (by rw [c2]; decide +kernel) ?_
    refine e_iload (k := 66) (xi12 66) rfl ?_
    refine e_iret (k := 67) (xi12 67) ?_
    exact y_fV (Q := fun _ => True) (show v_runFrom s w dk x M = (l_runFrom_a s w dk x M 25 w 0 ((-1)) 0).1 from by rw [v_runFrom, if_neg c0, if_neg c1, if_pos c2]) trivial
  refine e_sw (k := 61) (t2 := 68) (xi12 61) (if_pos (by omega)) ?_
  refine e_iconst (k := 68) (xi12 68) ?_
  refine e_iret (k := 69) (xi12 69) ?_
  exact y_fV (Q := fun _ => True) (show v_runFrom s w dk x M = (-3) from by rw [v_runFrom, if_neg c0, if_neg c1, if_neg c2]) trivial
def l_bestStart_a (s dk : Int) (M : Int → Int → Int) : Nat → Int → Int → Int → Int × Int × Int
  | 0, be, fw, wl => (be, fw, wl)
  | k + 1, be, fw, wl => if dk < wl then (be, fw, wl) else if fw ≤ v_runFrom s wl dk 0 M then l_bestStart_a s dk M k be fw (1 + wl) else l_bestStart_a s dk M k wl (v_runFrom s wl dk 0 M) (1 + wl)
theorem kl_bestStart_a {z : Int} {P M : Int → Int → Int} {r : Option xV × xH → Prop} (hS : x_Sh z P) (hT : y_TC M) (s : Int) (dk : Int) (hs : 0 ≤ s ∧ s < 12)  (hdk : 0 ≤ dk ∧ dk ≤ 12) : ∀ k : Nat, ∀ x5 : xV, ∀ be : Int, ∀ fw : Int, ∀ wl : Int, ((0 ≤ be ∧ be ≤ 12) ∧ 1 ≤ wl ∧ wl ≤ 13) → 13 - wl < (k : Int) → (∀ x5 : xV, 0 ≤ ((l_bestStart_a s dk M k be fw wl).1) ∧ ((l_bestStart_a s dk M k be fw wl).1) ≤ 12 → x_Ev 13 28 [.inr (7 + 7 * s), .inl (dk), .inl ((l_bestStart_a s dk M k be fw wl).1), .inl ((l_bestStart_a s dk M k be fw wl).2.1), .inl ((l_bestStart_a s dk M k be fw wl).2.2), x5] [] (0, 0) (z, P, M) r) → x_Ev 13 10 [.inr (7 + 7 * s), .inl (dk), .inl (be), .inl (fw), .inl (wl), x5] [] (0, 0) (z, P, M) r := by
  intro k
  induction k with
  | zero => intro x5 be fw wl hi hm; omega
  | succ k ih =>
    intro x5 be fw wl hi hm kk
    refine e_iload (k := 10) (xi13 10) rfl ?_
    refine e_iload (k := 11) (xi13 11) rfl ?_
    refine e_c_gt (k := 12) (xi13 12) (fun c0 => ?_) (fun c0 => ?_)
    · skip
      rw [(show l_bestStart_a s dk M (k + 1) be fw wl = (be, fw, wl) from by rw [l_bestStart_a, if_pos c0])] at kk
      try dsimp only at kk
      exact kk _ (by first | exact trivial | omega)
    · skip
      refine e_aload (k := 13) (xi13 13) rfl (by omega) ?_
      refine e_iload (k := 14) (xi13 14) rfl ?_
      refine e_iload (k := 15) (xi13 15) rfl ?_
      refine e_iconst (k := 16) (xi13 16) ?_
      refine e_callR (k := 17) (c1 := 0) (c2 := 0) (rest := []) (as := [.inr (7 + 7 * s), .inl (wl), .inl (dk), .inl 0]) (xi13 17) (by decide) xm12 rfl ⟨rfl, Nat.le_of_ble_eq_true rfl, by decide⟩ (Or.inr (x_okt (ok_dem hS hs))) (k_runFrom hS hT s wl dk 0 hs (by omega) (by omega)) ?_
      rintro v_ h_ ⟨e1, q3⟩
      cases e1
      show x_Ev 13 18 [.inr (7 + 7 * s), .inl (dk), .inl (be), .inl (fw), .inl (wl), x5] [.inl (v_runFrom s wl dk 0 M)] (0, 0) (z, P, M) _
      refine e_istore (k := 18) (xi13 18) (Nat.le_of_ble_eq_true rfl) ?_
      show x_Ev 13 19 [.inr (7 + 7 * s), .inl (dk), .inl (be), .inl (fw), .inl (wl), .inl (v_runFrom s wl dk 0 M)] [] (0, 0) (z, P, M) _
      refine e_iload (k := 19) (xi13 19) rfl ?_
      refine e_iload (k := 20) (xi13 20) rfl ?_
      refine e_c_ge (k := 21) (xi13 21) (fun c1 => ?_) (fun c1 => ?_)
      · skip
        refine e_iinc (w := 1 + wl) (k := 26) (xi13 26) rfl (x_wn (by omega)) ?_
        show x_Ev 13 27 [.inr (7 + 7 * s), .inl (dk), .inl (be), .inl (fw), .inl (1 + wl), .inl (v_runFrom s wl dk 0 M)] [] (0, 0) (z, P, M) _
        refine e_goto (k := 27) (xi13 27) ?_
        rw [(show l_bestStart_a s dk M (k + 1) be fw wl = l_bestStart_a s dk M k be fw (1 + wl) from by rw [l_bestStart_a, if_neg c0, if_pos c1])] at kk
        exact ih _ be fw (1 + wl) (by omega) (by omega) kk
      · skip
        refine e_iload (k := 22) (xi13 22) rfl ?_
        refine e_istore (k := 23) (xi13 23) (Nat.le_of_ble_eq_true rfl) ?_
        show x_Ev 13 24 [.inr (7 + 7 * s), .inl (dk), .inl (be), .inl (v_runFrom s wl dk 0 M), .inl (wl), .inl (v_runFrom s wl dk 0 M)] [] (0, 0) (z, P, M) _
        refine e_iload (k := 24) (xi13 24) rfl ?_
        refine e_istore (k := 25) (xi13 25) (Nat.le_of_ble_eq_true rfl) ?_
        show x_Ev 13 26 [.inr (7 + 7 * s), .inl (dk), .inl (wl), .inl (v_runFrom s wl dk 0 M), .inl (wl), .inl (v_runFrom s wl dk 0 M)] [] (0, 0) (z, P, M) _
        refine e_iinc (w := 1 + wl) (k := 26) (xi13 26) rfl (x_wn (by omega)) ?_
        show x_Ev 13 27 [.inr (7 + 7 * s), .inl (dk), .inl (wl), .inl (v_runFrom s wl dk 0 M), .inl (1 + wl), .inl (v_runFrom s wl dk 0 M)] [] (0, 0) (z, P, M) _
        refine e_goto (k := 27) (xi13 27) ?_
        rw [(show l_bestStart_a s dk M (k + 1) be fw wl = l_bestStart_a s dk M k wl (v_runFrom s wl dk 0 M) (1 + wl) from by rw [l_bestStart_a, if_neg c0, if_neg c1])] at kk
        exact ih _ wl (v_runFrom s wl dk 0 M) (1 + wl) (by omega) (by omega) kk
def v_bestStart (s dk : Int) (M : Int → Int → Int) : Int := (l_bestStart_a s dk M 14 0 (v_runFrom s 0 dk 0 M) 1).1
theorem k_bestStart {z : Int} {P M : Int → Int → Int} (hS : x_Sh z P) (hT : y_TC M) (s : Int) (dk : Int) (hs : 0 ≤ s ∧ s < 12) (hdk : 0 ≤ dk ∧ dk ≤ 12) : x_CallR 13 [.inr (7 + 7 * s), .inl (dk)] (z, P, M) (fun q => q = (some (.inl (v_bestStart s dk M)), (z, P, M)) ∧ (fun v => 0 ≤ v ∧ v ≤ 12) (v_bestStart s dk M)) := by
  refine e_body (ls0 := [.inr (7 + 7 * s), .inl (dk), x_un, x_un, x_un, x_un]) xm13 rfl ?_
  refine e_iconst (k := 0) (xi13 0) ?_
  refine e_istore (k := 1) (xi13 1) (Nat.le_of_ble_eq_true rfl) ?_
  show x_Ev 13 2 [.inr (7 + 7 * s), .inl (dk), .inl 0, x_un, x_un, x_un] [] (0, 0) (z, P, M) _
  refine e_aload (k := 2) (xi13 2) rfl (by omega) ?_
  refine e_iconst (k := 3) (xi13 3) ?_
  refine e_iload (k := 4) (xi13 4) rfl ?_
  refine e_iconst (k := 5) (xi13 5) ?_
  refine e_callR (k := 6) (c1 := 0) (c2 := 0) (rest := []) (as := [.inr (7 + 7 * s), .inl 0, .inl (dk), .inl 0]) (xi13 6) (by decide) xm12 rfl ⟨rfl, Nat.le_of_ble_eq_true rfl, by decide⟩ (Or.inr (x_okt (ok_dem hS hs))) (k_runFrom hS hT s 0 dk 0 hs (by omega) (by omega)) ?_
  rintro v_ h_ ⟨e1, q3⟩
  cases e1
  show x_Ev 13 7 [.inr (7 + 7 * s), .inl (dk), .inl 0, x_un, x_un, x_un] [.inl (v_runFrom s 0 dk 0 M)] (0, 0) (z, P, M) _
  refine e_istore (k := 7) (xi13 7) (Nat.le_of_ble_eq_true rfl) ?_
  show x_Ev 13 8 [.inr (7 + 7 * s), .inl (dk), .inl 0, .inl (v_runFrom s 0 dk 0 M), x_un, x_un] [] (0, 0) (z, P, M) _
  refine e_iconst (k := 8) (xi13 8) ?_
  refine e_istore (k := 9) (xi13 9) (Nat.le_of_ble_eq_true rfl) ?_
  show x_Ev 13 10 [.inr (7 + 7 * s), .inl (dk), .inl 0, .inl (v_runFrom s 0 dk 0 M), .inl 1, x_un] [] (0, 0) (z, P, M) _
  refine kl_bestStart_a hS hT s dk  hs  (by omega) 14 _ 0 (v_runFrom s 0 dk 0 M) 1 (by omega) (by omega) ?_
  intro x6 q5
  show x_Ev 13 28 [.inr (7 + 7 * s), .inl (dk), .inl ((l_bestStart_a s dk M 14 0 (v_runFrom s 0 dk 0 M) 1).1), .inl ((l_bestStart_a s dk M 14 0 (v_runFrom s 0 dk 0 M) 1).2.1), .inl ((l_bestStart_a s dk M 14 0 (v_runFrom s 0 dk 0 M) 1).2.2), x6] [] (0, 0) (z, P, M) _
  refine e_iload (k := 28) (xi13 28) rfl ?_
  refine e_iret (k := 29) (xi13 29) ?_
  exact y_fV (Q := fun v => 0 ≤ v ∧ v ≤ 12) (show v_bestStart s dk M = (l_bestStart_a s dk M 14 0 (v_runFrom s 0 dk 0 M) 1).1 from rfl) (by omega)
def v_x_stand (n : Int) (M : Int → Int → Int) : Int := if n < 2 then (-1) else if n ≤ 12 then v_addStand n M else (-1)
def u_x_stand (n : Int) (M : Int → Int → Int) : Int → Int → Int := if n < 2 then M else if n ≤ 12 then (u_addStand n M) else M
theorem k_x_stand {z : Int} {P M : Int → Int → Int} (hS : x_Sh z P) (hT : y_TC M) (n : Int)   : x_CallR 78 [.inr 0, .inl (n)] (z, P, M) (fun q => q = (some (.inl (v_x_stand n M)), (z, P, u_x_stand n M)) ∧ y_TL 2 M (u_x_stand n M) ∧ True) := by
  have tl0 : y_TL 2 M M := tl_refl hT
  refine e_body (ls0 := [.inr 0, .inl (n)]) xm78 rfl ?_
  refine e_iload (k := 0) (xi78 0) rfl ?_
  refine e_iconst (k := 1) (xi78 1) ?_
  refine e_c_lt (k := 2) (xi78 2) (fun c0 => ?_) (fun c0 => ?_)
  · skip
    refine e_iconst (k := 6) (xi78 6) ?_
    refine e_goto (k := 7) (xi78 7) ?_
    refine e_iret (k := 12) (xi78 12) ?_
    exact y_fW (Q := fun _ => True) (show v_x_stand n M = (-1) from by rw [v_x_stand, if_pos c0]) (show u_x_stand n M = M from by rw [u_x_stand, if_pos c0]) tl0 trivial
  · skip
    refine e_iload (k := 3) (xi78 3) rfl ?_
    refine e_iconst (k := 4) (xi78 4) ?_
    refine e_c_le (k := 5) (xi78 5) (fun c1 => ?_) (fun c1 => ?_)
    · skip
      refine e_aload (k := 8) (xi78 8) rfl (by decide) ?_
      refine e_getR (j := 0) (w := 1) (k := 9) (xi78 9) (ok_WS hS) rfl (sh_town hS) ?_
      refine e_iload (k := 10) (xi78 10) rfl ?_
      refine e_callR (k := 11) (c1 := 0) (c2 := 0) (rest := []) (as := [.inr 1, .inl (n)]) (xi78 11) (by decide) xm44 rfl ⟨rfl, Nat.le_of_ble_eq_true rfl, by decide⟩ (Or.inr (x_okt (ok_town hS))) (k_addStand hS tl0.1 n  (by omega)) ?_
      rintro v_ h_ ⟨e1, tl2, q3⟩
      cases e1
      have tl4 := tl_trans tl0 (tl2)
      show x_Ev 78 12 [.inr 0, .inl (n)] [.inl (v_addStand n M)] (0, 0) (z, P, (u_addStand n M)) _
      refine e_iret (k := 12) (xi78 12) ?_
      exact y_fW (Q := fun _ => True) (show v_x_stand n M = v_addStand n M from by rw [v_x_stand, if_neg c0, if_pos c1]) (show u_x_stand n M = (u_addStand n M) from by rw [u_x_stand, if_neg c0, if_pos c1]) tl4 trivial
    · skip
      refine e_iconst (k := 6) (xi78 6) ?_
      refine e_goto (k := 7) (xi78 7) ?_
      refine e_iret (k := 12) (xi78 12) ?_
      exact y_fW (Q := fun _ => True) (show v_x_stand n M = (-1) from by rw [v_x_stand, if_neg c0, if_neg c1]) (show u_x_stand n M = M from by rw [u_x_stand, if_neg c0, if_neg c1]) tl0 trivial
def v_x_length (a b l : Int) (M : Int → Int → Int) : Int := if 0 ≤ a ∧ a < M 1 1 then (if 0 ≤ b ∧ b < M 1 1 then (if a = b then 0 else if l < 1 then 0 else if l ≤ 999 then 1 else 0) else 0) else if 0 ≤ b ∧ b < M 1 1 then 0 else 0
def u_x_length (a b l : Int) (M : Int → Int → Int) : Int → Int → Int := if 0 ≤ a ∧ a < M 1 1 then (if 0 ≤ b ∧ b < M 1 1 then (if a = b then M else if l < 1 then M else if l ≤ 999 then (x_up ((x_up M (5 + 7 * a) b l)) (5 + 7 * b) a l) else M) else M) else if 0 ≤ b ∧ b < M 1 1 then M else M
theorem k_x_length {z : Int} {P M : Int → Int → Int} (hS : x_Sh z P) (hT : y_TC M) (a : Int) (b : Int) (l : Int)   : x_CallR 79 [.inr 0, .inl (a), .inl (b), .inl (l)] (z, P, M) (fun q => q = (some (.inl (v_x_length a b l M)), (z, P, u_x_length a b l M)) ∧ y_TL 0 M (u_x_length a b l M) ∧ True) := by
  have tl0 : y_TL 0 M M := tl_refl hT
  refine e_body (ls0 := [.inr 0, .inl (a), .inl (b), .inl (l), x_un, x_un]) xm79 rfl ?_
  refine e_aload (k := 0) (xi79 0) rfl (by decide) ?_
  refine e_getR (j := 0) (w := 1) (k := 1) (xi79 1) (ok_WS hS) rfl (sh_town hS) ?_
  refine e_iload (k := 2) (xi79 2) rfl ?_
  have t1 := ty_town1 tl0.1 
  by_cases c0 : 0 ≤ a ∧ a < M 1 1
  · skip
    refine e_call (k := 3) (v := some (.inr (3 + 7 * a))) (h1 := (z, P, M)) (c1 := 0) (c2 := 0) (rest := []) (as := [.inr 1, .inl (a)]) (xi79 3) (by decide) xm40 rfl ⟨rfl, Nat.le_of_ble_eq_true rfl, by decide⟩ (Or.inr (x_okt (ok_town hS))) (k_standAtT hS tl0.1 a c0) ?_
    refine e_astore (k := 4) (xi79 4) (Nat.le_of_ble_eq_true rfl) (by omega) ?_
    show x_Ev 79 5 [.inr 0, .inl (a), .inl (b), .inl (l), .inr (3 + 7 * a), x_un] [] (0, 0) (z, P, M) _
    refine e_aload (k := 5) (xi79 5) rfl (by decide) ?_
    refine e_getR (j := 0) (w := 1) (k := 6) (xi79 6) (ok_WS hS) rfl (sh_town hS) ?_
    refine e_iload (k := 7) (xi79 7) rfl ?_
    by_cases c1 : 0 ≤ b ∧ b < M 1 1
    · skip
      refine e_call (k := 8) (v := some (.inr (3 + 7 * b))) (h1 := (z, P, M)) (c1 := 0) (c2 := 0) (rest := []) (as := [.inr 1, .inl (b)]) (xi79 8) (by decide) xm40 rfl ⟨rfl, Nat.le_of_ble_eq_true rfl, by decide⟩ (Or.inr (x_okt (ok_town hS))) (k_standAtT hS tl0.1 b c1) ?_
      refine e_astore (k := 9) (xi79 9) (Nat.le_of_ble_eq_true rfl) (by omega) ?_
      show x_Ev 79 10 [.inr 0, .inl (a), .inl (b), .inl (l), .inr (3 + 7 * a), .inr (3 + 7 * b)] [] (0, 0) (z, P, M) _
      refine e_aload (k := 10) (xi79 10) rfl (by omega) ?_
      refine e_ifnull (k := 11) (xi79 11) (by omega) (fun q => absurd q (by omega)) (fun _ => ?_)
      refine e_aload (k := 12) (xi79 12) rfl (by omega) ?_
      refine e_ifnull (k := 13) (xi79 13) (by omega) (fun q => absurd q (by omega)) (fun _ => ?_)
      refine e_iload (k := 14) (xi79 14) rfl ?_
      refine e_iload (k := 15) (xi79 15) rfl ?_
      refine e_c_eq (k := 16) (xi79 16) (fun c2 => ?_) (fun c2 => ?_)
      · skip
        refine e_iconst (k := 23) (xi79 23) ?_
        refine e_zret (k := 24) (xi79 24) (by first | decide | omega) ?_
        exact y_fW (Q := fun _ => True) (show v_x_length a b l M = 0 from by rw [v_x_length, if_pos c0, if_pos c1, if_pos c2]) (show u_x_length a b l M = M from by rw [u_x_length, if_pos c0, if_pos c1, if_pos c2]) tl0 trivial
      · skip
        refine e_iload (k := 17) (xi79 17) rfl ?_
        refine e_iconst (k := 18) (xi79 18) ?_
        refine e_c_lt (k := 19) (xi79 19) (fun c3 => ?_) (fun c3 => ?_)
        · skip
          refine e_iconst (k := 23) (xi79 23) ?_
          refine e_zret (k := 24) (xi79 24) (by first | decide | omega) ?_
          exact y_fW (Q := fun _ => True) (show v_x_length a b l M = 0 from by rw [v_x_length, if_pos c0, if_pos c1, if_neg c2, if_pos c3]) (show u_x_length a b l M = M from by rw [u_x_length, if_pos c0, if_pos c1, if_neg c2, if_pos c3]) tl0 trivial
        · skip
          refine e_iload (k := 20) (xi79 20) rfl ?_
          refine e_iconst (k := 21) (xi79 21) ?_
          refine e_c_le (k := 22) (xi79 22) (fun c4 => ?_) (fun c4 => ?_)
          · skip
            refine e_aload (k := 25) (xi79 25) rfl (by omega) ?_
            refine e_getR (j := 3) (w := 5 + 7 * a) (k := 26) (xi79 26) (ok_st hS (show 0 ≤ a ∧ a < 12 by omega)) rfl (sh_len hS (show 0 ≤ a ∧ a < 12 by omega)) ?_
            refine e_iload (k := 27) (xi79 27) rfl ?_
            refine e_iload (k := 28) (xi79 28) rfl ?_
            refine e_iast (k := 29) (xi79 29) (ok_len hS (show 0 ≤ a ∧ a < 12 by omega)) (by rw [(ln_len (show 0 ≤ a ∧ a < 12 by omega))]; omega) ?_
            have tl2 : y_TL 0 M (x_up M (5 + 7 * a) b l) := tl_up tl0 (sl_len (j := b) (show 0 ≤ a ∧ a < 12 by omega) (by omega)) (nf_len (j := b) (show 0 ≤ a ∧ a < 12 by omega))
            refine e_aload (k := 30) (xi79 30) rfl (by omega) ?_
            refine e_getR (j := 3) (w := 5 + 7 * b) (k := 31) (xi79 31) (ok_st hS (show 0 ≤ b ∧ b < 12 by omega)) rfl (sh_len hS (show 0 ≤ b ∧ b < 12 by omega)) ?_
            refine e_iload (k := 32) (xi79 32) rfl ?_
            refine e_iload (k := 33) (xi79 33) rfl ?_
            refine e_iast (k := 34) (xi79 34) (ok_len hS (show 0 ≤ b ∧ b < 12 by omega)) (by rw [(ln_len (show 0 ≤ b ∧ b < 12 by omega))]; omega) ?_
            have tl3 : y_TL 0 M (x_up ((x_up M (5 + 7 * a) b l)) (5 + 7 * b) a l) := tl_up tl2 (sl_len (j := a) (show 0 ≤ b ∧ b < 12 by omega) (by omega)) (nf_len (j := a) (show 0 ≤ b ∧ b < 12 by omega))
            refine e_iconst (k := 35) (xi79 35) ?_
            refine e_zret (k := 36) (xi79 36) (by first | decide | omega) ?_
            exact y_fW (Q := fun _ => True) (show v_x_length a b l M = 1 from by rw [v_x_length, if_pos c0, if_pos c1, if_neg c2, if_neg c3, if_pos c4]) (show u_x_length a b l M = (x_up ((x_up M (5 + 7 * a) b l)) (5 + 7 * b) a l) from by rw [u_x_length, if_pos c0, if_pos c1, if_neg c2, if_neg c3, if_pos c4]) tl3 trivial
          · skip
            refine e_iconst (k := 23) (xi79 23) ?_
            refine e_zret (k := 24) (xi79 24) (by first | decide | omega) ?_
            exact y_fW (Q := fun _ => True) (show v_x_length a b l M = 0 from by rw [v_x_length, if_pos c0, if_pos c1, if_neg c2, if_neg c3, if_neg c4]) (show u_x_length a b l M = M from by rw [u_x_length, if_pos c0, if_pos c1, if_neg c2, if_neg c3, if_neg c4]) tl0 trivial
    · skip
      refine e_call (k := 8) (v := some (.inr (-1))) (h1 := (z, P, M)) (c1 := 0) (c2 := 0) (rest := []) (as := [.inr 1, .inl (b)]) (xi79 8) (by decide) xm40 rfl ⟨rfl, Nat.le_of_ble_eq_true rfl, by decide⟩ (Or.inr (x_okt (ok_town hS))) (k_standAtF hS tl0.1 b c1) ?_
      refine e_astore (k := 9) (xi79 9) (Nat.le_of_ble_eq_true rfl) (by decide) ?_
      show x_Ev 79 10 [.inr 0, .inl (a), .inl (b), .inl (l), .inr (3 + 7 * a), .inr (-1)] [] (0, 0) (z, P, M) _
      refine e_aload (k := 10) (xi79 10) rfl (by omega) ?_
      refine e_ifnull (k := 11) (xi79 11) (by omega) (fun q => absurd q (by omega)) (fun _ => ?_)
      refine e_aload (k := 12) (xi79 12) rfl (by decide) ?_
      refine e_ifnull (k := 13) (xi79 13) (by omega) (fun _ => ?_) (fun q => absurd (by omega) q)
      refine e_iconst (k := 23) (xi79 23) ?_
      refine e_zret (k := 24) (xi79 24) (by first | decide | omega) ?_
      exact y_fW (Q := fun _ => True) (show v_x_length a b l M = 0 from by rw [v_x_length, if_pos c0, if_neg c1]) (show u_x_length a b l M = M from by rw [u_x_length, if_pos c0, if_neg c1]) tl0 trivial
  · skip
    refine e_call (k := 3) (v := some (.inr (-1))) (h1 := (z, P, M)) (c1 := 0) (c2 := 0) (rest := []) (as := [.inr 1, .inl (a)]) (xi79 3) (by decide) xm40 rfl ⟨rfl, Nat.le_of_ble_eq_true rfl, by decide⟩ (Or.inr (x_okt (ok_town hS))) (k_standAtF hS tl0.1 a c0) ?_
    refine e_astore (k := 4) (xi79 4) (Nat.le_of_ble_eq_true rfl) (by decide) ?_
    show x_Ev 79 5 [.inr 0, .inl (a), .inl (b), .inl (l), .inr (-1), x_un] [] (0, 0) (z, P, M) _
    refine e_aload (k := 5) (xi79 5) rfl (by decide) ?_
    refine e_getR (j := 0) (w := 1) (k := 6) (xi79 6) (ok_WS hS) rfl (sh_town hS) ?_
    refine e_iload (k := 7) (xi79 7) rfl ?_
    by_cases c5 : 0 ≤ b ∧ b < M 1 1
    · skip
      refine e_call (k := 8) (v := some (.inr (3 + 7 * b))) (h1 := (z, P, M)) (c1 := 0) (c2 := 0) (rest := []) (as := [.inr 1, .inl (b)]) (xi79 8) (by decide) xm40 rfl ⟨rfl, Nat.le_of_ble_eq_true rfl, by decide⟩ (Or.inr (x_okt (ok_town hS))) (k_standAtT hS tl0.1 b c5) ?_
      refine e_astore (k := 9) (xi79 9) (Nat.le_of_ble_eq_true rfl) (by omega) ?_
      show x_Ev 79 10 [.inr 0, .inl (a), .inl (b), .inl (l), .inr (-1), .inr (3 + 7 * b)] [] (0, 0) (z, P, M) _
      refine e_aload (k := 10) (xi79 10) rfl (by decide) ?_
      refine e_ifnull (k := 11) (xi79 11) (by omega) (fun _ => ?_) (fun q => absurd (by omega) q)
      refine e_iconst (k := 23) (xi79 23) ?_
      refine e_zret (k := 24) (xi79 24) (by first | decide | omega) ?_
      exact y_fW (Q := fun _ => True) (show v_x_length a b l M = 0 from by rw [v_x_length, if_neg c0, if_pos c5]) (show u_x_length a b l M = M from by rw [u_x_length, if_neg c0, if_pos c5]) tl0 trivial
    · skip
      refine e_call (k := 8) (v := some (.inr (-1))) (h1 := (z, P, M)) (c1 := 0) (c2 := 0) (rest := []) (as := [.inr 1, .inl (b)]) (xi79 8) (by decide) xm40 rfl ⟨rfl, Nat.le_of_ble_eq_true rfl, by decide⟩ (Or.inr (x_okt (ok_town hS))) (k_standAtF hS tl0.1 b c5) ?_
      refine e_astore (k := 9) (xi79 9) (Nat.le_of_ble_eq_true rfl) (by decide) ?_
      show x_Ev 79 10 [.inr 0, .inl (a), .inl (b), .inl (l), .inr (-1), .inr (-1)] [] (0, 0) (z, P, M) _
      refine e_aload (k := 10) (xi79 10) rfl (by decide) ?_
      refine e_ifnull (k := 11) (xi79 11) (by omega) (fun _ => ?_) (fun q => absurd (by omega) q)
      refine e_iconst (k := 23) (xi79 23) ?_
      refine e_zret (k := 24) (xi79 24) (by first | decide | omega) ?_
      exact y_fW (Q := fun _ => True) (show v_x_length a b l M = 0 from by rw [v_x_length, if_neg c0, if_neg c5]) (show u_x_length a b l M = M from by rw [u_x_length, if_neg c0, if_neg c5]) tl0 trivial
def v_x_next (a b : Int) (M : Int → Int → Int) : Int := if 0 ≤ a ∧ a < M 1 1 then (if 0 ≤ b ∧ b < M 1 1 then (if ¬ a = b then v_addOther a b M else (-1)) else (-1)) else (-1)
def u_x_next (a b : Int) (M : Int → Int → Int) : Int → Int → Int := if 0 ≤ a ∧ a < M 1 1 then (if 0 ≤ b ∧ b < M 1 1 then (if ¬ a = b then (u_addOther a b M) else M) else M) else M
theorem k_x_next {z : Int} {P M : Int → Int → Int} (hS : x_Sh z P) (hT : y_TC M) (a : Int) (b : Int)   : x_CallR 80 [.inr 0, .inl (a), .inl (b)] (z, P, M) (fun q => q = (some (.inl (v_x_next a b M)), (z, P, u_x_next a b M)) ∧ y_TL 2 M (u_x_next a b M) ∧ True) := by
  have tl0 : y_TL 2 M M := tl_refl hT
  refine e_body (ls0 := [.inr 0, .inl (a), .inl (b), x_un]) xm80 rfl ?_
  refine e_aload (k := 0) (xi80 0) rfl (by decide) ?_
  refine e_getR (j := 0) (w := 1) (k := 1) (xi80 1) (ok_WS hS) rfl (sh_town hS) ?_
  refine e_iload (k := 2) (xi80 2) rfl ?_
  have t1 := ty_town1 tl0.1 
  by_cases c0 : 0 ≤ a ∧ a < M 1 1
  · skip
    refine e_call (k := 3) (v := some (.inr (3 + 7 * a))) (h1 := (z, P, M)) (c1 := 0) (c2 := 0) (rest := []) (as := [.inr 1, .inl (a)]) (xi80 3) (by decide) xm40 rfl ⟨rfl, Nat.le_of_ble_eq_true rfl, by decide⟩ (Or.inr (x_okt (ok_town hS))) (k_standAtT hS tl0.1 a c0) ?_
    refine e_astore (k := 4) (xi80 4) (Nat.le_of_ble_eq_true rfl) (by omega) ?_
    show x_Ev 80 5 [.inr 0, .inl (a), .inl (b), .inr (3 + 7 * a)] [] (0, 0) (z, P, M) _
    refine e_aload (k := 5) (xi80 5) rfl (by omega) ?_
    refine e_ifnull (k := 6) (xi80 6) (by omega) (fun q => absurd q (by omega)) (fun _ => ?_)
    refine e_aload (k := 7) (xi80 7) rfl (by decide) ?_
    refine e_getR (j := 0) (w := 1) (k := 8) (xi80 8) (ok_WS hS) rfl (sh_town hS) ?_
    refine e_iload (k := 9) (xi80 9) rfl ?_
    by_cases c1 : 0 ≤ b ∧ b < M 1 1
    · skip
      refine e_call (k := 10) (v := some (.inr (3 + 7 * b))) (h1 := (z, P, M)) (c1 := 0) (c2 := 0) (rest := []) (as := [.inr 1, .inl (b)]) (xi80 10) (by decide) xm40 rfl ⟨rfl, Nat.le_of_ble_eq_true rfl, by decide⟩ (Or.inr (x_okt (ok_town hS))) (k_standAtT hS tl0.1 b c1) ?_
      refine e_ifnull (k := 11) (xi80 11) (by omega) (fun q => absurd q (by omega)) (fun _ => ?_)
      refine e_iload (k := 12) (xi80 12) rfl ?_
      refine e_iload (k := 13) (xi80 13) rfl ?_
      refine e_c_ne (k := 14) (xi80 14) (fun c2 => ?_) (fun c2 => ?_)
      · skip
        refine e_aload (k := 17) (xi80 17) rfl (by omega) ?_
        refine e_iload (k := 18) (xi80 18) rfl ?_
        refine e_callR (k := 19) (c1 := 0) (c2 := 0) (rest := []) (as := [.inr (3 + 7 * a), .inl (b)]) (xi80 19) (by decide) xm18 rfl ⟨rfl, Nat.le_of_ble_eq_true rfl, by decide⟩ (Or.inr (x_okt (ok_st hS (show 0 ≤ a ∧ a < 12 by omega)))) (k_addOther hS tl0.1 a b (show 0 ≤ a ∧ a < 12 by omega) (by omega)) ?_
        rintro v_ h_ ⟨e2, tl3, q4⟩
        cases e2
        have tl5 := tl_trans tl0 (tl_24 tl3)
        have n6 := tl_n4 tl3
        show x_Ev 80 20 [.inr 0, .inl (a), .inl (b), .inr (3 + 7 * a)] [.inl (v_addOther a b M)] (0, 0) (z, P, (u_addOther a b M)) _
        refine e_iret (k := 20) (xi80 20) ?_
        exact y_fW (Q := fun _ => True) (show v_x_next a b M = v_addOther a b M from by rw [v_x_next, if_pos c0, if_pos c1, if_pos c2]) (show u_x_next a b M = (u_addOther a b M) from by rw [u_x_next, if_pos c0, if_pos c1, if_pos c2]) tl5 trivial
      · skip
        refine e_iconst (k := 15) (xi80 15) ?_
        refine e_iret (k := 16) (xi80 16) ?_
        exact y_fW (Q := fun _ => True) (show v_x_next a b M = (-1) from by rw [v_x_next, if_pos c0, if_pos c1, if_neg c2]) (show u_x_next a b M = M from by rw [u_x_next, if_pos c0, if_pos c1, if_neg c2]) tl0 trivial
    · skip
      refine e_call (k := 10) (v := some (.inr (-1))) (h1 := (z, P, M)) (c1 := 0) (c2 := 0) (rest := []) (as := [.inr 1, .inl (b)]) (xi80 10) (by decide) xm40 rfl ⟨rfl, Nat.le_of_ble_eq_true rfl, by decide⟩ (Or.inr (x_okt (ok_town hS))) (k_standAtF hS tl0.1 b c1) ?_
      refine e_ifnull (k := 11) (xi80 11) (by omega) (fun _ => ?_) (fun q => absurd (by omega) q)
      refine e_iconst (k := 15) (xi80 15) ?_
      refine e_iret (k := 16) (xi80 16) ?_
      exact y_fW (Q := fun _ => True) (show v_x_next a b M = (-1) from by rw [v_x_next, if_pos c0, if_neg c1]) (show u_x_next a b M = M from by rw [u_x_next, if_pos c0, if_neg c1]) tl0 trivial
  · skip
    refine e_call (k := 3) (v := some (.inr (-1))) (h1 := (z, P, M)) (c1 := 0) (c2 := 0) (rest := []) (as := [.inr 1, .inl (a)]) (xi80 3) (by decide) xm40 rfl ⟨rfl, Nat.le_of_ble_eq_true rfl, by decide⟩ (Or.inr (x_okt (ok_town hS))) (k_standAtF hS tl0.1 a c0) ?_
    refine e_astore (k := 4) (xi80 4) (Nat.le_of_ble_eq_true rfl) (by decide) ?_
    show x_Ev 80 5 [.inr 0, .inl (a), .inl (b), .inr (-1)] [] (0, 0) (z, P, M) _
    refine e_aload (k := 5) (xi80 5) rfl (by decide) ?_
    refine e_ifnull (k := 6) (xi80 6) (by omega) (fun _ => ?_) (fun q => absurd (by omega) q)
    refine e_iconst (k := 15) (xi80 15) ?_
    refine e_iret (k := 16) (xi80 16) ?_
    exact y_fW (Q := fun _ => True) (show v_x_next a b M = (-1) from by rw [v_x_next, if_neg c0]) (show u_x_next a b M = M from by rw [u_x_next, if_neg c0]) tl0 trivial
def v_x_tear (a b : Int) (M : Int → Int → Int) : Int := if 0 ≤ a ∧ a < M 1 1 then (if ¬ b = 0 then (if ¬ b = 1 then 0 else if M (7 + 7 * a) 0 = 0 then 0 else 1) else if M (3 + 7 * a) 5 = (-1) then (if ¬ b = 1 then 0 else if M (7 + 7 * a) 0 = 0 then 0 else 1) else 1) else 0
def u_x_tear (a b : Int) (M : Int → Int → Int) : Int → Int → Int := if 0 ≤ a ∧ a < M 1 1 then (if ¬ b = 0 then (if ¬ b = 1 then M else if M (7 + 7 * a) 0 = 0 then M else (u_forget a M)) else if M (3 + 7 * a) 5 = (-1) then (if ¬ b = 1 then M else if M (7 + 7 * a) 0 = 0 then M else (u_forget a M)) else (x_up M (3 + 7 * a) 5 ((-1)))) else M
theorem k_x_tear {z : Int} {P M : Int → Int → Int} (hS : x_Sh z P) (hT : y_TC M) (a : Int) (b : Int)   : x_CallR 81 [.inr 0, .inl (a), .inl (b)] (z, P, M) (fun q => q = (some (.inl (v_x_tear a b M)), (z, P, u_x_tear a b M)) ∧ y_TL 2 M (u_x_tear a b M) ∧ True) := by
  have tl0 : y_TL 2 M M := tl_refl hT
  refine e_body (ls0 := [.inr 0, .inl (a), .inl (b), x_un]) xm81 rfl ?_
  refine e_aload (k := 0) (xi81 0) rfl (by decide) ?_
  refine e_getR (j := 0) (w := 1) (k := 1) (xi81 1) (ok_WS hS) rfl (sh_town hS) ?_
  refine e_iload (k := 2) (xi81 2) rfl ?_
  have t1 := ty_town1 tl0.1 
  by_cases c0 : 0 ≤ a ∧ a < M 1 1
  · skip
    refine e_call (k := 3) (v := some (.inr (3 + 7 * a))) (h1 := (z, P, M)) (c1 := 0) (c2 := 0) (rest := []) (as := [.inr 1, .inl (a)]) (xi81 3) (by decide) xm40 rfl ⟨rfl, Nat.le_of_ble_eq_true rfl, by decide⟩ (Or.inr (x_okt (ok_town hS))) (k_standAtT hS tl0.1 a c0) ?_
    refine e_astore (k := 4) (xi81 4) (Nat.le_of_ble_eq_true rfl) (by omega) ?_
    show x_Ev 81 5 [.inr 0, .inl (a), .inl (b), .inr (3 + 7 * a)] [] (0, 0) (z, P, M) _
    refine e_aload (k := 5) (xi81 5) rfl (by omega) ?_
    refine e_ifnonnull (k := 6) (xi81 6) (by omega) (fun _ => ?_) (fun q => absurd q (by omega))
    refine e_iload (k := 9) (xi81 9) rfl ?_
    refine e_z_ne (k := 10) (xi81 10) (fun c1 => ?_) (fun c1 => ?_)
    · skip
      refine e_iload (k := 20) (xi81 20) rfl ?_
      refine e_iconst (k := 21) (xi81 21) ?_
      refine e_c_ne (k := 22) (xi81 22) (fun c2 => ?_) (fun c2 => ?_)
      · skip
        refine e_iconst (k := 32) (xi81 32) ?_
        refine e_zret (k := 33) (xi81 33) (by first | decide | omega) ?_
        exact y_fW (Q := fun _ => True) (show v_x_tear a b M = 0 from by rw [v_x_tear, if_pos c0, if_pos c1, if_pos c2]) (show u_x_tear a b M = M from by rw [u_x_tear, if_pos c0, if_pos c1, if_pos c2]) tl0 trivial
      · skip
        refine e_aload (k := 23) (xi81 23) rfl (by omega) ?_
        refine e_getR (j := 8) (w := 7 + 7 * a) (k := 24) (xi81 24) (ok_st hS (show 0 ≤ a ∧ a < 12 by omega)) rfl (sh_dem hS (show 0 ≤ a ∧ a < 12 by omega)) ?_
        have t2 := ty_dem0 tl0.1 (show 0 ≤ a ∧ a < 12 by omega)
        refine e_getI (j := 0) (w := M (7 + 7 * a) 0) (k := 25) (xi81 25) (ok_dem hS (show 0 ≤ a ∧ a < 12 by omega)) rfl rfl ?_
        refine e_z_eq (k := 26) (xi81 26) (fun c3 => ?_) (fun c3 => ?_)
        · skip
          refine e_iconst (k := 32) (xi81 32) ?_
          refine e_zret (k := 33) (xi81 33) (by first | decide | omega) ?_
          exact y_fW (Q := fun _ => True) (show v_x_tear a b M = 0 from by rw [v_x_tear, if_pos c0, if_pos c1, if_neg c2, if_pos c3]) (show u_x_tear a b M = M from by rw [u_x_tear, if_pos c0, if_pos c1, if_neg c2, if_pos c3]) tl0 trivial
        · skip
          refine e_aload (k := 27) (xi81 27) rfl (by omega) ?_
          refine e_getR (j := 8) (w := 7 + 7 * a) (k := 28) (xi81 28) (ok_st hS (show 0 ≤ a ∧ a < 12 by omega)) rfl (sh_dem hS (show 0 ≤ a ∧ a < 12 by omega)) ?_
          refine e_callR (k := 29) (c1 := 0) (c2 := 0) (rest := []) (as := [.inr (7 + 7 * a)]) (xi81 29) (by decide) xm9 rfl ⟨rfl, Nat.le_of_ble_eq_true rfl, by decide⟩ (Or.inr (x_okt (ok_dem hS (show 0 ≤ a ∧ a < 12 by omega)))) (k_forget hS tl0.1 a (show 0 ≤ a ∧ a < 12 by omega) ) ?_
          rintro v_ h_ ⟨e3, tl4⟩
          cases e3
          have tl6 := tl_trans tl0 (tl_24 tl4)
          have n7 := tl_n4 tl4
          show x_Ev 81 30 [.inr 0, .inl (a), .inl (b), .inr (3 + 7 * a)] [] (0, 0) (z, P, (u_forget a M)) _
          refine e_iconst (k := 30) (xi81 30) ?_
          refine e_zret (k := 31) (xi81 31) (by first | decide | omega) ?_
          exact y_fW (Q := fun _ => True) (show v_x_tear a b M = 1 from by rw [v_x_tear, if_pos c0, if_pos c1, if_neg c2, if_neg c3]) (show u_x_tear a b M = (u_forget a M) from by rw [u_x_tear, if_pos c0, if_pos c1, if_neg c2, if_neg c3]) tl6 trivial
    · skip
      refine e_aload (k := 11) (xi81 11) rfl (by omega) ?_
      have t8 := ty_st5 tl0.1 (show 0 ≤ a ∧ a < 12 by omega)
      refine e_getI (j := 5) (w := M (3 + 7 * a) 5) (k := 12) (xi81 12) (ok_st hS (show 0 ≤ a ∧ a < 12 by omega)) rfl rfl ?_
      refine e_iconst (k := 13) (xi81 13) ?_
      refine e_c_eq (k := 14) (xi81 14) (fun c4 => ?_) (fun c4 => ?_)
      · skip
        refine e_iload (k := 20) (xi81 20) rfl ?_
        refine e_iconst (k := 21) (xi81 21) ?_
        refine e_c_ne (k := 22) (xi81 22) (fun c5 => ?_) (fun c5 => ?_)
        · skip
          refine e_iconst (k := 32) (xi81 32) ?_
          refine e_zret (k := 33) (xi81 33) (by first | decide | omega) ?_
          exact y_fW (Q := fun _ => True) (show v_x_tear a b M = 0 from by rw [v_x_tear, if_pos c0, if_neg c1, if_pos c4, if_pos c5]) (show u_x_tear a b M = M from by rw [u_x_tear, if_pos c0, if_neg c1, if_pos c4, if_pos c5]) tl0 trivial
        · skip
          refine e_aload (k := 23) (xi81 23) rfl (by omega) ?_
          refine e_getR (j := 8) (w := 7 + 7 * a) (k := 24) (xi81 24) (ok_st hS (show 0 ≤ a ∧ a < 12 by omega)) rfl (sh_dem hS (show 0 ≤ a ∧ a < 12 by omega)) ?_
          have t9 := ty_dem0 tl0.1 (show 0 ≤ a ∧ a < 12 by omega)
          refine e_getI (j := 0) (w := M (7 + 7 * a) 0) (k := 25) (xi81 25) (ok_dem hS (show 0 ≤ a ∧ a < 12 by omega)) rfl rfl ?_
          refine e_z_eq (k := 26) (xi81 26) (fun c6 => ?_) (fun c6 => ?_)
          · skip
            refine e_iconst (k := 32) (xi81 32) ?_
            refine e_zret (k := 33) (xi81 33) (by first | decide | omega) ?_
            exact y_fW (Q := fun _ => True) (show v_x_tear a b M = 0 from by rw [v_x_tear, if_pos c0, if_neg c1, if_pos c4, if_neg c5, if_pos c6]) (show u_x_tear a b M = M from by rw [u_x_tear, if_pos c0, if_neg c1, if_pos c4, if_neg c5, if_pos c6]) tl0 trivial
          · skip
            refine e_aload (k := 27) (xi81 27) rfl (by omega) ?_
            refine e_getR (j := 8) (w := 7 + 7 * a) (k := 28) (xi81 28) (ok_st hS (show 0 ≤ a ∧ a < 12 by omega)) rfl (sh_dem hS (show 0 ≤ a ∧ a < 12 by omega)) ?_
            refine e_callR (k := 29) (c1 := 0) (c2 := 0) (rest := []) (as := [.inr (7 + 7 * a)]) (xi81 29) (by decide) xm9 rfl ⟨rfl, Nat.le_of_ble_eq_true rfl, by decide⟩ (Or.inr (x_okt (ok_dem hS (show 0 ≤ a ∧ a < 12 by omega)))) (k_forget hS tl0.1 a (show 0 ≤ a ∧ a < 12 by omega) ) ?_
            rintro v_ h_ ⟨e10, tl11⟩
            cases e10
            have tl13 := tl_trans tl0 (tl_24 tl11)
            have n14 := tl_n4 tl11
            show x_Ev 81 30 [.inr 0, .inl (a), .inl (b), .inr (3 + 7 * a)] [] (0, 0) (z, P, (u_forget a M)) _
            refine e_iconst (k := 30) (xi81 30) ?_
            refine e_zret (k := 31) (xi81 31) (by first | decide | omega) ?_
            exact y_fW (Q := fun _ => True) (show v_x_tear a b M = 1 from by rw [v_x_tear, if_pos c0, if_neg c1, if_pos c4, if_neg c5, if_neg c6]) (show u_x_tear a b M = (u_forget a M) from by rw [u_x_tear, if_pos c0, if_neg c1, if_pos c4, if_neg c5, if_neg c6]) tl13 trivial
      · skip
        refine e_aload (k := 15) (xi81 15) rfl (by omega) ?_
        refine e_iconst (k := 16) (xi81 16) ?_
        refine e_putI (j := 5) (k := 17) (xi81 17) (ok_st hS (show 0 ≤ a ∧ a < 12 by omega)) rfl ?_
        have tl15 : y_TL 2 M (x_up M (3 + 7 * a) 5 ((-1))) := tl_up tl0 (sl_st5 (show 0 ≤ a ∧ a < 12 by omega) (by omega)) (nf2 (by omega))
        refine e_iconst (k := 18) (xi81 18) ?_
        refine e_zret (k := 19) (xi81 19) (by first | decide | omega) ?_
        exact y_fW (Q := fun _ => True) (show v_x_tear a b M = 1 from by rw [v_x_tear, if_pos c0, if_neg c1, if_neg c4]) (show u_x_tear a b M = (x_up M (3 + 7 * a) 5 ((-1))) from by rw [u_x_tear, if_pos c0, if_neg c1, if_neg c4]) tl15 trivial
  · skip
    refine e_call (k := 3) (v := some (.inr (-1))) (h1 := (z, P, M)) (c1 := 0) (c2 := 0) (rest := []) (as := [.inr 1, .inl (a)]) (xi81 3) (by decide) xm40 rfl ⟨rfl, Nat.le_of_ble_eq_true rfl, by decide⟩ (Or.inr (x_okt (ok_town hS))) (k_standAtF hS tl0.1 a c0) ?_
    refine e_astore (k := 4) (xi81 4) (Nat.le_of_ble_eq_true rfl) (by decide) ?_
    show x_Ev 81 5 [.inr 0, .inl (a), .inl (b), .inr (-1)] [] (0, 0) (z, P, M) _
    refine e_aload (k := 5) (xi81 5) rfl (by decide) ?_
    refine e_ifnonnull (k := 6) (xi81 6) (by omega) (fun q => absurd (by omega) q) (fun _ => ?_)
    refine e_iconst (k := 7) (xi81 7) ?_
    refine e_zret (k := 8) (xi81 8) (by first | decide | omega) ?_
    exact y_fW (Q := fun _ => True) (show v_x_tear a b M = 0 from by rw [v_x_tear, if_neg c0]) (show u_x_tear a b M = M from by rw [u_x_tear, if_neg c0]) tl0 trivial
def v_x_block (a b d : Int) (M : Int → Int → Int) : Int := if 0 ≤ a ∧ a < M 1 1 then (if 0 ≤ b ∧ b < M (3 + 7 * a) 1 then (if d = 0 then (if M (4 + 7 * a) b = (-2) then (if d = 0 then 1 else 1) else 0) else if M (4 + 7 * a) b = (-1) then (if d = 0 then 1 else 1) else 0) else 0) else 0
def u_x_block (a b d : Int) (M : Int → Int → Int) : Int → Int → Int := if 0 ≤ a ∧ a < M 1 1 then (if 0 ≤ b ∧ b < M (3 + 7 * a) 1 then (if d = 0 then (if M (4 + 7 * a) b = (-2) then (if d = 0 then (x_up M (4 + 7 * a) b ((-1))) else (x_up M (4 + 7 * a) b ((-2)))) else M) else if M (4 + 7 * a) b = (-1) then (if d = 0 then (x_up M (4 + 7 * a) b ((-1))) else (x_up M (4 + 7 * a) b ((-2)))) else M) else M) else M
theorem k_x_block {z : Int} {P M : Int → Int → Int} (hS : x_Sh z P) (hT : y_TC M) (a : Int) (b : Int) (d : Int)   : x_CallR 82 [.inr 0, .inl (a), .inl (b), .inl (d)] (z, P, M) (fun q => q = (some (.inl (v_x_block a b d M)), (z, P, u_x_block a b d M)) ∧ y_TL 0 M (u_x_block a b d M) ∧ True) := by
  have tl0 : y_TL 0 M M := tl_refl hT
  refine e_body (ls0 := [.inr 0, .inl (a), .inl (b), .inl (d), x_un]) xm82 rfl ?_
  refine e_aload (k := 0) (xi82 0) rfl (by decide) ?_
  refine e_getR (j := 0) (w := 1) (k := 1) (xi82 1) (ok_WS hS) rfl (sh_town hS) ?_
  refine e_iload (k := 2) (xi82 2) rfl ?_
  have t1 := ty_town1 tl0.1 
  by_cases c0 : 0 ≤ a ∧ a < M 1 1
  · skip
    refine e_call (k := 3) (v := some (.inr (3 + 7 * a))) (h1 := (z, P, M)) (c1 := 0) (c2 := 0) (rest := []) (as := [.inr 1, .inl (a)]) (xi82 3) (by decide) xm40 rfl ⟨rfl, Nat.le_of_ble_eq_true rfl, by decide⟩ (Or.inr (x_okt (ok_town hS))) (k_standAtT hS tl0.1 a c0) ?_
    refine e_astore (k := 4) (xi82 4) (Nat.le_of_ble_eq_true rfl) (by omega) ?_
    show x_Ev 82 5 [.inr 0, .inl (a), .inl (b), .inl (d), .inr (3 + 7 * a)] [] (0, 0) (z, P, M) _
    refine e_aload (k := 5) (xi82 5) rfl (by omega) ?_
    refine e_ifnull (k := 6) (xi82 6) (by omega) (fun q => absurd q (by omega)) (fun _ => ?_)
    refine e_aload (k := 7) (xi82 7) rfl (by omega) ?_
    refine e_iload (k := 8) (xi82 8) rfl ?_
    have t2 := ty_st1 tl0.1 (show 0 ≤ a ∧ a < 12 by omega)
    refine e_call (k := 9) (v := some (.inl (x_b (0 ≤ b ∧ b < M (3 + 7 * a) 1)))) (h1 := (z, P, M)) (c1 := 0) (c2 := 0) (rest := []) (as := [.inr (3 + 7 * a), .inl (b)]) (xi82 9) (by decide) xm17 rfl ⟨rfl, Nat.le_of_ble_eq_true rfl, by decide⟩ (Or.inr (x_okt (ok_st hS (show 0 ≤ a ∧ a < 12 by omega)))) (k_hasDock hS tl0.1 a b (show 0 ≤ a ∧ a < 12 by omega) ) ?_
    refine e_b_ne (k := 10) (xi82 10) (fun c1 => ?_) (fun c1 => ?_)
    · skip
      refine e_aload (k := 13) (xi82 13) rfl (by omega) ?_
      refine e_getR (j := 2) (w := 4 + 7 * a) (k := 14) (xi82 14) (ok_st hS (show 0 ≤ a ∧ a < 12 by omega)) rfl (sh_con hS (show 0 ≤ a ∧ a < 12 by omega)) ?_
      refine e_iload (k := 15) (xi82 15) rfl ?_
      have t3 := ty_con (j := b) tl0.1 (show 0 ≤ a ∧ a < 12 by omega) (by omega)
      refine e_iald (w := M (4 + 7 * a) b) (k := 16) (xi82 16) (ok_con hS (show 0 ≤ a ∧ a < 12 by omega)) (by rw [(ln_con (show 0 ≤ a ∧ a < 12 by omega))]; omega) rfl ?_
      refine e_iload (k := 17) (xi82 17) rfl ?_
      refine e_z_eq (k := 18) (xi82 18) (fun c2 => ?_) (fun c2 => ?_)
      · skip
        refine e_iconst (k := 21) (xi82 21) ?_
        refine e_c_eq (k := 22) (xi82 22) (fun c3 => ?_) (fun c3 => ?_)
        · skip
          refine e_aload (k := 25) (xi82 25) rfl (by omega) ?_
          refine e_getR (j := 2) (w := 4 + 7 * a) (k := 26) (xi82 26) (ok_st hS (show 0 ≤ a ∧ a < 12 by omega)) rfl (sh_con hS (show 0 ≤ a ∧ a < 12 by omega)) ?_
          refine e_iload (k := 27) (xi82 27) rfl ?_
          refine e_iload (k := 28) (xi82 28) rfl ?_
          refine e_z_eq (k := 29) (xi82 29) (fun c4 => ?_) (fun c4 => ?_)
          · skip
            refine e_iconst (k := 32) (xi82 32) ?_
            refine e_iast (k := 33) (xi82 33) (ok_con hS (show 0 ≤ a ∧ a < 12 by omega)) (by rw [(ln_con (show 0 ≤ a ∧ a < 12 by omega))]; omega) ?_
            have tl4 : y_TL 0 M (x_up M (4 + 7 * a) b ((-1))) := tl_up tl0 (sl_con (j := b) (show 0 ≤ a ∧ a < 12 by omega) (by omega)) (nf_con (j := b) (show 0 ≤ a ∧ a < 12 by omega))
            refine e_iconst (k := 34) (xi82 34) ?_
            refine e_zret (k := 35) (xi82 35) (by first | decide | omega) ?_
            exact y_fW (Q := fun _ => True) (show v_x_block a b d M = 1 from by rw [v_x_block, if_pos c0, if_pos c1, if_pos c2, if_pos c3, if_pos c4]) (show u_x_block a b d M = (x_up M (4 + 7 * a) b ((-1))) from by rw [u_x_block, if_pos c0, if_pos c1, if_pos c2, if_pos c3, if_pos c4]) tl4 trivial
          · skip
            refine e_iconst (k := 30) (xi82 30) ?_
            refine e_goto (k := 31) (xi82 31) ?_
            refine e_iast (k := 33) (xi82 33) (ok_con hS (show 0 ≤ a ∧ a < 12 by omega)) (by rw [(ln_con (show 0 ≤ a ∧ a < 12 by omega))]; omega) ?_
            have tl5 : y_TL 0 M (x_up M (4 + 7 * a) b ((-2))) := tl_up tl0 (sl_con (j := b) (show 0 ≤ a ∧ a < 12 by omega) (by omega)) (nf_con (j := b) (show 0 ≤ a ∧ a < 12 by omega))
            refine e_iconst (k := 34) (xi82 34) ?_
            refine e_zret (k := 35) (xi82 35) (by first | decide | omega) ?_
            exact y_fW (Q := fun _ => True) (show v_x_block a b d M = 1 from by rw [v_x_block, if_pos c0, if_pos c1, if_pos c2, if_pos c3, if_neg c4]) (show u_x_block a b d M = (x_up M (4 + 7 * a) b ((-2))) from by rw [u_x_block, if_pos c0, if_pos c1, if_pos c2, if_pos c3, if_neg c4]) tl5 trivial
        · skip
          refine e_iconst (k := 23) (xi82 23) ?_
          refine e_zret (k := 24) (xi82 24) (by first | decide | omega) ?_
          exact y_fW (Q := fun _ => True) (show v_x_block a b d M = 0 from by rw [v_x_block, if_pos c0, if_pos c1, if_pos c2, if_neg c3]) (show u_x_block a b d M = M from by rw [u_x_block, if_pos c0, if_pos c1, if_pos c2, if_neg c3]) tl0 trivial
      · skip
        refine e_iconst (k := 19) (xi82 19) ?_
        refine e_goto (k := 20) (xi82 20) ?_
        refine e_c_eq (k := 22) (xi82 22) (fun c5 => ?_) (fun c5 => ?_)
        · skip
          refine e_aload (k := 25) (xi82 25) rfl (by omega) ?_
          refine e_getR (j := 2) (w := 4 + 7 * a) (k := 26) (xi82 26) (ok_st hS (show 0 ≤ a ∧ a < 12 by omega)) rfl (sh_con hS (show 0 ≤ a ∧ a < 12 by omega)) ?_
          refine e_iload (k := 27) (xi82 27) rfl ?_
          refine e_iload (k := 28) (xi82 28) rfl ?_
          refine e_z_eq (k := 29) (xi82 29) (fun c6 => ?_) (fun c6 => ?_)
          · skip
            refine e_iconst (k := 32) (xi82 32) ?_
            refine e_iast (k := 33) (xi82 33) (ok_con hS (show 0 ≤ a ∧ a < 12 by omega)) (by rw [(ln_con (show 0 ≤ a ∧ a < 12 by omega))]; omega) ?_
            have tl6 : y_TL 0 M (x_up M (4 + 7 * a) b ((-1))) := tl_up tl0 (sl_con (j := b) (show 0 ≤ a ∧ a < 12 by omega) (by omega)) (nf_con (j := b) (show 0 ≤ a ∧ a < 12 by omega))
            refine e_iconst (k := 34) (xi82 34) ?_
            refine e_zret (k := 35) (xi82 35) (by first | decide | omega) ?_
            exact y_fW (Q := fun _ => True) (show v_x_block a b d M = 1 from by rw [v_x_block, if_pos c0, if_pos c1, if_neg c2, if_pos c5, if_pos c6]) (show u_x_block a b d M = (x_up M (4 + 7 * a) b ((-1))) from by rw [u_x_block, if_pos c0, if_pos c1, if_neg c2, if_pos c5, if_pos c6]) tl6 trivial
          · skip
            refine e_iconst (k := 30) (xi82 30) ?_
            refine e_goto (k := 31) (xi82 31) ?_
            refine e_iast (k := 33) (xi82 33) (ok_con hS (show 0 ≤ a ∧ a < 12 by omega)) (by rw [(ln_con (show 0 ≤ a ∧ a < 12 by omega))]; omega) ?_
            have tl7 : y_TL 0 M (x_up M (4 + 7 * a) b ((-2))) := tl_up tl0 (sl_con (j := b) (show 0 ≤ a ∧ a < 12 by omega) (by omega)) (nf_con (j := b) (show 0 ≤ a ∧ a < 12 by omega))
            refine e_iconst (k := 34) (xi82 34) ?_
            refine e_zret (k := 35) (xi82 35) (by first | decide | omega) ?_
            exact y_fW (Q := fun _ => True) (show v_x_block a b d M = 1 from by rw [v_x_block, if_pos c0, if_pos c1, if_neg c2, if_pos c5, if_neg c6]) (show u_x_block a b d M = (x_up M (4 + 7 * a) b ((-2))) from by rw [u_x_block, if_pos c0, if_pos c1, if_neg c2, if_pos c5, if_neg c6]) tl7 trivial
        · skip
          refine e_iconst (k := 23) (xi82 23) ?_
          refine e_zret (k := 24) (xi82 24) (by first | decide | omega) ?_
          exact y_fW (Q := fun _ => True) (show v_x_block a b d M = 0 from by rw [v_x_block, if_pos c0, if_pos c1, if_neg c2, if_neg c5]) (show u_x_block a b d M = M from by rw [u_x_block, if_pos c0, if_pos c1, if_neg c2, if_neg c5]) tl0 trivial
    · skip
      refine e_iconst (k := 11) (xi82 11) ?_
      refine e_zret (k := 12) (xi82 12) (by first | decide | omega) ?_
      exact y_fW (Q := fun _ => True) (show v_x_block a b d M = 0 from by rw [v_x_block, if_pos c0, if_neg c1]) (show u_x_block a b d M = M from by rw [u_x_block, if_pos c0, if_neg c1]) tl0 trivial
  · skip
    refine e_call (k := 3) (v := some (.inr (-1))) (h1 := (z, P, M)) (c1 := 0) (c2 := 0) (rest := []) (as := [.inr 1, .inl (a)]) (xi82 3) (by decide) xm40 rfl ⟨rfl, Nat.le_of_ble_eq_true rfl, by decide⟩ (Or.inr (x_okt (ok_town hS))) (k_standAtF hS tl0.1 a c0) ?_
    refine e_astore (k := 4) (xi82 4) (Nat.le_of_ble_eq_true rfl) (by decide) ?_
    show x_Ev 82 5 [.inr 0, .inl (a), .inl (b), .inl (d), .inr (-1)] [] (0, 0) (z, P, M) _
    refine e_aload (k := 5) (xi82 5) rfl (by decide) ?_
    refine e_ifnull (k := 6) (xi82 6) (by omega) (fun _ => ?_) (fun q => absurd (by omega) q)
    refine e_iconst (k := 11) (xi82 11) ?_
    refine e_zret (k := 12) (xi82 12) (by first | decide | omega) ?_
    exact y_fW (Q := fun _ => True) (show v_x_block a b d M = 0 from by rw [v_x_block, if_neg c0]) (show u_x_block a b d M = M from by rw [u_x_block, if_neg c0]) tl0 trivial
def v_x_dock (a b : Int) (M : Int → Int → Int) : Int := if 0 ≤ a ∧ a < M 1 1 then (if 0 ≤ b ∧ b < M (3 + 7 * a) 1 then M (4 + 7 * a) b else (-3)) else (-3)
theorem k_x_dock {z : Int} {P M : Int → Int → Int} (hS : x_Sh z P) (hT : y_TC M) (a : Int) (b : Int)   : x_CallR 83 [.inr 0, .inl (a), .inl (b)] (z, P, M) (fun q => q = (some (.inl (v_x_dock a b M)), (z, P, M)) ∧ True) := by
  refine e_body (ls0 := [.inr 0, .inl (a), .inl (b), x_un]) xm83 rfl ?_
  refine e_aload (k := 0) (xi83 0) rfl (by decide) ?_
  refine e_getR (j := 0) (w := 1) (k := 1) (xi83 1) (ok_WS hS) rfl (sh_town hS) ?_
  refine e_iload (k := 2) (xi83 2) rfl ?_
  have t1 := ty_town1 hT 
  by_cases c0 : 0 ≤ a ∧ a < M 1 1
  · skip
    refine e_call (k := 3) (v := some (.inr (3 + 7 * a))) (h1 := (z, P, M)) (c1 := 0) (c2 := 0) (rest := []) (as := [.inr 1, .inl (a)]) (xi83 3) (by decide) xm40 rfl ⟨rfl, Nat.le_of_ble_eq_true rfl, by decide⟩ (Or.inr (x_okt (ok_town hS))) (k_standAtT hS hT a c0) ?_
    refine e_astore (k := 4) (xi83 4) (Nat.le_of_ble_eq_true rfl) (by omega) ?_
    show x_Ev 83 5 [.inr 0, .inl (a), .inl (b), .inr (3 + 7 * a)] [] (0, 0) (z, P, M) _
    refine e_aload (k := 5) (xi83 5) rfl (by omega) ?_
    refine e_ifnull (k := 6) (xi83 6) (by omega) (fun q => absurd q (by omega)) (fun _ => ?_)
    refine e_aload (k := 7) (xi83 7) rfl (by omega) ?_
    refine e_iload (k := 8) (xi83 8) rfl ?_
    have t2 := ty_st1 hT (show 0 ≤ a ∧ a < 12 by omega)
    refine e_call (k := 9) (v := some (.inl (x_b (0 ≤ b ∧ b < M (3 + 7 * a) 1)))) (h1 := (z, P, M)) (c1 := 0) (c2 := 0) (rest := []) (as := [.inr (3 + 7 * a), .inl (b)]) (xi83 9) (by decide) xm17 rfl ⟨rfl, Nat.le_of_ble_eq_true rfl, by decide⟩ (Or.inr (x_okt (ok_st hS (show 0 ≤ a ∧ a < 12 by omega)))) (k_hasDock hS hT a b (show 0 ≤ a ∧ a < 12 by omega) ) ?_
    refine e_b_ne (k := 10) (xi83 10) (fun c1 => ?_) (fun c1 => ?_)
    · skip
      refine e_aload (k := 13) (xi83 13) rfl (by omega) ?_
      refine e_getR (j := 2) (w := 4 + 7 * a) (k := 14) (xi83 14) (ok_st hS (show 0 ≤ a ∧ a < 12 by omega)) rfl (sh_con hS (show 0 ≤ a ∧ a < 12 by omega)) ?_
      refine e_iload (k := 15) (xi83 15) rfl ?_
      have t3 := ty_con (j := b) hT (show 0 ≤ a ∧ a < 12 by omega) (by omega)
      refine e_iald (w := M (4 + 7 * a) b) (k := 16) (xi83 16) (ok_con hS (show 0 ≤ a ∧ a < 12 by omega)) (by rw [(ln_con (show 0 ≤ a ∧ a < 12 by omega))]; omega) rfl ?_
      refine e_iret (k := 17) (xi83 17) ?_
      exact y_fV (Q := fun _ => True) (show v_x_dock a b M = M (4 + 7 * a) b from by rw [v_x_dock, if_pos c0, if_pos c1]) trivial
    · skip
      refine e_iconst (k := 11) (xi83 11) ?_
      refine e_goto (k := 12) (xi83 12) ?_
      refine e_iret (k := 17) (xi83 17) ?_
      exact y_fV (Q := fun _ => True) (show v_x_dock a b M = (-3) from by rw [v_x_dock, if_pos c0, if_neg c1]) trivial
  · skip
    refine e_call (k := 3) (v := some (.inr (-1))) (h1 := (z, P, M)) (c1 := 0) (c2 := 0) (rest := []) (as := [.inr 1, .inl (a)]) (xi83 3) (by decide) xm40 rfl ⟨rfl, Nat.le_of_ble_eq_true rfl, by decide⟩ (Or.inr (x_okt (ok_town hS))) (k_standAtF hS hT a c0) ?_
    refine e_astore (k := 4) (xi83 4) (Nat.le_of_ble_eq_true rfl) (by decide) ?_
    show x_Ev 83 5 [.inr 0, .inl (a), .inl (b), .inr (-1)] [] (0, 0) (z, P, M) _
    refine e_aload (k := 5) (xi83 5) rfl (by decide) ?_
    refine e_ifnull (k := 6) (xi83 6) (by omega) (fun _ => ?_) (fun q => absurd (by omega) q)
    refine e_iconst (k := 11) (xi83 11) ?_
    refine e_goto (k := 12) (xi83 12) ?_
    refine e_iret (k := 17) (xi83 17) ?_
    exact y_fV (Q := fun _ => True) (show v_x_dock a b M = (-3) from by rw [v_x_dock, if_neg c0]) trivial
def v_x_tell (a b : Int) (M : Int → Int → Int) : Int := if 0 ≤ a ∧ a < M 1 1 then (if b = 0 then M (3 + 7 * a) 1 else if b = 1 then v_freeDocks a M else if b = 2 then v_wheelsAt a 0 M else if b = 3 then v_movableAt a M else if b = 4 then M (3 + 7 * a) 7 else if b = 5 then M (3 + 7 * a) 6 else if b = 6 then M (3 + 7 * a) 5 else if b = 7 then v_wheelsAt a 3 M else (-3)) else (-3)
theorem k_x_tell {z : Int} {P M : Int → Int → Int} (hS : x_Sh z P) (hT : y_TC M) (a : Int) (b : Int)   : x_CallR 84 [.inr 0, .inl (a), .inl (b)] (z, P, M) (fun q => q = (some (.inl (v_x_tell a b M)), (z, P, M)) ∧ True) := by
  refine e_body (ls0 := [.inr 0, .inl (a), .inl (b), x_un]) xm84 rfl ?_
  refine e_aload (k := 0) (xi84 0) rfl (by decide) ?_
  refine e_getR (j := 0) (w := 1) (k := 1) (xi84 1) (ok_WS hS) rfl (sh_town hS) ?_
  refine e_iload (k := 2) (xi84 2) rfl ?_
  have t1 := ty_town1 hT 
  by_cases c0 : 0 ≤ a ∧ a < M 1 1
  · skip
    refine e_call (k := 3) (v := some (.inr (3 + 7 * a))) (h1 := (z, P, M)) (c1 := 0) (c2 := 0) (rest := []) (as := [.inr 1, .inl (a)]) (xi84 3) (by decide) xm40 rfl ⟨rfl, Nat.le_of_ble_eq_true rfl, by decide⟩ (Or.inr (x_okt (ok_town hS))) (k_standAtT hS hT a c0) ?_
    refine e_astore (k := 4) (xi84 4) (Nat.le_of_ble_eq_true rfl) (by omega) ?_
    show x_Ev 84 5 [.inr 0, .inl (a), .inl (b), .inr (3 + 7 * a)] [] (0, 0) (z, P, M) _
    refine e_aload (k := 5) (xi84 5) rfl (by omega) ?_
    refine e_ifnonnull (k := 6) (xi84 6) (by omega) (fun _ => ?_) (fun q => absurd q (by omega))
    refine e_iload (k := 9) (xi84 9) rfl ?_
    by_cases c1 : b = 0
    · skip
      refine e_sw (t2 := 11) (k := 10) (xi84 10) (by rw [c1]; decide +kernel) ?_
      refine e_aload (k := 11) (xi84 11) rfl (by omega) ?_
      have t2 := ty_st1 hT (show 0 ≤ a ∧ a < 12 by omega)
      refine e_getI (j := 1) (w := M (3 + 7 * a) 1) (k := 12) (xi84 12) (ok_st hS (show 0 ≤ a ∧ a < 12 by omega)) rfl rfl ?_
      refine e_iret (k := 13) (xi84 13) ?_
      exact y_fV (Q := fun _ => True) (show v_x_tell a b M = M (3 + 7 * a) 1 from by rw [v_x_tell, if_pos c0, if_pos c1]) trivial
    by_cases c2 : b = 1
    · skip
      refine e_sw (t2 := 14) (k := 10) (xi84 10) (by rw [c2]; decide +kernel) ?_
      refine e_aload (k := 14) (xi84 14) rfl (by omega) ?_
      refine e_callR (k := 15) (c1 := 0) (c2 := 0) (rest := []) (as := [.inr (3 + 7 * a)]) (xi84 15) (by decide) xm22 rfl ⟨rfl, Nat.le_of_ble_eq_true rfl, by decide⟩ (Or.inr (x_okt (ok_st hS (show 0 ≤ a ∧ a < 12 by omega)))) (k_freeDocks hS hT a (show 0 ≤ a ∧ a < 12 by omega) ) ?_
      rintro v_ h_ ⟨e3, q5⟩
      cases e3
      show x_Ev 84 16 [.inr 0, .inl (a), .inl (b), .inr (3 + 7 * a)] [.inl (v_freeDocks a M)] (0, 0) (z, P, M) _
      refine e_iret (k := 16) (xi84 16) ?_
      exact y_fV (Q := fun _ => True) (show v_x_tell a b M = v_freeDocks a M from by rw [v_x_tell, if_pos c0, if_neg c1, if_pos c2]) trivial
    by_cases c3 : b = 2
    · skip
      refine e_sw (t2 := 17) (k := 10) (xi84 10) (by rw [c3]; decide +kernel) ?_
      refine e_aload (k := 17) (xi84 17) rfl (by decide) ?_
      refine e_getR (j := 0) (w := 1) (k := 18) (xi84 18) (ok_WS hS) rfl (sh_town hS) ?_
      refine e_iload (k := 19) (xi84 19) rfl ?_
      refine e_iconst (k := 20) (xi84 20) ?_
      refine e_callR (k := 21) (c1 := 0) (c2 := 0) (rest := []) (as := [.inr 1, .inl (a), .inl 0]) (xi84 21) (by decide) xm49 rfl ⟨rfl, Nat.le_of_ble_eq_true rfl, by decide⟩ (Or.inr (x_okt (ok_town hS))) (k_wheelsAt hS hT a 0  ) ?_
      rintro v_ h_ ⟨e6, q8⟩
      cases e6
      show x_Ev 84 22 [.inr 0, .inl (a), .inl (b), .inr (3 + 7 * a)] [.inl (v_wheelsAt a 0 M)] (0, 0) (z, P, M) _
      refine e_iret (k := 22) (xi84 22) ?_
      exact y_fV (Q := fun _ => True) (show v_x_tell a b M = v_wheelsAt a 0 M from by rw [v_x_tell, if_pos c0, if_neg c1, if_neg c2, if_pos c3]) trivial
    by_cases c4 : b = 3
    · skip
      refine e_sw (t2 := 23) (k := 10) (xi84 10) (by rw [c4]; decide +kernel) ?_
      refine e_aload (k := 23) (xi84 23) rfl (by decide) ?_
      refine e_getR (j := 0) (w := 1) (k := 24) (xi84 24) (ok_WS hS) rfl (sh_town hS) ?_
      refine e_iload (k := 25) (xi84 25) rfl ?_
      refine e_callR (k := 26) (c1 := 0) (c2 := 0) (rest := []) (as := [.inr 1, .inl (a)]) (xi84 26) (by decide) xm50 rfl ⟨rfl, Nat.le_of_ble_eq_true rfl, by decide⟩ (Or.inr (x_okt (ok_town hS))) (k_movableAt hS hT a  ) ?_
      rintro v_ h_ ⟨e9, q11⟩
      cases e9
      show x_Ev 84 27 [.inr 0, .inl (a), .inl (b), .inr (3 + 7 * a)] [.inl (v_movableAt a M)] (0, 0) (z, P, M) _
      refine e_iret (k := 27) (xi84 27) ?_
      exact y_fV (Q := fun _ => True) (show v_x_tell a b M = v_movableAt a M from by rw [v_x_tell, if_pos c0, if_neg c1, if_neg c2, if_neg c3, if_pos c4]) trivial
    by_cases c5 : b = 4
    · skip
      refine e_sw (t2 := 28) (k := 10) (xi84 10) (by rw [c5]; decide +kernel) ?_
      refine e_aload (k := 28) (xi84 28) rfl (by omega) ?_
      refine e_getI (j := 7) (w := M (3 + 7 * a) 7) (k := 29) (xi84 29) (ok_st hS (show 0 ≤ a ∧ a < 12 by omega)) rfl rfl ?_
      refine e_iret (k := 30) (xi84 30) ?_
      exact y_fV (Q := fun _ => True) (show v_x_tell a b M = M (3 + 7 * a) 7 from by rw [v_x_tell, if_pos c0, if_neg c1, if_neg c2, if_neg c3, if_neg c4, if_pos c5]) trivial
    by_cases c6 : b = 5
    · skip
      refine e_sw (t2 := 31) (k := 10) (xi84 10) (by rw [c6]; decide +kernel) ?_
      refine e_aload (k := 31) (xi84 31) rfl (by omega) ?_
      have t12 := ty_st6 hT (show 0 ≤ a ∧ a < 12 by omega)
      refine e_getI (j := 6) (w := M (3 + 7 * a) 6) (k := 32) (xi84 32) (ok_st hS (show 0 ≤ a ∧ a < 12 by omega)) rfl rfl ?_
      refine e_iret (k := 33) (xi84 33) ?_
      exact y_fV (Q := fun _ => True) (show v_x_tell a b M = M (3 + 7 * a) 6 from by rw [v_x_tell, if_pos c0, if_neg c1, if_neg c2, if_neg c3, if_neg c4, if_neg c5, if_pos c6]) trivial
    by_cases c7 : b = 6
    · skip
      refine e_sw (t2 := 34) (k := 10) (xi84 10) (by rw [c7]; decide +kernel) ?_
      refine e_aload (k := 34) (xi84 34) rfl (by omega) ?_
      have t13 := ty_st5 hT (show 0 ≤ a ∧ a < 12 by omega)
      refine e_getI (j := 5) (w := M (3 + 7 * a) 5) (k := 35) (xi84 35) (ok_st hS (show 0 ≤ a ∧ a < 12 by omega)) rfl rfl ?_
      refine e_iret (k := 36) (xi84 36) ?_
      exact y_fV (Q := fun _ => True) (show v_x_tell a b M = M (3 + 7 * a) 5 from by rw [v_x_tell, if_pos c0, if_neg c1, if_neg c2, if_neg c3, if_neg c4, if_neg c5, if_neg c6, if_pos c7]) trivial
    by_cases c8 : b = 7
    · skip
      refine e_sw (t2 := 37) (k := 10) (xi84 10) (by rw [c8]; decide +kernel) ?_
      refine e_aload (k := 37) (xi84 37) rfl (by decide) ?_
      refine e_getR (j := 0) (w := 1) (k := 38) (xi84 38) (ok_WS hS) rfl (sh_town hS) ?_
      refine e_iload (k := 39) (xi84 39) rfl ?_
      refine e_iconst (k := 40) (xi84 40) ?_
      refine e_callR (k := 41) (c1 := 0) (c2 := 0) (rest := []) (as := [.inr 1, .inl (a), .inl 3]) (xi84 41) (by decide) xm49 rfl ⟨rfl, Nat.le_of_ble_eq_true rfl, by decide⟩ (Or.inr (x_okt (ok_town hS))) (k_wheelsAt hS hT a 3  ) ?_
      rintro v_ h_ ⟨e14, q16⟩
      cases e14
      show x_Ev 84 42 [.inr 0, .inl (a), .inl (b), .inr (3 + 7 * a)] [.inl (v_wheelsAt a 3 M)] (0, 0) (z, P, M) _
      refine e_iret (k := 42) (xi84 42) ?_
      exact y_fV (Q := fun _ => True) (show v_x_tell a b M = v_wheelsAt a 3 M from by rw [v_x_tell, if_pos c0, if_neg c1, if_neg c2, if_neg c3, if_neg c4, if_neg c5, if_neg c6, if_neg c7, if_pos c8]) trivial
    refine e_sw (k := 10) (t2 := 43) (xi84 10) (if_pos (by omega)) ?_
    refine e_iconst (k := 43) (xi84 43) ?_
    refine e_iret (k := 44) (xi84 44) ?_
    exact y_fV (Q := fun _ => True) (show v_x_tell a b M = (-3) from by rw [v_x_tell, if_pos c0, if_neg c1, if_neg c2, if_neg c3, if_neg c4, if_neg c5, if_neg c6, if_neg c7, if_neg c8]) trivial
  · skip
    refine e_call (k := 3) (v := some (.inr (-1))) (h1 := (z, P, M)) (c1 := 0) (c2 := 0) (rest := []) (as := [.inr 1, .inl (a)]) (xi84 3) (by decide) xm40 rfl ⟨rfl, Nat.le_of_ble_eq_true rfl, by decide⟩ (Or.inr (x_okt (ok_town hS))) (k_standAtF hS hT a c0) ?_
    refine e_astore (k := 4) (xi84 4) (Nat.le_of_ble_eq_true rfl) (by decide) ?_
    show x_Ev 84 5 [.inr 0, .inl (a), .inl (b), .inr (-1)] [] (0, 0) (z, P, M) _
    refine e_aload (k := 5) (xi84 5) rfl (by decide) ?_
    refine e_ifnonnull (k := 6) (xi84 6) (by omega) (fun q => absurd (by omega) q) (fun _ => ?_)
    refine e_iconst (k := 7) (xi84 7) ?_
    refine e_iret (k := 8) (xi84 8) ?_
    exact y_fV (Q := fun _ => True) (show v_x_tell a b M = (-3) from by rw [v_x_tell, if_neg c0]) trivial
def v_x_put (a b d : Int) (M : Int → Int → Int) : Int := if 0 ≤ b ∧ b < M 1 1 then (if a < 0 then (-1) else if 3 < a then (-1) else if (0 ≤ d ∧ (-1) + d + (y_sz a) < M (3 + 7 * b) 1) ∧ M (4 + 7 * b) d = -1 ∧ M (4 + 7 * b) ((-1) + d + (y_sz a)) = -1 then v_addWheel a b d M else (-1)) else (-1)
def u_x_put (a b d : Int) (M : Int → Int → Int) : Int → Int → Int := if 0 ≤ b ∧ b < M 1 1 then (if a < 0 then M else if 3 < a then M else if (0 ≤ d ∧ (-1) + d + (y_sz a) < M (3 + 7 * b) 1) ∧ M (4 + 7 * b) d = -1 ∧ M (4 + 7 * b) ((-1) + d + (y_sz a)) = -1 then (u_addWheel a b d M) else M) else M
theorem k_x_put {z : Int} {P M : Int → Int → Int} (hS : x_Sh z P) (hT : y_TC M) (a : Int) (b : Int) (d : Int)   : x_CallR 85 [.inr 0, .inl (a), .inl (b), .inl (d)] (z, P, M) (fun q => q = (some (.inl (v_x_put a b d M)), (z, P, u_x_put a b d M)) ∧ y_TL 9 M (u_x_put a b d M) ∧ True) := by
  have tl0 : y_TL 9 M M := tl_refl hT
  refine e_body (ls0 := [.inr 0, .inl (a), .inl (b), .inl (d), x_un]) xm85 rfl ?_
  refine e_aload (k := 0) (xi85 0) rfl (by decide) ?_
  refine e_getR (j := 0) (w := 1) (k := 1) (xi85 1) (ok_WS hS) rfl (sh_town hS) ?_
  refine e_iload (k := 2) (xi85 2) rfl ?_
  have t1 := ty_town1 tl0.1 
  by_cases c0 : 0 ≤ b ∧ b < M 1 1
  · skip
    refine e_call (k := 3) (v := some (.inr (3 + 7 * b))) (h1 := (z, P, M)) (c1 := 0) (c2 := 0) (rest := []) (as := [.inr 1, .inl (b)]) (xi85 3) (by decide) xm40 rfl ⟨rfl, Nat.le_of_ble_eq_true rfl, by decide⟩ (Or.inr (x_okt (ok_town hS))) (k_standAtT hS tl0.1 b c0) ?_
    refine e_astore (k := 4) (xi85 4) (Nat.le_of_ble_eq_true rfl) (by omega) ?_
    show x_Ev 85 5 [.inr 0, .inl (a), .inl (b), .inl (d), .inr (3 + 7 * b)] [] (0, 0) (z, P, M) _
    refine e_aload (k := 5) (xi85 5) rfl (by omega) ?_
    refine e_ifnull (k := 6) (xi85 6) (by omega) (fun q => absurd q (by omega)) (fun _ => ?_)
    refine e_iload (k := 7) (xi85 7) rfl ?_
    refine e_z_lt (k := 8) (xi85 8) (fun c1 => ?_) (fun c1 => ?_)
    · skip
      refine e_iconst (k := 18) (xi85 18) ?_
      refine e_iret (k := 19) (xi85 19) ?_
      exact y_fW (Q := fun _ => True) (show v_x_put a b d M = (-1) from by rw [v_x_put, if_pos c0, if_pos c1]) (show u_x_put a b d M = M from by rw [u_x_put, if_pos c0, if_pos c1]) tl0 trivial
    · skip
      refine e_iload (k := 9) (xi85 9) rfl ?_
      refine e_iconst (k := 10) (xi85 10) ?_
      refine e_c_gt (k := 11) (xi85 11) (fun c2 => ?_) (fun c2 => ?_)
      · skip
        refine e_iconst (k := 18) (xi85 18) ?_
        refine e_iret (k := 19) (xi85 19) ?_
        exact y_fW (Q := fun _ => True) (show v_x_put a b d M = (-1) from by rw [v_x_put, if_pos c0, if_neg c1, if_pos c2]) (show u_x_put a b d M = M from by rw [u_x_put, if_pos c0, if_neg c1, if_pos c2]) tl0 trivial
      · skip
        refine e_aload (k := 12) (xi85 12) rfl (by omega) ?_
        refine e_iload (k := 13) (xi85 13) rfl ?_
        refine e_iload (k := 14) (xi85 14) rfl ?_
        have s2 := y_sz_in (a)
        refine e_call (k := 15) (v := some (.inl (y_sz a))) (h1 := (z, P, M)) (c1 := 0) (c2 := 0) (rest := [.inl (d), .inr (3 + 7 * b)]) (as := [.inl (a)]) (xi85 15) (by decide) xm69 rfl ⟨rfl, Nat.le_of_ble_eq_true rfl, by decide⟩ (Or.inl rfl) (k_sizeOf hS tl0.1 a  ) ?_
        have t3 := ty_st1 tl0.1 (show 0 ≤ b ∧ b < 12 by omega)
        refine e_call (k := 16) (v := some (.inl (x_b ((0 ≤ d ∧ (-1) + d + (y_sz a) < M (3 + 7 * b) 1) ∧ M (4 + 7 * b) d = -1 ∧ M (4 + 7 * b) ((-1) + d + (y_sz a)) = -1)))) (h1 := (z, P, M)) (c1 := 0) (c2 := 0) (rest := []) (as := [.inr (3 + 7 * b), .inl (d), .inl (y_sz a)]) (xi85 16) (by decide) xm24 rfl ⟨rfl, Nat.le_of_ble_eq_true rfl, by decide⟩ (Or.inr (x_okt (ok_st hS (show 0 ≤ b ∧ b < 12 by omega)))) (k_isFree hS tl0.1 b d (y_sz a) (show 0 ≤ b ∧ b < 12 by omega) (by omega)) ?_
        refine e_b_ne (k := 17) (xi85 17) (fun c3 => ?_) (fun c3 => ?_)
        · skip
          refine e_aload (k := 20) (xi85 20) rfl (by decide) ?_
          refine e_getR (j := 0) (w := 1) (k := 21) (xi85 21) (ok_WS hS) rfl (sh_town hS) ?_
          refine e_iload (k := 22) (xi85 22) rfl ?_
          refine e_aload (k := 23) (xi85 23) rfl (by omega) ?_
          refine e_iload (k := 24) (xi85 24) rfl ?_
          refine e_callR (k := 25) (c1 := 0) (c2 := 0) (rest := []) (as := [.inr 1, .inl (a), .inr (3 + 7 * b), .inl (d)]) (xi85 25) (by decide) xm45 rfl ⟨rfl, Nat.le_of_ble_eq_true rfl, by decide⟩ (Or.inr (x_okt (ok_town hS))) (k_addWheel hS tl0.1 a b d (show 0 ≤ b ∧ b < 12 by omega) (by omega) (by omega)) ?_
          rintro v_ h_ ⟨e4, tl5, q6⟩
          cases e4
          have tl7 := tl_trans tl0 (tl5)
          show x_Ev 85 26 [.inr 0, .inl (a), .inl (b), .inl (d), .inr (3 + 7 * b)] [.inl (v_addWheel a b d M)] (0, 0) (z, P, (u_addWheel a b d M)) _
          refine e_iret (k := 26) (xi85 26) ?_
          exact y_fW (Q := fun _ => True) (show v_x_put a b d M = v_addWheel a b d M from by rw [v_x_put, if_pos c0, if_neg c1, if_neg c2, if_pos c3]) (show u_x_put a b d M = (u_addWheel a b d M) from by rw [u_x_put, if_pos c0, if_neg c1, if_neg c2, if_pos c3]) tl7 trivial
        · skip
          refine e_iconst (k := 18) (xi85 18) ?_
          refine e_iret (k := 19) (xi85 19) ?_
          exact y_fW (Q := fun _ => True) (show v_x_put a b d M = (-1) from by rw [v_x_put, if_pos c0, if_neg c1, if_neg c2, if_neg c3]) (show u_x_put a b d M = M from by rw [u_x_put, if_pos c0, if_neg c1, if_neg c2, if_neg c3]) tl0 trivial
  · skip
    refine e_call (k := 3) (v := some (.inr (-1))) (h1 := (z, P, M)) (c1 := 0) (c2 := 0) (rest := []) (as := [.inr 1, .inl (b)]) (xi85 3) (by decide) xm40 rfl ⟨rfl, Nat.le_of_ble_eq_true rfl, by decide⟩ (Or.inr (x_okt (ok_town hS))) (k_standAtF hS tl0.1 b c0) ?_
    refine e_astore (k := 4) (xi85 4) (Nat.le_of_ble_eq_true rfl) (by decide) ?_
    show x_Ev 85 5 [.inr 0, .inl (a), .inl (b), .inl (d), .inr (-1)] [] (0, 0) (z, P, M) _
    refine e_aload (k := 5) (xi85 5) rfl (by decide) ?_
    refine e_ifnull (k := 6) (xi85 6) (by omega) (fun _ => ?_) (fun q => absurd (by omega) q)
    refine e_iconst (k := 18) (xi85 18) ?_
    refine e_iret (k := 19) (xi85 19) ?_
    exact y_fW (Q := fun _ => True) (show v_x_put a b d M = (-1) from by rw [v_x_put, if_neg c0]) (show u_x_put a b d M = M from by rw [u_x_put, if_neg c0]) tl0 trivial
def v_x_charge (a b : Int) (M : Int → Int → Int) : Int := if 0 ≤ a ∧ a < M 1 3 then (if M (88 + a) 1 = 1 ∨ M (88 + a) 1 = 2 then (if x_thou b = (-1) then x_thou b else x_thou b) else (-1)) else (-1)
def u_x_charge (a b : Int) (M : Int → Int → Int) : Int → Int → Int := if 0 ≤ a ∧ a < M 1 3 then (if M (88 + a) 1 = 1 ∨ M (88 + a) 1 = 2 then (if x_thou b = (-1) then M else (x_up M (88 + a) 2 (x_thou b))) else M) else M
theorem k_x_charge {z : Int} {P M : Int → Int → Int} (hS : x_Sh z P) (hT : y_TC M) (a : Int) (b : Int)   : x_CallR 86 [.inr 0, .inl (a), .inl (b)] (z, P, M) (fun q => q = (some (.inl (v_x_charge a b M)), (z, P, u_x_charge a b M)) ∧ y_TL 0 M (u_x_charge a b M) ∧ True) := by
  have tl0 : y_TL 0 M M := tl_refl hT
  refine e_body (ls0 := [.inr 0, .inl (a), .inl (b), x_un, x_un]) xm86 rfl ?_
  refine e_aload (k := 0) (xi86 0) rfl (by decide) ?_
  refine e_getR (j := 0) (w := 1) (k := 1) (xi86 1) (ok_WS hS) rfl (sh_town hS) ?_
  refine e_iload (k := 2) (xi86 2) rfl ?_
  have t1 := ty_town3 tl0.1 
  by_cases c0 : 0 ≤ a ∧ a < M 1 3
  · skip
    refine e_call (k := 3) (v := some (.inr (88 + a))) (h1 := (z, P, M)) (c1 := 0) (c2 := 0) (rest := []) (as := [.inr 1, .inl (a)]) (xi86 3) (by decide) xm41 rfl ⟨rfl, Nat.le_of_ble_eq_true rfl, by decide⟩ (Or.inr (x_okt (ok_town hS))) (k_wheelAtT hS tl0.1 a c0) ?_
    refine e_astore (k := 4) (xi86 4) (Nat.le_of_ble_eq_true rfl) (by omega) ?_
    show x_Ev 86 5 [.inr 0, .inl (a), .inl (b), .inr (88 + a), x_un] [] (0, 0) (z, P, M) _
    refine e_aload (k := 5) (xi86 5) rfl (by omega) ?_
    refine e_ifnull (k := 6) (xi86 6) (by omega) (fun q => absurd q (by omega)) (fun _ => ?_)
    refine e_aload (k := 7) (xi86 7) rfl (by omega) ?_
    have t2 := ty_wh1 tl0.1 (show 0 ≤ a ∧ a < 60 by omega)
    refine e_call (k := 8) (v := some (.inl (x_b (M (88 + a) 1 = 1 ∨ M (88 + a) 1 = 2)))) (h1 := (z, P, M)) (c1 := 0) (c2 := 0) (rest := []) (as := [.inr (88 + a)]) (xi86 8) (by decide) xm71 rfl ⟨rfl, Nat.le_of_ble_eq_true rfl, by decide⟩ (Or.inr (x_okt (ok_wh hS (show 0 ≤ a ∧ a < 60 by omega)))) (k_hasCharge hS tl0.1 a (show 0 ≤ a ∧ a < 60 by omega) ) ?_
    refine e_b_ne (k := 9) (xi86 9) (fun c1 => ?_) (fun c1 => ?_)
    · skip
      refine e_iload (k := 12) (xi86 12) rfl ?_
      refine e_prim (k := 13) (xi86 13) ⟨Nat.le_of_ble_eq_true rfl, rfl⟩ ?_
      have p3 := y_thou_in b
      refine e_istore (k := 14) (xi86 14) (Nat.le_of_ble_eq_true rfl) ?_
      show x_Ev 86 15 [.inr 0, .inl (a), .inl (b), .inr (88 + a), .inl (x_thou b)] [] (0, 0) (z, P, M) _
      refine e_iload (k := 15) (xi86 15) rfl ?_
      refine e_iconst (k := 16) (xi86 16) ?_
      refine e_c_eq (k := 17) (xi86 17) (fun c2 => ?_) (fun c2 => ?_)
      · skip
        refine e_iload (k := 21) (xi86 21) rfl ?_
        refine e_iret (k := 22) (xi86 22) ?_
        exact y_fW (Q := fun _ => True) (show v_x_charge a b M = x_thou b from by rw [v_x_charge, if_pos c0, if_pos c1, if_pos c2]) (show u_x_charge a b M = M from by rw [u_x_charge, if_pos c0, if_pos c1, if_pos c2]) tl0 trivial
      · skip
        refine e_aload (k := 18) (xi86 18) rfl (by omega) ?_
        refine e_iload (k := 19) (xi86 19) rfl ?_
        refine e_putI (j := 2) (k := 20) (xi86 20) (ok_wh hS (show 0 ≤ a ∧ a < 60 by omega)) rfl ?_
        have tl4 : y_TL 0 M (x_up M (88 + a) 2 (x_thou b)) := tl_up tl0 (sl_wh2 (show 0 ≤ a ∧ a < 60 by omega) (by omega)) (nf_wh2 (show 0 ≤ a ∧ a < 60 by omega))
        refine e_iload (k := 21) (xi86 21) rfl ?_
        refine e_iret (k := 22) (xi86 22) ?_
        exact y_fW (Q := fun _ => True) (show v_x_charge a b M = x_thou b from by rw [v_x_charge, if_pos c0, if_pos c1, if_neg c2]) (show u_x_charge a b M = (x_up M (88 + a) 2 (x_thou b)) from by rw [u_x_charge, if_pos c0, if_pos c1, if_neg c2]) tl4 trivial
    · skip
      refine e_iconst (k := 10) (xi86 10) ?_
      refine e_iret (k := 11) (xi86 11) ?_
      exact y_fW (Q := fun _ => True) (show v_x_charge a b M = (-1) from by rw [v_x_charge, if_pos c0, if_neg c1]) (show u_x_charge a b M = M from by rw [u_x_charge, if_pos c0, if_neg c1]) tl0 trivial
  · skip
    refine e_call (k := 3) (v := some (.inr (-1))) (h1 := (z, P, M)) (c1 := 0) (c2 := 0) (rest := []) (as := [.inr 1, .inl (a)]) (xi86 3) (by decide) xm41 rfl ⟨rfl, Nat.le_of_ble_eq_true rfl, by decide⟩ (Or.inr (x_okt (ok_town hS))) (k_wheelAtF hS tl0.1 a c0) ?_
    refine e_astore (k := 4) (xi86 4) (Nat.le_of_ble_eq_true rfl) (by decide) ?_
    show x_Ev 86 5 [.inr 0, .inl (a), .inl (b), .inr (-1), x_un] [] (0, 0) (z, P, M) _
    refine e_aload (k := 5) (xi86 5) rfl (by decide) ?_
    refine e_ifnull (k := 6) (xi86 6) (by omega) (fun _ => ?_) (fun q => absurd (by omega) q)
    refine e_iconst (k := 10) (xi86 10) ?_
    refine e_iret (k := 11) (xi86 11) ?_
    exact y_fW (Q := fun _ => True) (show v_x_charge a b M = (-1) from by rw [v_x_charge, if_neg c0]) (show u_x_charge a b M = M from by rw [u_x_charge, if_neg c0]) tl0 trivial
def v_x_wheel (a b : Int) (M : Int → Int → Int) : Int := if 0 ≤ a ∧ a < M 1 3 then (if b = 0 then M (88 + a) 1 else if b = 1 then M (88 + a) 2 else if b = 2 then M (88 + a) 3 else if b = 3 then M (88 + a) 4 else if b = 4 then M (88 + a) 5 else if b = 5 then M (88 + a) 6 else if b = 6 then (if M (88 + a) 8 = 0 then 0 else 1) else if b = 7 then M (88 + a) 9 else (-3)) else (-3)
theorem k_x_wheel {z : Int} {P M : Int → Int → Int} (hS : x_Sh z P) (hT : y_TC M) (a : Int) (b : Int)   : x_CallR 87 [.inr 0, .inl (a), .inl (b)] (z, P, M) (fun q => q = (some (.inl (v_x_wheel a b M)), (z, P, M)) ∧ True) := by
  refine e_body (ls0 := [.inr 0, .inl (a), .inl (b), x_un]) xm87 rfl ?_
  refine e_aload (k := 0) (xi87 0) rfl (by decide) ?_
  refine e_getR (j := 0) (w := 1) (k := 1) (xi87 1) (ok_WS hS) rfl (sh_town hS) ?_
  refine e_iload (k := 2) (xi87 2) rfl ?_
  have t1 := ty_town3 hT 
  by_cases c0 : 0 ≤ a ∧ a < M 1 3
  · skip
    refine e_call (k := 3) (v := some (.inr (88 + a))) (h1 := (z, P, M)) (c1 := 0) (c2 := 0) (rest := []) (as := [.inr 1, .inl (a)]) (xi87 3) (by decide) xm41 rfl ⟨rfl, Nat.le_of_ble_eq_true rfl, by decide⟩ (Or.inr (x_okt (ok_town hS))) (k_wheelAtT hS hT a c0) ?_
    refine e_astore (k := 4) (xi87 4) (Nat.le_of_ble_eq_true rfl) (by omega) ?_
    show x_Ev 87 5 [.inr 0, .inl (a), .inl (b), .inr (88 + a)] [] (0, 0) (z, P, M) _
    refine e_aload (k := 5) (xi87 5) rfl (by omega) ?_
    refine e_ifnonnull (k := 6) (xi87 6) (by omega) (fun _ => ?_) (fun q => absurd q (by omega))
    refine e_iload (k := 9) (xi87 9) rfl ?_
    by_cases c1 : b = 0
    · skip
      refine e_sw (t2 := 11) (k := 10) (xi87 10) (by rw [c1]; decide +kernel) ?_
      refine e_aload (k := 11) (xi87 11) rfl (by omega) ?_
      have t2 := ty_wh1 hT (show 0 ≤ a ∧ a < 60 by omega)
      refine e_getI (j := 1) (w := M (88 + a) 1) (k := 12) (xi87 12) (ok_wh hS (show 0 ≤ a ∧ a < 60 by omega)) rfl rfl ?_
      refine e_iret (k := 13) (xi87 13) ?_
      exact y_fV (Q := fun _ => True) (show v_x_wheel a b M = M (88 + a) 1 from by rw [v_x_wheel, if_pos c0, if_pos c1]) trivial
    by_cases c2 : b = 1
    · skip
      refine e_sw (t2 := 14) (k := 10) (xi87 10) (by rw [c2]; decide +kernel) ?_
      refine e_aload (k := 14) (xi87 14) rfl (by omega) ?_
      have t3 := ty_wh2 hT (show 0 ≤ a ∧ a < 60 by omega)
      refine e_getI (j := 2) (w := M (88 + a) 2) (k := 15) (xi87 15) (ok_wh hS (show 0 ≤ a ∧ a < 60 by omega)) rfl rfl ?_
      refine e_iret (k := 16) (xi87 16) ?_
      exact y_fV (Q := fun _ => True) (show v_x_wheel a b M = M (88 + a) 2 from by rw [v_x_wheel, if_pos c0, if_neg c1, if_pos c2]) trivial
    by_cases c3 : b = 2
    · skip
      refine e_sw (t2 := 17) (k := 10) (xi87 10) (by rw [c3]; decide +kernel) ?_
      refine e_aload (k := 17) (xi87 17) rfl (by omega) ?_
      have t4 := ty_wh3 hT (show 0 ≤ a ∧ a < 60 by omega)
      refine e_getI (j := 3) (w := M (88 + a) 3) (k := 18) (xi87 18) (ok_wh hS (show 0 ≤ a ∧ a < 60 by omega)) rfl rfl ?_
      refine e_iret (k := 19) (xi87 19) ?_
      exact y_fV (Q := fun _ => True) (show v_x_wheel a b M = M (88 + a) 3 from by rw [v_x_wheel, if_pos c0, if_neg c1, if_neg c2, if_pos c3]) trivial
    by_cases c4 : b = 3
    · skip
      refine e_sw (t2 := 20) (k := 10) (xi87 10) (by rw [c4]; decide +kernel) ?_
      refine e_aload (k := 20) (xi87 20) rfl (by omega) ?_
      have t5 := ty_wh4 hT (show 0 ≤ a ∧ a < 60 by omega)
      refine e_getI (j := 4) (w := M (88 + a) 4) (k := 21) (xi87 21) (ok_wh hS (show 0 ≤ a ∧ a < 60 by omega)) rfl rfl ?_
      refine e_iret (k := 22) (xi87 22) ?_
      exact y_fV (Q := fun _ => True) (show v_x_wheel a b M = M (88 + a) 4 from by rw [v_x_wheel, if_pos c0, if_neg c1, if_neg c2, if_neg c3, if_pos c4]) trivial
    by_cases c5 : b = 4
    · skip
      refine e_sw (t2 := 23) (k := 10) (xi87 10) (by rw [c5]; decide +kernel) ?_
      refine e_aload (k := 23) (xi87 23) rfl (by omega) ?_
      have t6 := ty_wh5 hT (show 0 ≤ a ∧ a < 60 by omega)
      refine e_getI (j := 5) (w := M (88 + a) 5) (k := 24) (xi87 24) (ok_wh hS (show 0 ≤ a ∧ a < 60 by omega)) rfl rfl ?_
      refine e_iret (k := 25) (xi87 25) ?_
      exact y_fV (Q := fun _ => True) (show v_x_wheel a b M = M (88 + a) 5 from by rw [v_x_wheel, if_pos c0, if_neg c1, if_neg c2, if_neg c3, if_neg c4, if_pos c5]) trivial
    by_cases c6 : b = 5
    · skip
      refine e_sw (t2 := 26) (k := 10) (xi87 10) (by rw [c6]; decide +kernel) ?_
      refine e_aload (k := 26) (xi87 26) rfl (by omega) ?_
      refine e_getI (j := 6) (w := M (88 + a) 6) (k := 27) (xi87 27) (ok_wh hS (show 0 ≤ a ∧ a < 60 by omega)) rfl rfl ?_
      refine e_iret (k := 28) (xi87 28) ?_
      exact y_fV (Q := fun _ => True) (show v_x_wheel a b M = M (88 + a) 6 from by rw [v_x_wheel, if_pos c0, if_neg c1, if_neg c2, if_neg c3, if_neg c4, if_neg c5, if_pos c6]) trivial
    by_cases c7 : b = 6
    · skip
      refine e_sw (t2 := 29) (k := 10) (xi87 10) (by rw [c7]; decide +kernel) ?_
      refine e_aload (k := 29) (xi87 29) rfl (by omega) ?_
      have t7 := ty_wh8 hT (show 0 ≤ a ∧ a < 60 by omega)
      refine e_getI (j := 8) (w := M (88 + a) 8) (k := 30) (xi87 30) (ok_wh hS (show 0 ≤ a ∧ a < 60 by omega)) rfl rfl ?_
      refine e_z_eq (k := 31) (xi87 31) (fun c8 => ?_) (fun c8 => ?_)
      · skip
        refine e_iconst (k := 34) (xi87 34) ?_
        refine e_iret (k := 35) (xi87 35) ?_
        exact y_fV (Q := fun _ => True) (show v_x_wheel a b M = 0 from by rw [v_x_wheel, if_pos c0, if_neg c1, if_neg c2, if_neg c3, if_neg c4, if_neg c5, if_neg c6, if_pos c7, if_pos c8]) trivial
      · skip
        refine e_iconst (k := 32) (xi87 32) ?_
        refine e_goto (k := 33) (xi87 33) ?_
        refine e_iret (k := 35) (xi87 35) ?_
        exact y_fV (Q := fun _ => True) (show v_x_wheel a b M = 1 from by rw [v_x_wheel, if_pos c0, if_neg c1, if_neg c2, if_neg c3, if_neg c4, if_neg c5, if_neg c6, if_pos c7, if_neg c8]) trivial
    by_cases c9 : b = 7
    · skip
      refine e_sw (t2 := 36) (k := 10) (xi87 10) (by rw [c9]; decide +kernel) ?_
      refine e_aload (k := 36) (xi87 36) rfl (by omega) ?_
      have t8 := ty_wh9 hT (show 0 ≤ a ∧ a < 60 by omega)
      refine e_getI (j := 9) (w := M (88 + a) 9) (k := 37) (xi87 37) (ok_wh hS (show 0 ≤ a ∧ a < 60 by omega)) rfl rfl ?_
      refine e_iret (k := 38) (xi87 38) ?_
      exact y_fV (Q := fun _ => True) (show v_x_wheel a b M = M (88 + a) 9 from by rw [v_x_wheel, if_pos c0, if_neg c1, if_neg c2, if_neg c3, if_neg c4, if_neg c5, if_neg c6, if_neg c7, if_pos c9]) trivial
    refine e_sw (k := 10) (t2 := 39) (xi87 10) (if_pos (by omega)) ?_
    refine e_iconst (k := 39) (xi87 39) ?_
    refine e_iret (k := 40) (xi87 40) ?_
    exact y_fV (Q := fun _ => True) (show v_x_wheel a b M = (-3) from by rw [v_x_wheel, if_pos c0, if_neg c1, if_neg c2, if_neg c3, if_neg c4, if_neg c5, if_neg c6, if_neg c7, if_neg c9]) trivial
  · skip
    refine e_call (k := 3) (v := some (.inr (-1))) (h1 := (z, P, M)) (c1 := 0) (c2 := 0) (rest := []) (as := [.inr 1, .inl (a)]) (xi87 3) (by decide) xm41 rfl ⟨rfl, Nat.le_of_ble_eq_true rfl, by decide⟩ (Or.inr (x_okt (ok_town hS))) (k_wheelAtF hS hT a c0) ?_
    refine e_astore (k := 4) (xi87 4) (Nat.le_of_ble_eq_true rfl) (by decide) ?_
    show x_Ev 87 5 [.inr 0, .inl (a), .inl (b), .inr (-1)] [] (0, 0) (z, P, M) _
    refine e_aload (k := 5) (xi87 5) rfl (by decide) ?_
    refine e_ifnonnull (k := 6) (xi87 6) (by omega) (fun q => absurd (by omega) q) (fun _ => ?_)
    refine e_iconst (k := 7) (xi87 7) ?_
    refine e_iret (k := 8) (xi87 8) ?_
    exact y_fV (Q := fun _ => True) (show v_x_wheel a b M = (-3) from by rw [v_x_wheel, if_neg c0]) trivial
def v_x_fault (a : Int) (M : Int → Int → Int) : Int := if 0 ≤ a ∧ a < M 1 3 then (if M (88 + a) 7 = 0 then 1 else 0) else 0
def u_x_fault (a : Int) (M : Int → Int → Int) : Int → Int → Int := if 0 ≤ a ∧ a < M 1 3 then (if M (88 + a) 7 = 0 then (x_up M (88 + a) 7 1) else M) else M
theorem k_x_fault {z : Int} {P M : Int → Int → Int} (hS : x_Sh z P) (hT : y_TC M) (a : Int)   : x_CallR 88 [.inr 0, .inl (a)] (z, P, M) (fun q => q = (some (.inl (v_x_fault a M)), (z, P, u_x_fault a M)) ∧ y_TL 0 M (u_x_fault a M) ∧ True) := by
  have tl0 : y_TL 0 M M := tl_refl hT
  refine e_body (ls0 := [.inr 0, .inl (a), x_un]) xm88 rfl ?_
  refine e_aload (k := 0) (xi88 0) rfl (by decide) ?_
  refine e_getR (j := 0) (w := 1) (k := 1) (xi88 1) (ok_WS hS) rfl (sh_town hS) ?_
  refine e_iload (k := 2) (xi88 2) rfl ?_
  have t1 := ty_town3 tl0.1 
  by_cases c0 : 0 ≤ a ∧ a < M 1 3
  · skip
    refine e_call (k := 3) (v := some (.inr (88 + a))) (h1 := (z, P, M)) (c1 := 0) (c2 := 0) (rest := []) (as := [.inr 1, .inl (a)]) (xi88 3) (by decide) xm41 rfl ⟨rfl, Nat.le_of_ble_eq_true rfl, by decide⟩ (Or.inr (x_okt (ok_town hS))) (k_wheelAtT hS tl0.1 a c0) ?_
    refine e_astore (k := 4) (xi88 4) (Nat.le_of_ble_eq_true rfl) (by omega) ?_
    show x_Ev 88 5 [.inr 0, .inl (a), .inr (88 + a)] [] (0, 0) (z, P, M) _
    refine e_aload (k := 5) (xi88 5) rfl (by omega) ?_
    refine e_ifnull (k := 6) (xi88 6) (by omega) (fun q => absurd q (by omega)) (fun _ => ?_)
    refine e_aload (k := 7) (xi88 7) rfl (by omega) ?_
    have t2 := ty_wh7 tl0.1 (show 0 ≤ a ∧ a < 60 by omega)
    refine e_getI (j := 7) (w := M (88 + a) 7) (k := 8) (xi88 8) (ok_wh hS (show 0 ≤ a ∧ a < 60 by omega)) rfl rfl ?_
    refine e_z_eq (k := 9) (xi88 9) (fun c1 => ?_) (fun c1 => ?_)
    · skip
      refine e_aload (k := 12) (xi88 12) rfl (by omega) ?_
      refine e_iconst (k := 13) (xi88 13) ?_
      refine e_putZ (j := 7) (k := 14) (xi88 14) (ok_wh hS (show 0 ≤ a ∧ a < 60 by omega)) rfl (by first | decide | omega) ?_
      have tl3 : y_TL 0 M (x_up M (88 + a) 7 1) := tl_up tl0 (sl_wh7 (show 0 ≤ a ∧ a < 60 by omega) (by omega)) (nf_wh7 (show 0 ≤ a ∧ a < 60 by omega))
      refine e_iconst (k := 15) (xi88 15) ?_
      refine e_zret (k := 16) (xi88 16) (by first | decide | omega) ?_
      exact y_fW (Q := fun _ => True) (show v_x_fault a M = 1 from by rw [v_x_fault, if_pos c0, if_pos c1]) (show u_x_fault a M = (x_up M (88 + a) 7 1) from by rw [u_x_fault, if_pos c0, if_pos c1]) tl3 trivial
    · skip
      refine e_iconst (k := 10) (xi88 10) ?_
      refine e_zret (k := 11) (xi88 11) (by first | decide | omega) ?_
      exact y_fW (Q := fun _ => True) (show v_x_fault a M = 0 from by rw [v_x_fault, if_pos c0, if_neg c1]) (show u_x_fault a M = M from by rw [u_x_fault, if_pos c0, if_neg c1]) tl0 trivial
  · skip
    refine e_call (k := 3) (v := some (.inr (-1))) (h1 := (z, P, M)) (c1 := 0) (c2 := 0) (rest := []) (as := [.inr 1, .inl (a)]) (xi88 3) (by decide) xm41 rfl ⟨rfl, Nat.le_of_ble_eq_true rfl, by decide⟩ (Or.inr (x_okt (ok_town hS))) (k_wheelAtF hS tl0.1 a c0) ?_
    refine e_astore (k := 4) (xi88 4) (Nat.le_of_ble_eq_true rfl) (by decide) ?_
    show x_Ev 88 5 [.inr 0, .inl (a), .inr (-1)] [] (0, 0) (z, P, M) _
    refine e_aload (k := 5) (xi88 5) rfl (by decide) ?_
    refine e_ifnull (k := 6) (xi88 6) (by omega) (fun _ => ?_) (fun q => absurd (by omega) q)
    refine e_iconst (k := 10) (xi88 10) ?_
    refine e_zret (k := 11) (xi88 11) (by first | decide | omega) ?_
    exact y_fW (Q := fun _ => True) (show v_x_fault a M = 0 from by rw [v_x_fault, if_neg c0]) (show u_x_fault a M = M from by rw [u_x_fault, if_neg c0]) tl0 trivial
def v_x_test (a : Int) (M : Int → Int → Int) : Int := if 0 ≤ a ∧ a < M 1 3 then (if ¬ M (88 + a) 3 = 2 then (if M (88 + a) 7 = 0 then 0 else 1) else (-1)) else (-1)
def u_x_test (a : Int) (M : Int → Int → Int) : Int → Int → Int := if 0 ≤ a ∧ a < M 1 3 then (if ¬ M (88 + a) 3 = 2 then (if M (88 + a) 7 = 0 then (x_up M (88 + a) 6 0) else (x_up M (88 + a) 8 1)) else M) else M
theorem k_x_test {z : Int} {P M : Int → Int → Int} (hS : x_Sh z P) (hT : y_TC M) (a : Int)   : x_CallR 89 [.inr 0, .inl (a)] (z, P, M) (fun q => q = (some (.inl (v_x_test a M)), (z, P, u_x_test a M)) ∧ y_TL 0 M (u_x_test a M) ∧ True) := by
  have tl0 : y_TL 0 M M := tl_refl hT
  refine e_body (ls0 := [.inr 0, .inl (a), x_un]) xm89 rfl ?_
  refine e_aload (k := 0) (xi89 0) rfl (by decide) ?_
  refine e_getR (j := 0) (w := 1) (k := 1) (xi89 1) (ok_WS hS) rfl (sh_town hS) ?_
  refine e_iload (k := 2) (xi89 2) rfl ?_
  have t1 := ty_town3 tl0.1 
  by_cases c0 : 0 ≤ a ∧ a < M 1 3
  · skip
    refine e_call (k := 3) (v := some (.inr (88 + a))) (h1 := (z, P, M)) (c1 := 0) (c2 := 0) (rest := []) (as := [.inr 1, .inl (a)]) (xi89 3) (by decide) xm41 rfl ⟨rfl, Nat.le_of_ble_eq_true rfl, by decide⟩ (Or.inr (x_okt (ok_town hS))) (k_wheelAtT hS tl0.1 a c0) ?_
    refine e_astore (k := 4) (xi89 4) (Nat.le_of_ble_eq_true rfl) (by omega) ?_
    show x_Ev 89 5 [.inr 0, .inl (a), .inr (88 + a)] [] (0, 0) (z, P, M) _
    refine e_aload (k := 5) (xi89 5) rfl (by omega) ?_
    refine e_ifnull (k := 6) (xi89 6) (by omega) (fun q => absurd q (by omega)) (fun _ => ?_)
    refine e_aload (k := 7) (xi89 7) rfl (by omega) ?_
    have t2 := ty_wh3 tl0.1 (show 0 ≤ a ∧ a < 60 by omega)
    refine e_getI (j := 3) (w := M (88 + a) 3) (k := 8) (xi89 8) (ok_wh hS (show 0 ≤ a ∧ a < 60 by omega)) rfl rfl ?_
    refine e_iconst (k := 9) (xi89 9) ?_
    refine e_c_ne (k := 10) (xi89 10) (fun c1 => ?_) (fun c1 => ?_)
    · skip
      refine e_aload (k := 13) (xi89 13) rfl (by omega) ?_
      have t3 := ty_wh7 tl0.1 (show 0 ≤ a ∧ a < 60 by omega)
      refine e_getI (j := 7) (w := M (88 + a) 7) (k := 14) (xi89 14) (ok_wh hS (show 0 ≤ a ∧ a < 60 by omega)) rfl rfl ?_
      refine e_z_eq (k := 15) (xi89 15) (fun c2 => ?_) (fun c2 => ?_)
      · skip
        refine e_aload (k := 21) (xi89 21) rfl (by omega) ?_
        refine e_iconst (k := 22) (xi89 22) ?_
        refine e_putI (j := 6) (k := 23) (xi89 23) (ok_wh hS (show 0 ≤ a ∧ a < 60 by omega)) rfl ?_
        have tl4 : y_TL 0 M (x_up M (88 + a) 6 0) := tl_up tl0 (sl_wh6 (show 0 ≤ a ∧ a < 60 by omega) ) (nf_wh6 (show 0 ≤ a ∧ a < 60 by omega))
        refine e_iconst (k := 24) (xi89 24) ?_
        refine e_iret (k := 25) (xi89 25) ?_
        exact y_fW (Q := fun _ => True) (show v_x_test a M = 0 from by rw [v_x_test, if_pos c0, if_pos c1, if_pos c2]) (show u_x_test a M = (x_up M (88 + a) 6 0) from by rw [u_x_test, if_pos c0, if_pos c1, if_pos c2]) tl4 trivial
      · skip
        refine e_aload (k := 16) (xi89 16) rfl (by omega) ?_
        refine e_iconst (k := 17) (xi89 17) ?_
        refine e_putZ (j := 8) (k := 18) (xi89 18) (ok_wh hS (show 0 ≤ a ∧ a < 60 by omega)) rfl (by first | decide | omega) ?_
        have tl5 : y_TL 0 M (x_up M (88 + a) 8 1) := tl_up tl0 (sl_wh8 (show 0 ≤ a ∧ a < 60 by omega) (by omega)) (nf_wh8 (show 0 ≤ a ∧ a < 60 by omega))
        refine e_iconst (k := 19) (xi89 19) ?_
        refine e_iret (k := 20) (xi89 20) ?_
        exact y_fW (Q := fun _ => True) (show v_x_test a M = 1 from by rw [v_x_test, if_pos c0, if_pos c1, if_neg c2]) (show u_x_test a M = (x_up M (88 + a) 8 1) from by rw [u_x_test, if_pos c0, if_pos c1, if_neg c2]) tl5 trivial
    · skip
      refine e_iconst (k := 11) (xi89 11) ?_
      refine e_iret (k := 12) (xi89 12) ?_
      exact y_fW (Q := fun _ => True) (show v_x_test a M = (-1) from by rw [v_x_test, if_pos c0, if_neg c1]) (show u_x_test a M = M from by rw [u_x_test, if_pos c0, if_neg c1]) tl0 trivial
  · skip
    refine e_call (k := 3) (v := some (.inr (-1))) (h1 := (z, P, M)) (c1 := 0) (c2 := 0) (rest := []) (as := [.inr 1, .inl (a)]) (xi89 3) (by decide) xm41 rfl ⟨rfl, Nat.le_of_ble_eq_true rfl, by decide⟩ (Or.inr (x_okt (ok_town hS))) (k_wheelAtF hS tl0.1 a c0) ?_
    refine e_astore (k := 4) (xi89 4) (Nat.le_of_ble_eq_true rfl) (by decide) ?_
    show x_Ev 89 5 [.inr 0, .inl (a), .inr (-1)] [] (0, 0) (z, P, M) _
    refine e_aload (k := 5) (xi89 5) rfl (by decide) ?_
    refine e_ifnull (k := 6) (xi89 6) (by omega) (fun _ => ?_) (fun q => absurd (by omega) q)
    refine e_iconst (k := 11) (xi89 11) ?_
    refine e_iret (k := 12) (xi89 12) ?_
    exact y_fW (Q := fun _ => True) (show v_x_test a M = (-1) from by rw [v_x_test, if_neg c0]) (show u_x_test a M = M from by rw [u_x_test, if_neg c0]) tl0 trivial
def v_x_mend (a : Int) (M : Int → Int → Int) : Int := if 0 ≤ a ∧ a < M 1 3 then (if M (88 + a) 3 = 2 then 0 else if ¬ M (88 + a) 7 = 0 then 1 else 0) else 0
def u_x_mend (a : Int) (M : Int → Int → Int) : Int → Int → Int := if 0 ≤ a ∧ a < M 1 3 then (if M (88 + a) 3 = 2 then M else if ¬ M (88 + a) 7 = 0 then (x_up ((x_up ((x_up M (88 + a) 7 0)) (88 + a) 8 0)) (88 + a) 6 0) else M) else M
theorem k_x_mend {z : Int} {P M : Int → Int → Int} (hS : x_Sh z P) (hT : y_TC M) (a : Int)   : x_CallR 90 [.inr 0, .inl (a)] (z, P, M) (fun q => q = (some (.inl (v_x_mend a M)), (z, P, u_x_mend a M)) ∧ y_TL 0 M (u_x_mend a M) ∧ True) := by
  have tl0 : y_TL 0 M M := tl_refl hT
  refine e_body (ls0 := [.inr 0, .inl (a), x_un]) xm90 rfl ?_
  refine e_aload (k := 0) (xi90 0) rfl (by decide) ?_
  refine e_getR (j := 0) (w := 1) (k := 1) (xi90 1) (ok_WS hS) rfl (sh_town hS) ?_
  refine e_iload (k := 2) (xi90 2) rfl ?_
  have t1 := ty_town3 tl0.1 
  by_cases c0 : 0 ≤ a ∧ a < M 1 3
  · skip
    refine e_call (k := 3) (v := some (.inr (88 + a))) (h1 := (z, P, M)) (c1 := 0) (c2 := 0) (rest := []) (as := [.inr 1, .inl (a)]) (xi90 3) (by decide) xm41 rfl ⟨rfl, Nat.le_of_ble_eq_true rfl, by decide⟩ (Or.inr (x_okt (ok_town hS))) (k_wheelAtT hS tl0.1 a c0) ?_
    refine e_astore (k := 4) (xi90 4) (Nat.le_of_ble_eq_true rfl) (by omega) ?_
    show x_Ev 90 5 [.inr 0, .inl (a), .inr (88 + a)] [] (0, 0) (z, P, M) _
    refine e_aload (k := 5) (xi90 5) rfl (by omega) ?_
    refine e_ifnull (k := 6) (xi90 6) (by omega) (fun q => absurd q (by omega)) (fun _ => ?_)
    refine e_aload (k := 7) (xi90 7) rfl (by omega) ?_
    have t2 := ty_wh3 tl0.1 (show 0 ≤ a ∧ a < 60 by omega)
    refine e_getI (j := 3) (w := M (88 + a) 3) (k := 8) (xi90 8) (ok_wh hS (show 0 ≤ a ∧ a < 60 by omega)) rfl rfl ?_
    refine e_iconst (k := 9) (xi90 9) ?_
    refine e_c_eq (k := 10) (xi90 10) (fun c1 => ?_) (fun c1 => ?_)
    · skip
      refine e_iconst (k := 14) (xi90 14) ?_
      refine e_zret (k := 15) (xi90 15) (by first | decide | omega) ?_
      exact y_fW (Q := fun _ => True) (show v_x_mend a M = 0 from by rw [v_x_mend, if_pos c0, if_pos c1]) (show u_x_mend a M = M from by rw [u_x_mend, if_pos c0, if_pos c1]) tl0 trivial
    · skip
      refine e_aload (k := 11) (xi90 11) rfl (by omega) ?_
      have t3 := ty_wh7 tl0.1 (show 0 ≤ a ∧ a < 60 by omega)
      refine e_getI (j := 7) (w := M (88 + a) 7) (k := 12) (xi90 12) (ok_wh hS (show 0 ≤ a ∧ a < 60 by omega)) rfl rfl ?_
      refine e_z_ne (k := 13) (xi90 13) (fun c2 => ?_) (fun c2 => ?_)
      · skip
        refine e_aload (k := 16) (xi90 16) rfl (by omega) ?_
        refine e_iconst (k := 17) (xi90 17) ?_
        refine e_putZ (j := 7) (k := 18) (xi90 18) (ok_wh hS (show 0 ≤ a ∧ a < 60 by omega)) rfl (by first | decide | omega) ?_
        have tl4 : y_TL 0 M (x_up M (88 + a) 7 0) := tl_up tl0 (sl_wh7 (show 0 ≤ a ∧ a < 60 by omega) (by omega)) (nf_wh7 (show 0 ≤ a ∧ a < 60 by omega))
        refine e_aload (k := 19) (xi90 19) rfl (by omega) ?_
        refine e_iconst (k := 20) (xi90 20) ?_
        refine e_putZ (j := 8) (k := 21) (xi90 21) (ok_wh hS (show 0 ≤ a ∧ a < 60 by omega)) rfl (by first | decide | omega) ?_
        have tl5 : y_TL 0 M (x_up ((x_up M (88 + a) 7 0)) (88 + a) 8 0) := tl_up tl4 (sl_wh8 (show 0 ≤ a ∧ a < 60 by omega) (by omega)) (nf_wh8 (show 0 ≤ a ∧ a < 60 by omega))
        refine e_aload (k := 22) (xi90 22) rfl (by omega) ?_
        refine e_iconst (k := 23) (xi90 23) ?_
        refine e_putI (j := 6) (k := 24) (xi90 24) (ok_wh hS (show 0 ≤ a ∧ a < 60 by omega)) rfl ?_
        have tl6 : y_TL 0 M (x_up ((x_up ((x_up M (88 + a) 7 0)) (88 + a) 8 0)) (88 + a) 6 0) := tl_up tl5 (sl_wh6 (show 0 ≤ a ∧ a < 60 by omega) ) (nf_wh6 (show 0 ≤ a ∧ a < 60 by omega))
        refine e_iconst (k := 25) (xi90 25) ?_
        refine e_zret (k := 26) (xi90 26) (by first | decide | omega) ?_
        exact y_fW (Q := fun _ => True) (show v_x_mend a M = 1 from by rw [v_x_mend, if_pos c0, if_neg c1, if_pos c2]) (show u_x_mend a M = (x_up ((x_up ((x_up M (88 + a) 7 0)) (88 + a) 8 0)) (88 + a) 6 0) from by rw [u_x_mend, if_pos c0, if_neg c1, if_pos c2]) tl6 trivial
      · skip
        refine e_iconst (k := 14) (xi90 14) ?_
        refine e_zret (k := 15) (xi90 15) (by first | decide | omega) ?_
        exact y_fW (Q := fun _ => True) (show v_x_mend a M = 0 from by rw [v_x_mend, if_pos c0, if_neg c1, if_neg c2]) (show u_x_mend a M = M from by rw [u_x_mend, if_pos c0, if_neg c1, if_neg c2]) tl0 trivial
  · skip
    refine e_call (k := 3) (v := some (.inr (-1))) (h1 := (z, P, M)) (c1 := 0) (c2 := 0) (rest := []) (as := [.inr 1, .inl (a)]) (xi90 3) (by decide) xm41 rfl ⟨rfl, Nat.le_of_ble_eq_true rfl, by decide⟩ (Or.inr (x_okt (ok_town hS))) (k_wheelAtF hS tl0.1 a c0) ?_
    refine e_astore (k := 4) (xi90 4) (Nat.le_of_ble_eq_true rfl) (by decide) ?_
    show x_Ev 90 5 [.inr 0, .inl (a), .inr (-1)] [] (0, 0) (z, P, M) _
    refine e_aload (k := 5) (xi90 5) rfl (by decide) ?_
    refine e_ifnull (k := 6) (xi90 6) (by omega) (fun _ => ?_) (fun q => absurd (by omega) q)
    refine e_iconst (k := 14) (xi90 14) ?_
    refine e_zret (k := 15) (xi90 15) (by first | decide | omega) ?_
    exact y_fW (Q := fun _ => True) (show v_x_mend a M = 0 from by rw [v_x_mend, if_neg c0]) (show u_x_mend a M = M from by rw [u_x_mend, if_neg c0]) tl0 trivial
def w_x_doubt_a (a b : Int) (M : Int → Int → Int) : Nat → Int → Int → Int
  | 0, n, i => 0
  | k + 1, n, i => if M 1 3 ≤ i then (-1) else if ¬ M (88 + i) 3 = 0 then w_x_doubt_a a b M k n (1 + i) else if M (88 + i) 6 ≤ a then w_x_doubt_a a b M k n (1 + i) else if ¬ n = b then w_x_doubt_a a b M k (1 + n) (1 + i) else i
theorem kw_x_doubt_a {z : Int} {P M : Int → Int → Int} (hS : x_Sh z P) (hT : y_TC M) (a : Int) (b : Int)    : ∀ k : Nat, ∀ x5 : xV, ∀ n : Int, ∀ i : Int, (0 ≤ n ∧ n ≤ i ∧ i ≤ M 1 3) → 60 - i < (k : Int) → x_Ev 91 4 [.inr 0, .inl (a), .inl (b), .inl (n), .inl (i), x5] [] (0, 0) (z, P, M) (fun q => q = (some (.inl (w_x_doubt_a a b M k n i)), (z, P, M)) ∧ True) := by
  have hk1 := ty_town3 hT
  intro k
  induction k with
  | zero => intro x5 n i hi hm; omega
  | succ k ih =>
    intro x5 n i hi hm
    refine e_iload (k := 4) (xi91 4) rfl ?_
    refine e_aload (k := 5) (xi91 5) rfl (by decide) ?_
    refine e_getR (j := 0) (w := 1) (k := 6) (xi91 6) (ok_WS hS) rfl (sh_town hS) ?_
    have t1 := ty_town3 hT 
    refine e_getI (j := 3) (w := M 1 3) (k := 7) (xi91 7) (ok_town hS) rfl rfl ?_
    refine e_c_ge (k := 8) (xi91 8) (fun c0 => ?_) (fun c0 => ?_)
    · skip
      refine e_iconst (k := 30) (xi91 30) ?_
      refine e_iret (k := 31) (xi91 31) ?_
      exact y_fV (Q := fun _ => True) (show w_x_doubt_a a b M (k + 1) n i = (-1) from by rw [w_x_doubt_a, if_pos c0]) trivial
    · skip
      refine e_aload (k := 9) (xi91 9) rfl (by decide) ?_
      refine e_getR (j := 0) (w := 1) (k := 10) (xi91 10) (ok_WS hS) rfl (sh_town hS) ?_
      refine e_getR (j := 2) (w := 87) (k := 11) (xi91 11) (ok_town hS) rfl (sh_whs hS) ?_
      refine e_iload (k := 12) (xi91 12) rfl ?_
      refine e_aald (w := 88 + i) (k := 13) (xi91 13) (x_ok4 (ok_whs hS) (by decide)) (by rw [ln_whs]; omega) (sh_wh hS (show 0 ≤ i ∧ i < 60 by omega)) ?_
      refine e_astore (k := 14) (xi91 14) (Nat.le_of_ble_eq_true rfl) (by omega) ?_
      show x_Ev 91 15 [.inr 0, .inl (a), .inl (b), .inl (n), .inl (i), .inr (88 + i)] [] (0, 0) (z, P, M) _
      refine e_aload (k := 15) (xi91 15) rfl (by omega) ?_
      have t2 := ty_wh3 hT (show 0 ≤ i ∧ i < 60 by omega)
      refine e_getI (j := 3) (w := M (88 + i) 3) (k := 16) (xi91 16) (ok_wh hS (show 0 ≤ i ∧ i < 60 by omega)) rfl rfl ?_
      refine e_z_ne (k := 17) (xi91 17) (fun c1 => ?_) (fun c1 => ?_)
      · skip
        refine e_iinc (w := 1 + i) (k := 28) (xi91 28) rfl (x_wn (by omega)) ?_
        show x_Ev 91 29 [.inr 0, .inl (a), .inl (b), .inl (n), .inl (1 + i), .inr (88 + i)] [] (0, 0) (z, P, M) _
        refine e_goto (k := 29) (xi91 29) ?_
        rw [(show w_x_doubt_a a b M (k + 1) n i = w_x_doubt_a a b M k n (1 + i) from by rw [w_x_doubt_a, if_neg c0, if_pos c1])]
        exact ih _ n (1 + i) (by omega) (by omega)
      · skip
        refine e_aload (k := 18) (xi91 18) rfl (by omega) ?_
        refine e_getI (j := 6) (w := M (88 + i) 6) (k := 19) (xi91 19) (ok_wh hS (show 0 ≤ i ∧ i < 60 by omega)) rfl rfl ?_
        refine e_iload (k := 20) (xi91 20) rfl ?_
        refine e_c_le (k := 21) (xi91 21) (fun c2 => ?_) (fun c2 => ?_)
        · skip
          refine e_iinc (w := 1 + i) (k := 28) (xi91 28) rfl (x_wn (by omega)) ?_
          show x_Ev 91 29 [.inr 0, .inl (a), .inl (b), .inl (n), .inl (1 + i), .inr (88 + i)] [] (0, 0) (z, P, M) _
          refine e_goto (k := 29) (xi91 29) ?_
          rw [(show w_x_doubt_a a b M (k + 1) n i = w_x_doubt_a a b M k n (1 + i) from by rw [w_x_doubt_a, if_neg c0, if_neg c1, if_pos c2])]
          exact ih _ n (1 + i) (by omega) (by omega)
        · skip
          refine e_iload (k := 22) (xi91 22) rfl ?_
          refine e_iload (k := 23) (xi91 23) rfl ?_
          refine e_c_ne (k := 24) (xi91 24) (fun c3 => ?_) (fun c3 => ?_)
          · skip
            refine e_iinc (w := 1 + n) (k := 27) (xi91 27) rfl (x_wn (by omega)) ?_
            show x_Ev 91 28 [.inr 0, .inl (a), .inl (b), .inl (1 + n), .inl (i), .inr (88 + i)] [] (0, 0) (z, P, M) _
            refine e_iinc (w := 1 + i) (k := 28) (xi91 28) rfl (x_wn (by omega)) ?_
            show x_Ev 91 29 [.inr 0, .inl (a), .inl (b), .inl (1 + n), .inl (1 + i), .inr (88 + i)] [] (0, 0) (z, P, M) _
            refine e_goto (k := 29) (xi91 29) ?_
            rw [(show w_x_doubt_a a b M (k + 1) n i = w_x_doubt_a a b M k (1 + n) (1 + i) from by rw [w_x_doubt_a, if_neg c0, if_neg c1, if_neg c2, if_pos c3])]
            exact ih _ (1 + n) (1 + i) (by omega) (by omega)
          · skip
            refine e_iload (k := 25) (xi91 25) rfl ?_
            refine e_iret (k := 26) (xi91 26) ?_
            exact y_fV (Q := fun _ => True) (show w_x_doubt_a a b M (k + 1) n i = i from by rw [w_x_doubt_a, if_neg c0, if_neg c1, if_neg c2, if_neg c3]) trivial
def v_x_doubt (a b : Int) (M : Int → Int → Int) : Int := w_x_doubt_a a b M 61 0 0
theorem k_x_doubt {z : Int} {P M : Int → Int → Int} (hS : x_Sh z P) (hT : y_TC M) (a : Int) (b : Int)   : x_CallR 91 [.inr 0, .inl (a), .inl (b)] (z, P, M) (fun q => q = (some (.inl (v_x_doubt a b M)), (z, P, M)) ∧ True) := by
  have hk1 := ty_town3 hT
  refine e_body (ls0 := [.inr 0, .inl (a), .inl (b), x_un, x_un, x_un]) xm91 rfl ?_
  refine e_iconst (k := 0) (xi91 0) ?_
  refine e_istore (k := 1) (xi91 1) (Nat.le_of_ble_eq_true rfl) ?_
  show x_Ev 91 2 [.inr 0, .inl (a), .inl (b), .inl 0, x_un, x_un] [] (0, 0) (z, P, M) _
  refine e_iconst (k := 2) (xi91 2) ?_
  refine e_istore (k := 3) (xi91 3) (Nat.le_of_ble_eq_true rfl) ?_
  show x_Ev 91 4 [.inr 0, .inl (a), .inl (b), .inl 0, .inl 0, x_un] [] (0, 0) (z, P, M) _
  refine x_ev_mono (kw_x_doubt_a hS hT a b     61 _ 0 0 (by omega) (by omega)) ?_
  rintro _ ⟨e1, q3⟩
  cases e1
  exact y_fV (Q := fun _ => True) (show v_x_doubt a b M = w_x_doubt_a a b M 61 0 0 from rfl) trivial
def v_x_hire (a b d : Int) (M : Int → Int → Int) : Int := if ((0 ≤ a ∧ a < M 1 1) ∧ 0 ≤ b ∧ b < M (3 + 7 * a) 1) ∧ 0 ≤ M (4 + 7 * a) b ∧ M (4 + 7 * a) b < M 1 3 then (if ¬ M (88 + (M (4 + 7 * a) b)) 1 = 3 then (if M (88 + (M (4 + 7 * a) b)) 7 = 0 then (if v_chargeFor (M (4 + 7 * a) b) (v_nearestLength a M) M ≤ M (88 + (M (4 + 7 * a) b)) 2 then (if ¬ d = (-1) then (if ((0 ≤ a ∧ a < M 1 1) ∧ 0 ≤ d ∧ d < M (3 + 7 * a) 1) ∧ 0 ≤ M (4 + 7 * a) d ∧ M (4 + 7 * a) d < M 1 3 then (if d = (-1) then M (4 + 7 * a) b else if ¬ M (88 + (M (4 + 7 * a) d)) 1 = 3 then (-5) else if M (88 + (M (4 + 7 * a) d)) 7 = 0 then M (4 + 7 * a) b else (-5)) else if d = (-1) then M (4 + 7 * a) b else (-5)) else if d = (-1) then M (4 + 7 * a) b else (-5)) else (-4)) else (-3)) else (-2)) else (-1)
def u_x_hire (a b d : Int) (M : Int → Int → Int) : Int → Int → Int := if ((0 ≤ a ∧ a < M 1 1) ∧ 0 ≤ b ∧ b < M (3 + 7 * a) 1) ∧ 0 ≤ M (4 + 7 * a) b ∧ M (4 + 7 * a) b < M 1 3 then (if ¬ M (88 + (M (4 + 7 * a) b)) 1 = 3 then (if M (88 + (M (4 + 7 * a) b)) 7 = 0 then (if v_chargeFor (M (4 + 7 * a) b) (v_nearestLength a M) M ≤ M (88 + (M (4 + 7 * a) b)) 2 then (if ¬ d = (-1) then (if ((0 ≤ a ∧ a < M 1 1) ∧ 0 ≤ d ∧ d < M (3 + 7 * a) 1) ∧ 0 ≤ M (4 + 7 * a) d ∧ M (4 + 7 * a) d < M 1 3 then (if d = (-1) then (u_lend1 (M (4 + 7 * a) b) (M (4 + 7 * a) d) M) else if ¬ M (88 + (M (4 + 7 * a) d)) 1 = 3 then M else if M (88 + (M (4 + 7 * a) d)) 7 = 0 then (u_lend1 (M (4 + 7 * a) b) (M (4 + 7 * a) d) M) else M) else if d = (-1) then (u_lend0 (M (4 + 7 * a) b) M) else M) else if d = (-1) then (u_lend0 (M (4 + 7 * a) b) M) else M) else M) else M) else M) else M
theorem k_x_hire {z : Int} {P M : Int → Int → Int} (hS : x_Sh z P) (hT : y_TC M) (a : Int) (b : Int) (d : Int)   : x_CallR 92 [.inr 0, .inl (a), .inl (b), .inl (d)] (z, P, M) (fun q => q = (some (.inl (v_x_hire a b d M)), (z, P, u_x_hire a b d M)) ∧ y_TL 0 M (u_x_hire a b d M) ∧ True) := by
  have tl0 : y_TL 0 M M := tl_refl hT
  refine e_body (ls0 := [.inr 0, .inl (a), .inl (b), .inl (d), x_un, x_un]) xm92 rfl ?_
  refine e_aload (k := 0) (xi92 0) rfl (by decide) ?_
  refine e_getR (j := 0) (w := 1) (k := 1) (xi92 1) (ok_WS hS) rfl (sh_town hS) ?_
  refine e_iload (k := 2) (xi92 2) rfl ?_
  refine e_iload (k := 3) (xi92 3) rfl ?_
  have t1 := ty_town1 tl0.1 
  have t2 := ty_town3 tl0.1 
  by_cases c0 : ((0 ≤ a ∧ a < M 1 1) ∧ 0 ≤ b ∧ b < M (3 + 7 * a) 1) ∧ 0 ≤ M (4 + 7 * a) b ∧ M (4 + 7 * a) b < M 1 3
  · skip
    refine e_call (k := 4) (v := some (.inr (88 + (M (4 + 7 * a) b)))) (h1 := (z, P, M)) (c1 := 0) (c2 := 0) (rest := []) (as := [.inr 1, .inl (a), .inl (b)]) (xi92 4) (by decide) xm43 rfl ⟨rfl, Nat.le_of_ble_eq_true rfl, by decide⟩ (Or.inr (x_okt (ok_town hS))) (k_wheelInT hS tl0.1 a b c0) ?_
    have t3 := ty_st1 tl0.1 (show 0 ≤ a ∧ a < 12 by omega)
    have t4 := ty_con (j := b) tl0.1 (show 0 ≤ a ∧ a < 12 by omega) (by omega)
    refine e_astore (k := 5) (xi92 5) (Nat.le_of_ble_eq_true rfl) (by omega) ?_
    show x_Ev 92 6 [.inr 0, .inl (a), .inl (b), .inl (d), .inr (88 + (M (4 + 7 * a) b)), x_un] [] (0, 0) (z, P, M) _
    refine e_aload (k := 6) (xi92 6) rfl (by omega) ?_
    refine e_ifnonnull (k := 7) (xi92 7) (by omega) (fun _ => ?_) (fun q => absurd q (by omega))
    refine e_aload (k := 10) (xi92 10) rfl (by omega) ?_
    have t5 := ty_wh1 tl0.1 (show 0 ≤ M (4 + 7 * a) b ∧ M (4 + 7 * a) b < 60 by omega)
    refine e_getI (j := 1) (w := M (88 + (M (4 + 7 * a) b)) 1) (k := 11) (xi92 11) (ok_wh hS (show 0 ≤ M (4 + 7 * a) b ∧ M (4 + 7 * a) b < 60 by omega)) rfl rfl ?_
    refine e_iconst (k := 12) (xi92 12) ?_
    refine e_c_ne (k := 13) (xi92 13) (fun c1 => ?_) (fun c1 => ?_)
    · skip
      refine e_aload (k := 16) (xi92 16) rfl (by omega) ?_
      have t6 := ty_wh7 tl0.1 (show 0 ≤ M (4 + 7 * a) b ∧ M (4 + 7 * a) b < 60 by omega)
      refine e_getI (j := 7) (w := M (88 + (M (4 + 7 * a) b)) 7) (k := 17) (xi92 17) (ok_wh hS (show 0 ≤ M (4 + 7 * a) b ∧ M (4 + 7 * a) b < 60 by omega)) rfl rfl ?_
      refine e_z_eq (k := 18) (xi92 18) (fun c2 => ?_) (fun c2 => ?_)
      · skip
        refine e_aload (k := 21) (xi92 21) rfl (by omega) ?_
        refine e_aload (k := 22) (xi92 22) rfl (by decide) ?_
        refine e_getR (j := 0) (w := 1) (k := 23) (xi92 23) (ok_WS hS) rfl (sh_town hS) ?_
        refine e_iload (k := 24) (xi92 24) rfl ?_
        refine e_callR (k := 25) (c1 := 0) (c2 := 0) (rest := [.inr (88 + (M (4 + 7 * a) b))]) (as := [.inr 1, .inl (a)]) (xi92 25) (by decide) xm53 rfl ⟨rfl, Nat.le_of_ble_eq_true rfl, by decide⟩ (Or.inr (x_okt (ok_town hS))) (k_nearestLength hS tl0.1 a  ) ?_
        rintro v_ h_ ⟨e7, q9⟩
        cases e7
        show x_Ev 92 26 [.inr 0, .inl (a), .inl (b), .inl (d), .inr (88 + (M (4 + 7 * a) b)), x_un] [.inl (v_nearestLength a M), .inr (88 + (M (4 + 7 * a) b))] (0, 0) (z, P, M) _
        refine e_call (k := 26) (v := some (.inl (x_b (v_chargeFor (M (4 + 7 * a) b) (v_nearestLength a M) M ≤ M (88 + (M (4 + 7 * a) b)) 2)))) (h1 := (z, P, M)) (c1 := 0) (c2 := 0) (rest := []) (as := [.inr (88 + (M (4 + 7 * a) b)), .inl (v_nearestLength a M)]) (xi92 26) (by decide) xm73 rfl ⟨rfl, Nat.le_of_ble_eq_true rfl, by decide⟩ (Or.inr (x_okt (ok_wh hS (show 0 ≤ M (4 + 7 * a) b ∧ M (4 + 7 * a) b < 60 by omega)))) (k_lasts hS tl0.1 (M (4 + 7 * a) b) (v_nearestLength a M) (show 0 ≤ M (4 + 7 * a) b ∧ M (4 + 7 * a) b < 60 by omega) (by omega)) ?_
        refine e_b_ne (k := 27) (xi92 27) (fun c3 => ?_) (fun c3 => ?_)
        · skip
          refine e_iload (k := 30) (xi92 30) rfl ?_
          refine e_iconst (k := 31) (xi92 31) ?_
          refine e_c_ne (k := 32) (xi92 32) (fun c4 => ?_) (fun c4 => ?_)
          · skip
            refine e_aload (k := 35) (xi92 35) rfl (by decide) ?_
            refine e_getR (j := 0) (w := 1) (k := 36) (xi92 36) (ok_WS hS) rfl (sh_town hS) ?_
            refine e_iload (k := 37) (xi92 37) rfl ?_
            refine e_iload (k := 38) (xi92 38) rfl ?_
            by_cases c5 : ((0 ≤ a ∧ a < M 1 1) ∧ 0 ≤ d ∧ d < M (3 + 7 * a) 1) ∧ 0 ≤ M (4 + 7 * a) d ∧ M (4 + 7 * a) d < M 1 3
            · skip
              refine e_call (k := 39) (v := some (.inr (88 + (M (4 + 7 * a) d)))) (h1 := (z, P, M)) (c1 := 0) (c2 := 0) (rest := []) (as := [.inr 1, .inl (a), .inl (d)]) (xi92 39) (by decide) xm43 rfl ⟨rfl, Nat.le_of_ble_eq_true rfl, by decide⟩ (Or.inr (x_okt (ok_town hS))) (k_wheelInT hS tl0.1 a d c5) ?_
              have t10 := ty_con (j := d) tl0.1 (show 0 ≤ a ∧ a < 12 by omega) (by omega)
              refine e_astore (k := 40) (xi92 40) (Nat.le_of_ble_eq_true rfl) (by omega) ?_
              show x_Ev 92 41 [.inr 0, .inl (a), .inl (b), .inl (d), .inr (88 + (M (4 + 7 * a) b)), .inr (88 + (M (4 + 7 * a) d))] [] (0, 0) (z, P, M) _
              refine e_iload (k := 41) (xi92 41) rfl ?_
              refine e_iconst (k := 42) (xi92 42) ?_
              refine e_c_eq (k := 43) (xi92 43) (fun c6 => ?_) (fun c6 => ?_)
              · skip
                refine e_aload (k := 55) (xi92 55) rfl (by decide) ?_
                refine e_getR (j := 0) (w := 1) (k := 56) (xi92 56) (ok_WS hS) rfl (sh_town hS) ?_
                refine e_aload (k := 57) (xi92 57) rfl (by omega) ?_
                refine e_aload (k := 58) (xi92 58) rfl (by omega) ?_
                refine e_callR (k := 59) (c1 := 0) (c2 := 0) (rest := []) (as := [.inr 1, .inr (88 + (M (4 + 7 * a) b)), .inr (88 + (M (4 + 7 * a) d))]) (xi92 59) (by decide) xm56 rfl ⟨rfl, Nat.le_of_ble_eq_true rfl, by decide⟩ (Or.inr (x_okt (ok_town hS))) (k_lend1 hS tl0.1 (M (4 + 7 * a) b) (M (4 + 7 * a) d) (show 0 ≤ M (4 + 7 * a) b ∧ M (4 + 7 * a) b < 60 by omega) (show 0 ≤ M (4 + 7 * a) d ∧ M (4 + 7 * a) d < 60 by omega) ) ?_
                rintro v_ h_ ⟨e11, tl12⟩
                cases e11
                have tl14 := tl_trans tl0 (tl12)
                have n15 := tl_n tl12
                show x_Ev 92 60 [.inr 0, .inl (a), .inl (b), .inl (d), .inr (88 + (M (4 + 7 * a) b)), .inr (88 + (M (4 + 7 * a) d))] [] (0, 0) (z, P, (u_lend1 (M (4 + 7 * a) b) (M (4 + 7 * a) d) M)) _
                refine e_aload (k := 60) (xi92 60) rfl (by omega) ?_
                refine e_getI (j := 0) (w := M (4 + 7 * a) b) (k := 61) (xi92 61) (ok_wh hS (show 0 ≤ M (4 + 7 * a) b ∧ M (4 + 7 * a) b < 60 by omega)) rfl ((nu_wh tl14.1 (show 0 ≤ M (4 + 7 * a) b ∧ M (4 + 7 * a) b < 60 by omega))) ?_
                refine e_iret (k := 62) (xi92 62) ?_
                exact y_fW (Q := fun _ => True) (show v_x_hire a b d M = M (4 + 7 * a) b from by rw [v_x_hire, if_pos c0, if_pos c1, if_pos c2, if_pos c3, if_pos c4, if_pos c5, if_pos c6]) (show u_x_hire a b d M = (u_lend1 (M (4 + 7 * a) b) (M (4 + 7 * a) d) M) from by rw [u_x_hire, if_pos c0, if_pos c1, if_pos c2, if_pos c3, if_pos c4, if_pos c5, if_pos c6]) tl14 trivial
              · skip
                refine e_aload (k := 44) (xi92 44) rfl (by omega) ?_
                refine e_ifnull (k := 45) (xi92 45) (by omega) (fun q => absurd q (by omega)) (fun _ => ?_)
                refine e_aload (k := 46) (xi92 46) rfl (by omega) ?_
                have t16 := ty_wh1 tl0.1 (show 0 ≤ M (4 + 7 * a) d ∧ M (4 + 7 * a) d < 60 by omega)
                refine e_getI (j := 1) (w := M (88 + (M (4 + 7 * a) d)) 1) (k := 47) (xi92 47) (ok_wh hS (show 0 ≤ M (4 + 7 * a) d ∧ M (4 + 7 * a) d < 60 by omega)) rfl rfl ?_
                refine e_iconst (k := 48) (xi92 48) ?_
                refine e_c_ne (k := 49) (xi92 49) (fun c7 => ?_) (fun c7 => ?_)
                · skip
                  refine e_iconst (k := 53) (xi92 53) ?_
                  refine e_iret (k := 54) (xi92 54) ?_
                  exact y_fW (Q := fun _ => True) (show v_x_hire a b d M = (-5) from by rw [v_x_hire, if_pos c0, if_pos c1, if_pos c2, if_pos c3, if_pos c4, if_pos c5, if_neg c6, if_pos c7]) (show u_x_hire a b d M = M from by rw [u_x_hire, if_pos c0, if_pos c1, if_pos c2, if_pos c3, if_pos c4, if_pos c5, if_neg c6, if_pos c7]) tl0 trivial
                · skip
                  refine e_aload (k := 50) (xi92 50) rfl (by omega) ?_
                  have t17 := ty_wh7 tl0.1 (show 0 ≤ M (4 + 7 * a) d ∧ M (4 + 7 * a) d < 60 by omega)
                  refine e_getI (j := 7) (w := M (88 + (M (4 + 7 * a) d)) 7) (k := 51) (xi92 51) (ok_wh hS (show 0 ≤ M (4 + 7 * a) d ∧ M (4 + 7 * a) d < 60 by omega)) rfl rfl ?_
                  refine e_z_eq (k := 52) (xi92 52) (fun c8 => ?_) (fun c8 => ?_)
                  · skip
                    refine e_aload (k := 55) (xi92 55) rfl (by decide) ?_
                    refine e_getR (j := 0) (w := 1) (k := 56) (xi92 56) (ok_WS hS) rfl (sh_town hS) ?_
                    refine e_aload (k := 57) (xi92 57) rfl (by omega) ?_
                    refine e_aload (k := 58) (xi92 58) rfl (by omega) ?_
                    refine e_callR (k := 59) (c1 := 0) (c2 := 0) (rest := []) (as := [.inr 1, .inr (88 + (M (4 + 7 * a) b)), .inr (88 + (M (4 + 7 * a) d))]) (xi92 59) (by decide) xm56 rfl ⟨rfl, Nat.le_of_ble_eq_true rfl, by decide⟩ (Or.inr (x_okt (ok_town hS))) (k_lend1 hS tl0.1 (M (4 + 7 * a) b) (M (4 + 7 * a) d) (show 0 ≤ M (4 + 7 * a) b ∧ M (4 + 7 * a) b < 60 by omega) (show 0 ≤ M (4 + 7 * a) d ∧ M (4 + 7 * a) d < 60 by omega) ) ?_
                    rintro v_ h_ ⟨e18, tl19⟩
                    cases e18
                    have tl21 := tl_trans tl0 (tl19)
                    have n22 := tl_n tl19
                    show x_Ev 92 60 [.inr 0, .inl (a), .inl (b), .inl (d), .inr (88 + (M (4 + 7 * a) b)), .inr (88 + (M (4 + 7 * a) d))] [] (0, 0) (z, P, (u_lend1 (M (4 + 7 * a) b) (M (4 + 7 * a) d) M)) _
                    refine e_aload (k := 60) (xi92 60) rfl (by omega) ?_
                    refine e_getI (j := 0) (w := M (4 + 7 * a) b) (k := 61) (xi92 61) (ok_wh hS (show 0 ≤ M (4 + 7 * a) b ∧ M (4 + 7 * a) b < 60 by omega)) rfl ((nu_wh tl21.1 (show 0 ≤ M (4 + 7 * a) b ∧ M (4 + 7 * a) b < 60 by omega))) ?_
                    refine e_iret (k := 62) (xi92 62) ?_
                    exact y_fW (Q := fun _ => True) (show v_x_hire a b d M = M (4 + 7 * a) b from by rw [v_x_hire, if_pos c0, if_pos c1, if_pos c2, if_pos c3, if_pos c4, if_pos c5, if_neg c6, if_neg c7, if_pos c8]) (show u_x_hire a b d M = (u_lend1 (M (4 + 7 * a) b) (M (4 + 7 * a) d) M) from by rw [u_x_hire, if_pos c0, if_pos c1, if_pos c2, if_pos c3, if_pos c4, if_pos c5, if_neg c6, if_neg c7, if_pos c8]) tl21 trivial
                  · skip
                    refine e_iconst (k := 53) (xi92 53) ?_
                    refine e_iret (k := 54) (xi92 54) ?_
                    exact y_fW (Q := fun _ => True) (show v_x_hire a b d M = (-5) from by rw [v_x_hire, if_pos c0, if_pos c1, if_pos c2, if_pos c3, if_pos c4, if_pos c5, if_neg c6, if_neg c7, if_neg c8]) (show u_x_hire a b d M = M from by rw [u_x_hire, if_pos c0, if_pos c1, if_pos c2, if_pos c3, if_pos c4, if_pos c5, if_neg c6, if_neg c7, if_neg c8]) tl0 trivial
            · skip
              refine e_call (k := 39) (v := some (.inr (-1))) (h1 := (z, P, M)) (c1 := 0) (c2 := 0) (rest := []) (as := [.inr 1, .inl (a), .inl (d)]) (xi92 39) (by decide) xm43 rfl ⟨rfl, Nat.le_of_ble_eq_true rfl, by decide⟩ (Or.inr (x_okt (ok_town hS))) (k_wheelInF hS tl0.1 a d c5) ?_
              refine e_astore (k := 40) (xi92 40) (Nat.le_of_ble_eq_true rfl) (by decide) ?_
              show x_Ev 92 41 [.inr 0, .inl (a), .inl (b), .inl (d), .inr (88 + (M (4 + 7 * a) b)), .inr (-1)] [] (0, 0) (z, P, M) _
              refine e_iload (k := 41) (xi92 41) rfl ?_
              refine e_iconst (k := 42) (xi92 42) ?_
              refine e_c_eq (k := 43) (xi92 43) (fun c9 => ?_) (fun c9 => ?_)
              · skip
                refine e_aload (k := 55) (xi92 55) rfl (by decide) ?_
                refine e_getR (j := 0) (w := 1) (k := 56) (xi92 56) (ok_WS hS) rfl (sh_town hS) ?_
                refine e_aload (k := 57) (xi92 57) rfl (by omega) ?_
                refine e_aload (k := 58) (xi92 58) rfl (by decide) ?_
                refine e_callR (k := 59) (c1 := 0) (c2 := 0) (rest := []) (as := [.inr 1, .inr (88 + (M (4 + 7 * a) b)), .inr (-1)]) (xi92 59) (by decide) xm56 rfl ⟨rfl, Nat.le_of_ble_eq_true rfl, by decide⟩ (Or.inr (x_okt (ok_town hS))) (k_lend0 hS tl0.1 (M (4 + 7 * a) b) (show 0 ≤ M (4 + 7 * a) b ∧ M (4 + 7 * a) b < 60 by omega) ) ?_
                rintro v_ h_ ⟨e23, tl24⟩
                cases e23
                have tl26 := tl_trans tl0 (tl24)
                have n27 := tl_n tl24
                show x_Ev 92 60 [.inr 0, .inl (a), .inl (b), .inl (d), .inr (88 + (M (4 + 7 * a) b)), .inr (-1)] [] (0, 0) (z, P, (u_lend0 (M (4 + 7 * a) b) M)) _
                refine e_aload (k := 60) (xi92 60) rfl (by omega) ?_
                refine e_getI (j := 0) (w := M (4 + 7 * a) b) (k := 61) (xi92 61) (ok_wh hS (show 0 ≤ M (4 + 7 * a) b ∧ M (4 + 7 * a) b < 60 by omega)) rfl ((nu_wh tl26.1 (show 0 ≤ M (4 + 7 * a) b ∧ M (4 + 7 * a) b < 60 by omega))) ?_
                refine e_iret (k := 62) (xi92 62) ?_
                exact y_fW (Q := fun _ => True) (show v_x_hire a b d M = M (4 + 7 * a) b from by rw [v_x_hire, if_pos c0, if_pos c1, if_pos c2, if_pos c3, if_pos c4, if_neg c5, if_pos c9]) (show u_x_hire a b d M = (u_lend0 (M (4 + 7 * a) b) M) from by rw [u_x_hire, if_pos c0, if_pos c1, if_pos c2, if_pos c3, if_pos c4, if_neg c5, if_pos c9]) tl26 trivial
              · skip
                refine e_aload (k := 44) (xi92 44) rfl (by decide) ?_
                refine e_ifnull (k := 45) (xi92 45) (by omega) (fun _ => ?_) (fun q => absurd (by omega) q)
                refine e_iconst (k := 53) (xi92 53) ?_
                refine e_iret (k := 54) (xi92 54) ?_
                exact y_fW (Q := fun _ => True) (show v_x_hire a b d M = (-5) from by rw [v_x_hire, if_pos c0, if_pos c1, if_pos c2, if_pos c3, if_pos c4, if_neg c5, if_neg c9]) (show u_x_hire a b d M = M from by rw [u_x_hire, if_pos c0, if_pos c1, if_pos c2, if_pos c3, if_pos c4, if_neg c5, if_neg c9]) tl0 trivial
          · skip
            refine e_null (k := 33) (xi92 33) ?_
            refine e_goto (k := 34) (xi92 34) ?_
            refine e_astore (k := 40) (xi92 40) (Nat.le_of_ble_eq_true rfl) (by decide) ?_
            show x_Ev 92 41 [.inr 0, .inl (a), .inl (b), .inl (d), .inr (88 + (M (4 + 7 * a) b)), .inr (-1)] [] (0, 0) (z, P, M) _
            refine e_iload (k := 41) (xi92 41) rfl ?_
            refine e_iconst (k := 42) (xi92 42) ?_
            refine e_c_eq (k := 43) (xi92 43) (fun c10 => ?_) (fun c10 => ?_)
            · skip
              refine e_aload (k := 55) (xi92 55) rfl (by decide) ?_
              refine e_getR (j := 0) (w := 1) (k := 56) (xi92 56) (ok_WS hS) rfl (sh_town hS) ?_
              refine e_aload (k := 57) (xi92 57) rfl (by omega) ?_
              refine e_aload (k := 58) (xi92 58) rfl (by decide) ?_
              refine e_callR (k := 59) (c1 := 0) (c2 := 0) (rest := []) (as := [.inr 1, .inr (88 + (M (4 + 7 * a) b)), .inr (-1)]) (xi92 59) (by decide) xm56 rfl ⟨rfl, Nat.le_of_ble_eq_true rfl, by decide⟩ (Or.inr (x_okt (ok_town hS))) (k_lend0 hS tl0.1 (M (4 + 7 * a) b) (show 0 ≤ M (4 + 7 * a) b ∧ M (4 + 7 * a) b < 60 by omega) ) ?_
              rintro v_ h_ ⟨e28, tl29⟩
              cases e28
              have tl31 := tl_trans tl0 (tl29)
              have n32 := tl_n tl29
              show x_Ev 92 60 [.inr 0, .inl (a), .inl (b), .inl (d), .inr (88 + (M (4 + 7 * a) b)), .inr (-1)] [] (0, 0) (z, P, (u_lend0 (M (4 + 7 * a) b) M)) _
              refine e_aload (k := 60) (xi92 60) rfl (by omega) ?_
              refine e_getI (j := 0) (w := M (4 + 7 * a) b) (k := 61) (xi92 61) (ok_wh hS (show 0 ≤ M (4 + 7 * a) b ∧ M (4 + 7 * a) b < 60 by omega)) rfl ((nu_wh tl31.1 (show 0 ≤ M (4 + 7 * a) b ∧ M (4 + 7 * a) b < 60 by omega))) ?_
              refine e_iret (k := 62) (xi92 62) ?_
              exact y_fW (Q := fun _ => True) (show v_x_hire a b d M = M (4 + 7 * a) b from by rw [v_x_hire, if_pos c0, if_pos c1, if_pos c2, if_pos c3, if_neg c4, if_pos c10]) (show u_x_hire a b d M = (u_lend0 (M (4 + 7 * a) b) M) from by rw [u_x_hire, if_pos c0, if_pos c1, if_pos c2, if_pos c3, if_neg c4, if_pos c10]) tl31 trivial
            · skip
              refine e_aload (k := 44) (xi92 44) rfl (by decide) ?_
              refine e_ifnull (k := 45) (xi92 45) (by omega) (fun _ => ?_) (fun q => absurd (by omega) q)
              refine e_iconst (k := 53) (xi92 53) ?_
              refine e_iret (k := 54) (xi92 54) ?_
              exact y_fW (Q := fun _ => True) (show v_x_hire a b d M = (-5) from by rw [v_x_hire, if_pos c0, if_pos c1, if_pos c2, if_pos c3, if_neg c4, if_neg c10]) (show u_x_hire a b d M = M from by rw [u_x_hire, if_pos c0, if_pos c1, if_pos c2, if_pos c3, if_neg c4, if_neg c10]) tl0 trivial
        · skip
          refine e_iconst (k := 28) (xi92 28) ?_
          refine e_iret (k := 29) (xi92 29) ?_
          exact y_fW (Q := fun _ => True) (show v_x_hire a b d M = (-4) from by rw [v_x_hire, if_pos c0, if_pos c1, if_pos c2, if_neg c3]) (show u_x_hire a b d M = M from by rw [u_x_hire, if_pos c0, if_pos c1, if_pos c2, if_neg c3]) tl0 trivial
      · skip
        refine e_iconst (k := 19) (xi92 19) ?_
        refine e_iret (k := 20) (xi92 20) ?_
        exact y_fW (Q := fun _ => True) (show v_x_hire a b d M = (-3) from by rw [v_x_hire, if_pos c0, if_pos c1, if_neg c2]) (show u_x_hire a b d M = M from by rw [u_x_hire, if_pos c0, if_pos c1, if_neg c2]) tl0 trivial
    · skip
      refine e_iconst (k := 14) (xi92 14) ?_
      refine e_iret (k := 15) (xi92 15) ?_
      exact y_fW (Q := fun _ => True) (show v_x_hire a b d M = (-2) from by rw [v_x_hire, if_pos c0, if_neg c1]) (show u_x_hire a b d M = M from by rw [u_x_hire, if_pos c0, if_neg c1]) tl0 trivial
  · skip
    refine e_call (k := 4) (v := some (.inr (-1))) (h1 := (z, P, M)) (c1 := 0) (c2 := 0) (rest := []) (as := [.inr 1, .inl (a), .inl (b)]) (xi92 4) (by decide) xm43 rfl ⟨rfl, Nat.le_of_ble_eq_true rfl, by decide⟩ (Or.inr (x_okt (ok_town hS))) (k_wheelInF hS tl0.1 a b c0) ?_
    refine e_astore (k := 5) (xi92 5) (Nat.le_of_ble_eq_true rfl) (by decide) ?_
    show x_Ev 92 6 [.inr 0, .inl (a), .inl (b), .inl (d), .inr (-1), x_un] [] (0, 0) (z, P, M) _
    refine e_aload (k := 6) (xi92 6) rfl (by decide) ?_
    refine e_ifnonnull (k := 7) (xi92 7) (by omega) (fun q => absurd (by omega) q) (fun _ => ?_)
    refine e_iconst (k := 8) (xi92 8) ?_
    refine e_iret (k := 9) (xi92 9) ?_
    exact y_fW (Q := fun _ => True) (show v_x_hire a b d M = (-1) from by rw [v_x_hire, if_neg c0]) (show u_x_hire a b d M = M from by rw [u_x_hire, if_neg c0]) tl0 trivial
def v_x_end (a b : Int) (M : Int → Int → Int) : Int := if 0 ≤ a ∧ a < M 1 3 then (if 0 ≤ b ∧ b < M 1 1 then (if ¬ M (88 + a) 3 = 2 then (-1) else if ¬ M (88 + a) 1 = 3 then (if ¬ ((u_bringBack a b M)) (88 + a) 3 = 3 then ((u_bringBack a b M)) (88 + a) 4 else 100 + ((u_bringBack a b M)) (88 + a) 4) else (-1)) else (-1)) else if 0 ≤ b ∧ b < M 1 1 then (-1) else (-1)
def u_x_end (a b : Int) (M : Int → Int → Int) : Int → Int → Int := if 0 ≤ a ∧ a < M 1 3 then (if 0 ≤ b ∧ b < M 1 1 then (if ¬ M (88 + a) 3 = 2 then M else if ¬ M (88 + a) 1 = 3 then (if ¬ ((u_bringBack a b M)) (88 + a) 3 = 3 then (u_bringBack a b M) else (u_bringBack a b M)) else M) else M) else if 0 ≤ b ∧ b < M 1 1 then M else M
theorem k_x_end {z : Int} {P M : Int → Int → Int} (hS : x_Sh z P) (hT : y_TC M) (a : Int) (b : Int)   : x_CallR 93 [.inr 0, .inl (a), .inl (b)] (z, P, M) (fun q => q = (some (.inl (v_x_end a b M)), (z, P, u_x_end a b M)) ∧ y_TL 0 M (u_x_end a b M) ∧ True) := by
  have tl0 : y_TL 0 M M := tl_refl hT
  refine e_body (ls0 := [.inr 0, .inl (a), .inl (b), x_un, x_un]) xm93 rfl ?_
  refine e_aload (k := 0) (xi93 0) rfl (by decide) ?_
  refine e_getR (j := 0) (w := 1) (k := 1) (xi93 1) (ok_WS hS) rfl (sh_town hS) ?_
  refine e_iload (k := 2) (xi93 2) rfl ?_
  have t1 := ty_town3 tl0.1 
  by_cases c0 : 0 ≤ a ∧ a < M 1 3
  · skip
    refine e_call (k := 3) (v := some (.inr (88 + a))) (h1 := (z, P, M)) (c1 := 0) (c2 := 0) (rest := []) (as := [.inr 1, .inl (a)]) (xi93 3) (by decide) xm41 rfl ⟨rfl, Nat.le_of_ble_eq_true rfl, by decide⟩ (Or.inr (x_okt (ok_town hS))) (k_wheelAtT hS tl0.1 a c0) ?_
    refine e_astore (k := 4) (xi93 4) (Nat.le_of_ble_eq_true rfl) (by omega) ?_
    show x_Ev 93 5 [.inr 0, .inl (a), .inl (b), .inr (88 + a), x_un] [] (0, 0) (z, P, M) _
    refine e_aload (k := 5) (xi93 5) rfl (by decide) ?_
    refine e_getR (j := 0) (w := 1) (k := 6) (xi93 6) (ok_WS hS) rfl (sh_town hS) ?_
    refine e_iload (k := 7) (xi93 7) rfl ?_
    have t2 := ty_town1 tl0.1 
    by_cases c1 : 0 ≤ b ∧ b < M 1 1
    · skip
      refine e_call (k := 8) (v := some (.inr (3 + 7 * b))) (h1 := (z, P, M)) (c1 := 0) (c2 := 0) (rest := []) (as := [.inr 1, .inl (b)]) (xi93 8) (by decide) xm40 rfl ⟨rfl, Nat.le_of_ble_eq_true rfl, by decide⟩ (Or.inr (x_okt (ok_town hS))) (k_standAtT hS tl0.1 b c1) ?_
      refine e_astore (k := 9) (xi93 9) (Nat.le_of_ble_eq_true rfl) (by omega) ?_
      show x_Ev 93 10 [.inr 0, .inl (a), .inl (b), .inr (88 + a), .inr (3 + 7 * b)] [] (0, 0) (z, P, M) _
      refine e_aload (k := 10) (xi93 10) rfl (by omega) ?_
      refine e_ifnull (k := 11) (xi93 11) (by omega) (fun q => absurd q (by omega)) (fun _ => ?_)
      refine e_aload (k := 12) (xi93 12) rfl (by omega) ?_
      refine e_ifnull (k := 13) (xi93 13) (by omega) (fun q => absurd q (by omega)) (fun _ => ?_)
      refine e_aload (k := 14) (xi93 14) rfl (by omega) ?_
      have t3 := ty_wh3 tl0.1 (show 0 ≤ a ∧ a < 60 by omega)
      refine e_getI (j := 3) (w := M (88 + a) 3) (k := 15) (xi93 15) (ok_wh hS (show 0 ≤ a ∧ a < 60 by omega)) rfl rfl ?_
      refine e_iconst (k := 16) (xi93 16) ?_
      refine e_c_ne (k := 17) (xi93 17) (fun c2 => ?_) (fun c2 => ?_)
      · skip
        refine e_iconst (k := 22) (xi93 22) ?_
        refine e_iret (k := 23) (xi93 23) ?_
        exact y_fW (Q := fun _ => True) (show v_x_end a b M = (-1) from by rw [v_x_end, if_pos c0, if_pos c1, if_pos c2]) (show u_x_end a b M = M from by rw [u_x_end, if_pos c0, if_pos c1, if_pos c2]) tl0 trivial
      · skip
        refine e_aload (k := 18) (xi93 18) rfl (by omega) ?_
        have t4 := ty_wh1 tl0.1 (show 0 ≤ a ∧ a < 60 by omega)
        refine e_getI (j := 1) (w := M (88 + a) 1) (k := 19) (xi93 19) (ok_wh hS (show 0 ≤ a ∧ a < 60 by omega)) rfl rfl ?_
        refine e_iconst (k := 20) (xi93 20) ?_
        refine e_c_ne (k := 21) (xi93 21) (fun c3 => ?_) (fun c3 => ?_)
        · skip
          refine e_aload (k := 24) (xi93 24) rfl (by decide) ?_
          refine e_getR (j := 0) (w := 1) (k := 25) (xi93 25) (ok_WS hS) rfl (sh_town hS) ?_
          refine e_aload (k := 26) (xi93 26) rfl (by omega) ?_
          refine e_aload (k := 27) (xi93 27) rfl (by omega) ?_
          refine e_callR (k := 28) (c1 := 0) (c2 := 0) (rest := []) (as := [.inr 1, .inr (88 + a), .inr (3 + 7 * b)]) (xi93 28) (by decide) xm58 rfl ⟨rfl, Nat.le_of_ble_eq_true rfl, by decide⟩ (Or.inr (x_okt (ok_town hS))) (k_bringBack hS tl0.1 a b (show 0 ≤ a ∧ a < 60 by omega) (show 0 ≤ b ∧ b < 12 by omega) ) ?_
          rintro v_ h_ ⟨e5, tl6⟩
          cases e5
          have tl8 := tl_trans tl0 (tl6)
          have n9 := tl_n tl6
          show x_Ev 93 29 [.inr 0, .inl (a), .inl (b), .inr (88 + a), .inr (3 + 7 * b)] [] (0, 0) (z, P, (u_bringBack a b M)) _
          refine e_aload (k := 29) (xi93 29) rfl (by omega) ?_
          have t10 := ty_wh3 tl8.1 (show 0 ≤ a ∧ a < 60 by omega)
          refine e_getI (j := 3) (w := ((u_bringBack a b M)) (88 + a) 3) (k := 30) (xi93 30) (ok_wh hS (show 0 ≤ a ∧ a < 60 by omega)) rfl rfl ?_
          refine e_iconst (k := 31) (xi93 31) ?_
          refine e_c_ne (k := 32) (xi93 32) (fun c4 => ?_) (fun c4 => ?_)
          · skip
            refine e_aload (k := 38) (xi93 38) rfl (by omega) ?_
            have t11 := ty_wh4 tl8.1 (show 0 ≤ a ∧ a < 60 by omega)
            refine e_getI (j := 4) (w := ((u_bringBack a b M)) (88 + a) 4) (k := 39) (xi93 39) (ok_wh hS (show 0 ≤ a ∧ a < 60 by omega)) rfl rfl ?_
            refine e_iret (k := 40) (xi93 40) ?_
            exact y_fW (Q := fun _ => True) (show v_x_end a b M = ((u_bringBack a b M)) (88 + a) 4 from by rw [v_x_end, if_pos c0, if_pos c1, if_neg c2, if_pos c3, if_pos c4]) (show u_x_end a b M = (u_bringBack a b M) from by rw [u_x_end, if_pos c0, if_pos c1, if_neg c2, if_pos c3, if_pos c4]) tl8 trivial
          · skip
            refine e_iconst (k := 33) (xi93 33) ?_
            refine e_aload (k := 34) (xi93 34) rfl (by omega) ?_
            have t12 := ty_wh4 tl8.1 (show 0 ≤ a ∧ a < 60 by omega)
            refine e_getI (j := 4) (w := ((u_bringBack a b M)) (88 + a) 4) (k := 35) (xi93 35) (ok_wh hS (show 0 ≤ a ∧ a < 60 by omega)) rfl rfl ?_
            refine e_iadd (w := 100 + ((u_bringBack a b M)) (88 + a) 4) (k := 36) (xi93 36) (x_wn (by omega)) ?_
            refine e_goto (k := 37) (xi93 37) ?_
            refine e_iret (k := 40) (xi93 40) ?_
            exact y_fW (Q := fun _ => True) (show v_x_end a b M = 100 + ((u_bringBack a b M)) (88 + a) 4 from by rw [v_x_end, if_pos c0, if_pos c1, if_neg c2, if_pos c3, if_neg c4]) (show u_x_end a b M = (u_bringBack a b M) from by rw [u_x_end, if_pos c0, if_pos c1, if_neg c2, if_pos c3, if_neg c4]) tl8 trivial
        · skip
          refine e_iconst (k := 22) (xi93 22) ?_
          refine e_iret (k := 23) (xi93 23) ?_
          exact y_fW (Q := fun _ => True) (show v_x_end a b M = (-1) from by rw [v_x_end, if_pos c0, if_pos c1, if_neg c2, if_neg c3]) (show u_x_end a b M = M from by rw [u_x_end, if_pos c0, if_pos c1, if_neg c2, if_neg c3]) tl0 trivial
    · skip
      refine e_call (k := 8) (v := some (.inr (-1))) (h1 := (z, P, M)) (c1 := 0) (c2 := 0) (rest := []) (as := [.inr 1, .inl (b)]) (xi93 8) (by decide) xm40 rfl ⟨rfl, Nat.le_of_ble_eq_true rfl, by decide⟩ (Or.inr (x_okt (ok_town hS))) (k_standAtF hS tl0.1 b c1) ?_
      refine e_astore (k := 9) (xi93 9) (Nat.le_of_ble_eq_true rfl) (by decide) ?_
      show x_Ev 93 10 [.inr 0, .inl (a), .inl (b), .inr (88 + a), .inr (-1)] [] (0, 0) (z, P, M) _
      refine e_aload (k := 10) (xi93 10) rfl (by omega) ?_
      refine e_ifnull (k := 11) (xi93 11) (by omega) (fun q => absurd q (by omega)) (fun _ => ?_)
      refine e_aload (k := 12) (xi93 12) rfl (by decide) ?_
      refine e_ifnull (k := 13) (xi93 13) (by omega) (fun _ => ?_) (fun q => absurd (by omega) q)
      refine e_iconst (k := 22) (xi93 22) ?_
      refine e_iret (k := 23) (xi93 23) ?_
      exact y_fW (Q := fun _ => True) (show v_x_end a b M = (-1) from by rw [v_x_end, if_pos c0, if_neg c1]) (show u_x_end a b M = M from by rw [u_x_end, if_pos c0, if_neg c1]) tl0 trivial
  · skip
    refine e_call (k := 3) (v := some (.inr (-1))) (h1 := (z, P, M)) (c1 := 0) (c2 := 0) (rest := []) (as := [.inr 1, .inl (a)]) (xi93 3) (by decide) xm41 rfl ⟨rfl, Nat.le_of_ble_eq_true rfl, by decide⟩ (Or.inr (x_okt (ok_town hS))) (k_wheelAtF hS tl0.1 a c0) ?_
    refine e_astore (k := 4) (xi93 4) (Nat.le_of_ble_eq_true rfl) (by decide) ?_
    show x_Ev 93 5 [.inr 0, .inl (a), .inl (b), .inr (-1), x_un] [] (0, 0) (z, P, M) _
    refine e_aload (k := 5) (xi93 5) rfl (by decide) ?_
    refine e_getR (j := 0) (w := 1) (k := 6) (xi93 6) (ok_WS hS) rfl (sh_town hS) ?_
    refine e_iload (k := 7) (xi93 7) rfl ?_
    have t13 := ty_town1 tl0.1 
    by_cases c5 : 0 ≤ b ∧ b < M 1 1
    · skip
      refine e_call (k := 8) (v := some (.inr (3 + 7 * b))) (h1 := (z, P, M)) (c1 := 0) (c2 := 0) (rest := []) (as := [.inr 1, .inl (b)]) (xi93 8) (by decide) xm40 rfl ⟨rfl, Nat.le_of_ble_eq_true rfl, by decide⟩ (Or.inr (x_okt (ok_town hS))) (k_standAtT hS tl0.1 b c5) ?_
      refine e_astore (k := 9) (xi93 9) (Nat.le_of_ble_eq_true rfl) (by omega) ?_
      show x_Ev 93 10 [.inr 0, .inl (a), .inl (b), .inr (-1), .inr (3 + 7 * b)] [] (0, 0) (z, P, M) _
      refine e_aload (k := 10) (xi93 10) rfl (by decide) ?_
      refine e_ifnull (k := 11) (xi93 11) (by omega) (fun _ => ?_) (fun q => absurd (by omega) q)
      refine e_iconst (k := 22) (xi93 22) ?_
      refine e_iret (k := 23) (xi93 23) ?_
      exact y_fW (Q := fun _ => True) (show v_x_end a b M = (-1) from by rw [v_x_end, if_neg c0, if_pos c5]) (show u_x_end a b M = M from by rw [u_x_end, if_neg c0, if_pos c5]) tl0 trivial
    · skip
      refine e_call (k := 8) (v := some (.inr (-1))) (h1 := (z, P, M)) (c1 := 0) (c2 := 0) (rest := []) (as := [.inr 1, .inl (b)]) (xi93 8) (by decide) xm40 rfl ⟨rfl, Nat.le_of_ble_eq_true rfl, by decide⟩ (Or.inr (x_okt (ok_town hS))) (k_standAtF hS tl0.1 b c5) ?_
      refine e_astore (k := 9) (xi93 9) (Nat.le_of_ble_eq_true rfl) (by decide) ?_
      show x_Ev 93 10 [.inr 0, .inl (a), .inl (b), .inr (-1), .inr (-1)] [] (0, 0) (z, P, M) _
      refine e_aload (k := 10) (xi93 10) rfl (by decide) ?_
      refine e_ifnull (k := 11) (xi93 11) (by omega) (fun _ => ?_) (fun q => absurd (by omega) q)
      refine e_iconst (k := 22) (xi93 22) ?_
      refine e_iret (k := 23) (xi93 23) ?_
      exact y_fW (Q := fun _ => True) (show v_x_end a b M = (-1) from by rw [v_x_end, if_neg c0, if_neg c5]) (show u_x_end a b M = M from by rw [u_x_end, if_neg c0, if_neg c5]) tl0 trivial
def l_x_hour_a : Nat → (Int → Int → Int) → Int → (Int → Int → Int) × Int
  | 0, M, i => (M, i)
  | k + 1, M, i => if M 1 3 ≤ i then (M, i) else if ¬ M (88 + i) 3 = 0 then l_x_hour_a k M (1 + i) else l_x_hour_a k ((u_chargeAnHour i M)) (1 + i)
theorem kl_x_hour_a {z : Int} {P M0 : Int → Int → Int} {r : Option xV × xH → Prop} (hS : x_Sh z P)     : ∀ k : Nat, ∀ M : (Int → Int → Int), ∀ i : Int, y_TL 0 M0 M → (0 ≤ i ∧ i ≤ 60) → 60 - i < (k : Int) → (y_TL 0 M0 ((l_x_hour_a k M i).1) → True → x_Ev 94 22 [.inr 0, .inl ((l_x_hour_a k M i).2)] [] (0, 0) (z, P, (l_x_hour_a k M i).1) r) → x_Ev 94 2 [.inr 0, .inl (i)] [] (0, 0) (z, P, M) r := by
  intro k
  induction k with
  | zero => intro M i tl0 hi hm; omega
  | succ k ih =>
    intro M i tl0 hi hm kk
    refine e_iload (k := 2) (xi94 2) rfl ?_
    refine e_aload (k := 3) (xi94 3) rfl (by decide) ?_
    refine e_getR (j := 0) (w := 1) (k := 4) (xi94 4) (ok_WS hS) rfl (sh_town hS) ?_
    have t1 := ty_town3 tl0.1 
    refine e_getI (j := 3) (w := M 1 3) (k := 5) (xi94 5) (ok_town hS) rfl rfl ?_
    refine e_c_ge (k := 6) (xi94 6) (fun c0 => ?_) (fun c0 => ?_)
    · skip
      rw [(show l_x_hour_a (k + 1) M i = (M, i) from by rw [l_x_hour_a, if_pos c0])] at kk
      try dsimp only at kk
      exact kk tl0 (by first | exact trivial | omega)
    · skip
      refine e_aload (k := 7) (xi94 7) rfl (by decide) ?_
      refine e_getR (j := 0) (w := 1) (k := 8) (xi94 8) (ok_WS hS) rfl (sh_town hS) ?_
      refine e_getR (j := 2) (w := 87) (k := 9) (xi94 9) (ok_town hS) rfl (sh_whs hS) ?_
      refine e_iload (k := 10) (xi94 10) rfl ?_
      refine e_aald (w := 88 + i) (k := 11) (xi94 11) (x_ok4 (ok_whs hS) (by decide)) (by rw [ln_whs]; omega) (sh_wh hS (show 0 ≤ i ∧ i < 60 by omega)) ?_
      have t2 := ty_wh3 tl0.1 (show 0 ≤ i ∧ i < 60 by omega)
      refine e_getI (j := 3) (w := M (88 + i) 3) (k := 12) (xi94 12) (ok_wh hS (show 0 ≤ i ∧ i < 60 by omega)) rfl rfl ?_
      refine e_z_ne (k := 13) (xi94 13) (fun c1 => ?_) (fun c1 => ?_)
      · skip
        refine e_iinc (w := 1 + i) (k := 20) (xi94 20) rfl (x_wn (by omega)) ?_
        show x_Ev 94 21 [.inr 0, .inl (1 + i)] [] (0, 0) (z, P, M) _
        refine e_goto (k := 21) (xi94 21) ?_
        rw [(show l_x_hour_a (k + 1) M i = l_x_hour_a k M (1 + i) from by rw [l_x_hour_a, if_neg c0, if_pos c1])] at kk
        exact ih M (1 + i) tl0 (by omega) (by omega) kk
      · skip
        refine e_aload (k := 14) (xi94 14) rfl (by decide) ?_
        refine e_getR (j := 0) (w := 1) (k := 15) (xi94 15) (ok_WS hS) rfl (sh_town hS) ?_
        refine e_getR (j := 2) (w := 87) (k := 16) (xi94 16) (ok_town hS) rfl (sh_whs hS) ?_
        refine e_iload (k := 17) (xi94 17) rfl ?_
        refine e_aald (w := 88 + i) (k := 18) (xi94 18) (x_ok4 (ok_whs hS) (by decide)) (by rw [ln_whs]; omega) (sh_wh hS (show 0 ≤ i ∧ i < 60 by omega)) ?_
        refine e_callR (k := 19) (c1 := 0) (c2 := 0) (rest := []) (as := [.inr (88 + i)]) (xi94 19) (by decide) xm75 rfl ⟨rfl, Nat.le_of_ble_eq_true rfl, by decide⟩ (Or.inr (x_okt (ok_wh hS (show 0 ≤ i ∧ i < 60 by omega)))) (k_chargeAnHour hS tl0.1 i (show 0 ≤ i ∧ i < 60 by omega) ) ?_
        rintro v_ h_ ⟨e3, tl4⟩
        cases e3
        have tl6 := tl_trans tl0 (tl4)
        have n7 := tl_n tl4
        show x_Ev 94 20 [.inr 0, .inl (i)] [] (0, 0) (z, P, (u_chargeAnHour i M)) _
        refine e_iinc (w := 1 + i) (k := 20) (xi94 20) rfl (x_wn (by omega)) ?_
        show x_Ev 94 21 [.inr 0, .inl (1 + i)] [] (0, 0) (z, P, (u_chargeAnHour i M)) _
        refine e_goto (k := 21) (xi94 21) ?_
        rw [(show l_x_hour_a (k + 1) M i = l_x_hour_a k ((u_chargeAnHour i M)) (1 + i) from by rw [l_x_hour_a, if_neg c0, if_neg c1])] at kk
        exact ih ((u_chargeAnHour i M)) (1 + i) tl6 (by omega) (by omega) kk
def v_x_hour (M : Int → Int → Int) : Int := if 24 ≤ 1 + ((l_x_hour_a 61 M 0).1) 1 6 then 0 else 1 + ((l_x_hour_a 61 M 0).1) 1 6
def u_x_hour (M : Int → Int → Int) : Int → Int → Int := if 24 ≤ 1 + ((l_x_hour_a 61 M 0).1) 1 6 then (x_up ((l_x_hour_a 61 M 0).1) 1 6 0) else (x_up ((l_x_hour_a 61 M 0).1) 1 6 (1 + ((l_x_hour_a 61 M 0).1) 1 6))
theorem k_x_hour {z : Int} {P M : Int → Int → Int} (hS : x_Sh z P) (hT : y_TC M)    : x_CallR 94 [.inr 0] (z, P, M) (fun q => q = (some (.inl (v_x_hour M)), (z, P, u_x_hour M)) ∧ y_TL 2 M (u_x_hour M) ∧ True) := by
  have tl0 : y_TL 2 M M := tl_refl hT
  refine e_body (ls0 := [.inr 0, x_un]) xm94 rfl ?_
  refine e_iconst (k := 0) (xi94 0) ?_
  refine e_istore (k := 1) (xi94 1) (Nat.le_of_ble_eq_true rfl) ?_
  show x_Ev 94 2 [.inr 0, .inl 0] [] (0, 0) (z, P, M) _
  refine kl_x_hour_a hS      61 M 0 (tl_refl tl0.1) (by omega) (by omega) ?_
  intro tl1 q2
  have tl3 := tl_trans tl0 (tl_20 tl1)
  have n4 := tl_n tl1
  show x_Ev 94 22 [.inr 0, .inl ((l_x_hour_a 61 M 0).2)] [] (0, 0) (z, P, (l_x_hour_a 61 M 0).1) _
  refine e_aload (k := 22) (xi94 22) rfl (by decide) ?_
  refine e_getR (j := 0) (w := 1) (k := 23) (xi94 23) (ok_WS hS) rfl (sh_town hS) ?_
  refine e_aload (k := 24) (xi94 24) rfl (by decide) ?_
  refine e_getR (j := 0) (w := 1) (k := 25) (xi94 25) (ok_WS hS) rfl (sh_town hS) ?_
  have t5 := ty_town6 tl3.1 
  refine e_getI (j := 6) (w := ((l_x_hour_a 61 M 0).1) 1 6) (k := 26) (xi94 26) (ok_town hS) rfl rfl ?_
  refine e_iconst (k := 27) (xi94 27) ?_
  refine e_iadd (w := 1 + ((l_x_hour_a 61 M 0).1) 1 6) (k := 28) (xi94 28) (x_wn (by omega)) ?_
  refine e_iconst (k := 29) (xi94 29) ?_
  refine e_c_ge (k := 30) (xi94 30) (fun c0 => ?_) (fun c0 => ?_)
  · skip
    refine e_iconst (k := 37) (xi94 37) ?_
    refine e_putI (j := 6) (k := 38) (xi94 38) (ok_town hS) rfl ?_
    have tl6 : y_TL 2 M (x_up ((l_x_hour_a 61 M 0).1) 1 6 0) := tl_up tl3 (sl_town6  (by omega)) (nf2 (by omega))
    refine e_aload (k := 39) (xi94 39) rfl (by decide) ?_
    refine e_getR (j := 0) (w := 1) (k := 40) (xi94 40) (ok_WS hS) rfl (sh_town hS) ?_
    refine e_getI (j := 6) (w := 0) (k := 41) (xi94 41) (ok_town hS) rfl x_up_self ?_
    refine e_iret (k := 42) (xi94 42) ?_
    exact y_fW (Q := fun _ => True) (show v_x_hour M = 0 from by rw [v_x_hour, if_pos c0]) (show u_x_hour M = (x_up ((l_x_hour_a 61 M 0).1) 1 6 0) from by rw [u_x_hour, if_pos c0]) tl6 trivial
  · skip
    refine e_aload (k := 31) (xi94 31) rfl (by decide) ?_
    refine e_getR (j := 0) (w := 1) (k := 32) (xi94 32) (ok_WS hS) rfl (sh_town hS) ?_
    refine e_getI (j := 6) (w := ((l_x_hour_a 61 M 0).1) 1 6) (k := 33) (xi94 33) (ok_town hS) rfl rfl ?_
    refine e_iconst (k := 34) (xi94 34) ?_
    refine e_iadd (w := 1 + ((l_x_hour_a 61 M 0).1) 1 6) (k := 35) (xi94 35) (x_wn (by omega)) ?_
    refine e_goto (k := 36) (xi94 36) ?_
    refine e_putI (j := 6) (k := 38) (xi94 38) (ok_town hS) rfl ?_
    have tl7 : y_TL 2 M (x_up ((l_x_hour_a 61 M 0).1) 1 6 (1 + ((l_x_hour_a 61 M 0).1) 1 6)) := tl_up tl3 (sl_town6  (by omega)) (nf2 (by omega))
    refine e_aload (k := 39) (xi94 39) rfl (by decide) ?_
    refine e_getR (j := 0) (w := 1) (k := 40) (xi94 40) (ok_WS hS) rfl (sh_town hS) ?_
    refine e_getI (j := 6) (w := 1 + ((l_x_hour_a 61 M 0).1) 1 6) (k := 41) (xi94 41) (ok_town hS) rfl x_up_self ?_
    refine e_iret (k := 42) (xi94 42) ?_
    exact y_fW (Q := fun _ => True) (show v_x_hour M = 1 + ((l_x_hour_a 61 M 0).1) 1 6 from by rw [v_x_hour, if_neg c0]) (show u_x_hour M = (x_up ((l_x_hour_a 61 M 0).1) 1 6 (1 + ((l_x_hour_a 61 M 0).1) 1 6)) from by rw [u_x_hour, if_neg c0]) tl7 trivial
def v_x_cart (a b : Int) (M : Int → Int → Int) : Int := if a < 1 then (-1) else if 8 < a then (-1) else if 0 ≤ b ∧ b < M 1 1 then v_addCart a b M else (-1)
def u_x_cart (a b : Int) (M : Int → Int → Int) : Int → Int → Int := if a < 1 then M else if 8 < a then M else if 0 ≤ b ∧ b < M 1 1 then (u_addCart a b M) else M
theorem k_x_cart {z : Int} {P M : Int → Int → Int} (hS : x_Sh z P) (hT : y_TC M) (a : Int) (b : Int)   : x_CallR 95 [.inr 0, .inl (a), .inl (b)] (z, P, M) (fun q => q = (some (.inl (v_x_cart a b M)), (z, P, u_x_cart a b M)) ∧ y_TL 2 M (u_x_cart a b M) ∧ True) := by
  have tl0 : y_TL 2 M M := tl_refl hT
  refine e_body (ls0 := [.inr 0, .inl (a), .inl (b)]) xm95 rfl ?_
  refine e_iload (k := 0) (xi95 0) rfl ?_
  refine e_iconst (k := 1) (xi95 1) ?_
  refine e_c_lt (k := 2) (xi95 2) (fun c0 => ?_) (fun c0 => ?_)
  · skip
    refine e_iconst (k := 11) (xi95 11) ?_
    refine e_iret (k := 12) (xi95 12) ?_
    exact y_fW (Q := fun _ => True) (show v_x_cart a b M = (-1) from by rw [v_x_cart, if_pos c0]) (show u_x_cart a b M = M from by rw [u_x_cart, if_pos c0]) tl0 trivial
  · skip
    refine e_iload (k := 3) (xi95 3) rfl ?_
    refine e_iconst (k := 4) (xi95 4) ?_
    refine e_c_gt (k := 5) (xi95 5) (fun c1 => ?_) (fun c1 => ?_)
    · skip
      refine e_iconst (k := 11) (xi95 11) ?_
      refine e_iret (k := 12) (xi95 12) ?_
      exact y_fW (Q := fun _ => True) (show v_x_cart a b M = (-1) from by rw [v_x_cart, if_neg c0, if_pos c1]) (show u_x_cart a b M = M from by rw [u_x_cart, if_neg c0, if_pos c1]) tl0 trivial
    · skip
      refine e_aload (k := 6) (xi95 6) rfl (by decide) ?_
      refine e_getR (j := 0) (w := 1) (k := 7) (xi95 7) (ok_WS hS) rfl (sh_town hS) ?_
      refine e_iload (k := 8) (xi95 8) rfl ?_
      have t1 := ty_town1 tl0.1 
      by_cases c2 : 0 ≤ b ∧ b < M 1 1
      · skip
        refine e_call (k := 9) (v := some (.inr (3 + 7 * b))) (h1 := (z, P, M)) (c1 := 0) (c2 := 0) (rest := []) (as := [.inr 1, .inl (b)]) (xi95 9) (by decide) xm40 rfl ⟨rfl, Nat.le_of_ble_eq_true rfl, by decide⟩ (Or.inr (x_okt (ok_town hS))) (k_standAtT hS tl0.1 b c2) ?_
        refine e_ifnonnull (k := 10) (xi95 10) (by omega) (fun _ => ?_) (fun q => absurd q (by omega))
        refine e_aload (k := 13) (xi95 13) rfl (by decide) ?_
        refine e_getR (j := 0) (w := 1) (k := 14) (xi95 14) (ok_WS hS) rfl (sh_town hS) ?_
        refine e_iload (k := 15) (xi95 15) rfl ?_
        refine e_iload (k := 16) (xi95 16) rfl ?_
        refine e_callR (k := 17) (c1 := 0) (c2 := 0) (rest := []) (as := [.inr 1, .inl (a), .inl (b)]) (xi95 17) (by decide) xm46 rfl ⟨rfl, Nat.le_of_ble_eq_true rfl, by decide⟩ (Or.inr (x_okt (ok_town hS))) (k_addCart hS tl0.1 a b  (by omega) (by omega)) ?_
        rintro v_ h_ ⟨e2, tl3, q4⟩
        cases e2
        have tl5 := tl_trans tl0 (tl3)
        show x_Ev 95 18 [.inr 0, .inl (a), .inl (b)] [.inl (v_addCart a b M)] (0, 0) (z, P, (u_addCart a b M)) _
        refine e_iret (k := 18) (xi95 18) ?_
        exact y_fW (Q := fun _ => True) (show v_x_cart a b M = v_addCart a b M from by rw [v_x_cart, if_neg c0, if_neg c1, if_pos c2]) (show u_x_cart a b M = (u_addCart a b M) from by rw [u_x_cart, if_neg c0, if_neg c1, if_pos c2]) tl5 trivial
      · skip
        refine e_call (k := 9) (v := some (.inr (-1))) (h1 := (z, P, M)) (c1 := 0) (c2 := 0) (rest := []) (as := [.inr 1, .inl (b)]) (xi95 9) (by decide) xm40 rfl ⟨rfl, Nat.le_of_ble_eq_true rfl, by decide⟩ (Or.inr (x_okt (ok_town hS))) (k_standAtF hS tl0.1 b c2) ?_
        refine e_ifnonnull (k := 10) (xi95 10) (by omega) (fun q => absurd (by omega) q) (fun _ => ?_)
        refine e_iconst (k := 11) (xi95 11) ?_
        refine e_iret (k := 12) (xi95 12) ?_
        exact y_fW (Q := fun _ => True) (show v_x_cart a b M = (-1) from by rw [v_x_cart, if_neg c0, if_neg c1, if_neg c2]) (show u_x_cart a b M = M from by rw [u_x_cart, if_neg c0, if_neg c1, if_neg c2]) tl0 trivial
def v_x_drive (a b : Int) (M : Int → Int → Int) : Int := if 0 ≤ a ∧ a < M 1 5 then (if 0 ≤ b ∧ b < M 1 1 then ((u_moveCart a b M)) (149 + 2 * a) 4 else (-1)) else (-1)
def u_x_drive (a b : Int) (M : Int → Int → Int) : Int → Int → Int := if 0 ≤ a ∧ a < M 1 5 then (if 0 ≤ b ∧ b < M 1 1 then (u_moveCart a b M) else M) else M
theorem k_x_drive {z : Int} {P M : Int → Int → Int} (hS : x_Sh z P) (hT : y_TC M) (a : Int) (b : Int)   : x_CallR 96 [.inr 0, .inl (a), .inl (b)] (z, P, M) (fun q => q = (some (.inl (v_x_drive a b M)), (z, P, u_x_drive a b M)) ∧ y_TL 0 M (u_x_drive a b M) ∧ True) := by
  have tl0 : y_TL 0 M M := tl_refl hT
  refine e_body (ls0 := [.inr 0, .inl (a), .inl (b), x_un]) xm96 rfl ?_
  refine e_aload (k := 0) (xi96 0) rfl (by decide) ?_
  refine e_getR (j := 0) (w := 1) (k := 1) (xi96 1) (ok_WS hS) rfl (sh_town hS) ?_
  refine e_iload (k := 2) (xi96 2) rfl ?_
  have t1 := ty_town5 tl0.1 
  by_cases c0 : 0 ≤ a ∧ a < M 1 5
  · skip
    refine e_call (k := 3) (v := some (.inr (149 + 2 * a))) (h1 := (z, P, M)) (c1 := 0) (c2 := 0) (rest := []) (as := [.inr 1, .inl (a)]) (xi96 3) (by decide) xm42 rfl ⟨rfl, Nat.le_of_ble_eq_true rfl, by decide⟩ (Or.inr (x_okt (ok_town hS))) (k_cartAtT hS tl0.1 a c0) ?_
    refine e_astore (k := 4) (xi96 4) (Nat.le_of_ble_eq_true rfl) (by omega) ?_
    show x_Ev 96 5 [.inr 0, .inl (a), .inl (b), .inr (149 + 2 * a)] [] (0, 0) (z, P, M) _
    refine e_aload (k := 5) (xi96 5) rfl (by omega) ?_
    refine e_ifnull (k := 6) (xi96 6) (by omega) (fun q => absurd q (by omega)) (fun _ => ?_)
    refine e_aload (k := 7) (xi96 7) rfl (by decide) ?_
    refine e_getR (j := 0) (w := 1) (k := 8) (xi96 8) (ok_WS hS) rfl (sh_town hS) ?_
    refine e_iload (k := 9) (xi96 9) rfl ?_
    have t2 := ty_town1 tl0.1 
    by_cases c1 : 0 ≤ b ∧ b < M 1 1
    · skip
      refine e_call (k := 10) (v := some (.inr (3 + 7 * b))) (h1 := (z, P, M)) (c1 := 0) (c2 := 0) (rest := []) (as := [.inr 1, .inl (b)]) (xi96 10) (by decide) xm40 rfl ⟨rfl, Nat.le_of_ble_eq_true rfl, by decide⟩ (Or.inr (x_okt (ok_town hS))) (k_standAtT hS tl0.1 b c1) ?_
      refine e_ifnonnull (k := 11) (xi96 11) (by omega) (fun _ => ?_) (fun q => absurd q (by omega))
      refine e_aload (k := 14) (xi96 14) rfl (by decide) ?_
      refine e_getR (j := 0) (w := 1) (k := 15) (xi96 15) (ok_WS hS) rfl (sh_town hS) ?_
      refine e_aload (k := 16) (xi96 16) rfl (by omega) ?_
      refine e_iload (k := 17) (xi96 17) rfl ?_
      refine e_callR (k := 18) (c1 := 0) (c2 := 0) (rest := []) (as := [.inr 1, .inr (149 + 2 * a), .inl (b)]) (xi96 18) (by decide) xm61 rfl ⟨rfl, Nat.le_of_ble_eq_true rfl, by decide⟩ (Or.inr (x_okt (ok_town hS))) (k_moveCart hS tl0.1 a b (show 0 ≤ a ∧ a < 3 by omega) (by omega)) ?_
      rintro v_ h_ ⟨e3, tl4⟩
      cases e3
      have tl6 := tl_trans tl0 (tl4)
      have n7 := tl_n tl4
      show x_Ev 96 19 [.inr 0, .inl (a), .inl (b), .inr (149 + 2 * a)] [] (0, 0) (z, P, (u_moveCart a b M)) _
      refine e_aload (k := 19) (xi96 19) rfl (by omega) ?_
      refine e_getI (j := 4) (w := ((u_moveCart a b M)) (149 + 2 * a) 4) (k := 20) (xi96 20) (ok_ca hS (show 0 ≤ a ∧ a < 3 by omega)) rfl rfl ?_
      refine e_iret (k := 21) (xi96 21) ?_
      exact y_fW (Q := fun _ => True) (show v_x_drive a b M = ((u_moveCart a b M)) (149 + 2 * a) 4 from by rw [v_x_drive, if_pos c0, if_pos c1]) (show u_x_drive a b M = (u_moveCart a b M) from by rw [u_x_drive, if_pos c0, if_pos c1]) tl6 trivial
    · skip
      refine e_call (k := 10) (v := some (.inr (-1))) (h1 := (z, P, M)) (c1 := 0) (c2 := 0) (rest := []) (as := [.inr 1, .inl (b)]) (xi96 10) (by decide) xm40 rfl ⟨rfl, Nat.le_of_ble_eq_true rfl, by decide⟩ (Or.inr (x_okt (ok_town hS))) (k_standAtF hS tl0.1 b c1) ?_
      refine e_ifnonnull (k := 11) (xi96 11) (by omega) (fun q => absurd (by omega) q) (fun _ => ?_)
      refine e_iconst (k := 12) (xi96 12) ?_
      refine e_iret (k := 13) (xi96 13) ?_
      exact y_fW (Q := fun _ => True) (show v_x_drive a b M = (-1) from by rw [v_x_drive, if_pos c0, if_neg c1]) (show u_x_drive a b M = M from by rw [u_x_drive, if_pos c0, if_neg c1]) tl0 trivial
  · skip
    refine e_call (k := 3) (v := some (.inr (-1))) (h1 := (z, P, M)) (c1 := 0) (c2 := 0) (rest := []) (as := [.inr 1, .inl (a)]) (xi96 3) (by decide) xm42 rfl ⟨rfl, Nat.le_of_ble_eq_true rfl, by decide⟩ (Or.inr (x_okt (ok_town hS))) (k_cartAtF hS tl0.1 a c0) ?_
    refine e_astore (k := 4) (xi96 4) (Nat.le_of_ble_eq_true rfl) (by decide) ?_
    show x_Ev 96 5 [.inr 0, .inl (a), .inl (b), .inr (-1)] [] (0, 0) (z, P, M) _
    refine e_aload (k := 5) (xi96 5) rfl (by decide) ?_
    refine e_ifnull (k := 6) (xi96 6) (by omega) (fun _ => ?_) (fun q => absurd (by omega) q)
    refine e_iconst (k := 12) (xi96 12) ?_
    refine e_iret (k := 13) (xi96 13) ?_
    exact y_fW (Q := fun _ => True) (show v_x_drive a b M = (-1) from by rw [v_x_drive, if_neg c0]) (show u_x_drive a b M = M from by rw [u_x_drive, if_neg c0]) tl0 trivial
def v_x_pick (a b : Int) (M : Int → Int → Int) : Int := if 0 ≤ a ∧ a < M 1 5 then (if ((0 ≤ (M (149 + 2 * a) 2) ∧ (M (149 + 2 * a) 2) < M 1 1) ∧ 0 ≤ b ∧ b < M (3 + 7 * (M (149 + 2 * a) 2)) 1) ∧ 0 ≤ M (4 + 7 * (M (149 + 2 * a) 2)) b ∧ M (4 + 7 * (M (149 + 2 * a) 2)) b < M 1 3 then (if x_w (M (149 + 2 * a) 3 + y_sz (M (88 + (M (4 + 7 * (M (149 + 2 * a) 2)) b)) 1)) ≤ M (149 + 2 * a) 1 ∧ M (149 + 2 * a) 6 < 8 then M (4 + 7 * (M (149 + 2 * a) 2)) b else (-1)) else (-1)) else (-1)
def u_x_pick (a b : Int) (M : Int → Int → Int) : Int → Int → Int := if 0 ≤ a ∧ a < M 1 5 then (if ((0 ≤ (M (149 + 2 * a) 2) ∧ (M (149 + 2 * a) 2) < M 1 1) ∧ 0 ≤ b ∧ b < M (3 + 7 * (M (149 + 2 * a) 2)) 1) ∧ 0 ≤ M (4 + 7 * (M (149 + 2 * a) 2)) b ∧ M (4 + 7 * (M (149 + 2 * a) 2)) b < M 1 3 then (if x_w (M (149 + 2 * a) 3 + y_sz (M (88 + (M (4 + 7 * (M (149 + 2 * a) 2)) b)) 1)) ≤ M (149 + 2 * a) 1 ∧ M (149 + 2 * a) 6 < 8 then (u_takeFromDock a (M (4 + 7 * (M (149 + 2 * a) 2)) b) M) else M) else M) else M
theorem k_x_pick {z : Int} {P M : Int → Int → Int} (hS : x_Sh z P) (hT : y_TC M) (a : Int) (b : Int)   : x_CallR 97 [.inr 0, .inl (a), .inl (b)] (z, P, M) (fun q => q = (some (.inl (v_x_pick a b M)), (z, P, u_x_pick a b M)) ∧ y_TL 0 M (u_x_pick a b M) ∧ True) := by
  have tl0 : y_TL 0 M M := tl_refl hT
  refine e_body (ls0 := [.inr 0, .inl (a), .inl (b), x_un, x_un]) xm97 rfl ?_
  refine e_aload (k := 0) (xi97 0) rfl (by decide) ?_
  refine e_getR (j := 0) (w := 1) (k := 1) (xi97 1) (ok_WS hS) rfl (sh_town hS) ?_
  refine e_iload (k := 2) (xi97 2) rfl ?_
  have t1 := ty_town5 tl0.1 
  by_cases c0 : 0 ≤ a ∧ a < M 1 5
  · skip
    refine e_call (k := 3) (v := some (.inr (149 + 2 * a))) (h1 := (z, P, M)) (c1 := 0) (c2 := 0) (rest := []) (as := [.inr 1, .inl (a)]) (xi97 3) (by decide) xm42 rfl ⟨rfl, Nat.le_of_ble_eq_true rfl, by decide⟩ (Or.inr (x_okt (ok_town hS))) (k_cartAtT hS tl0.1 a c0) ?_
    refine e_astore (k := 4) (xi97 4) (Nat.le_of_ble_eq_true rfl) (by omega) ?_
    show x_Ev 97 5 [.inr 0, .inl (a), .inl (b), .inr (149 + 2 * a), x_un] [] (0, 0) (z, P, M) _
    refine e_aload (k := 5) (xi97 5) rfl (by omega) ?_
    refine e_ifnonnull (k := 6) (xi97 6) (by omega) (fun _ => ?_) (fun q => absurd q (by omega))
    refine e_aload (k := 9) (xi97 9) rfl (by decide) ?_
    refine e_getR (j := 0) (w := 1) (k := 10) (xi97 10) (ok_WS hS) rfl (sh_town hS) ?_
    refine e_aload (k := 11) (xi97 11) rfl (by omega) ?_
    have t2 := ty_ca2 tl0.1 (show 0 ≤ a ∧ a < 3 by omega)
    refine e_getI (j := 2) (w := M (149 + 2 * a) 2) (k := 12) (xi97 12) (ok_ca hS (show 0 ≤ a ∧ a < 3 by omega)) rfl rfl ?_
    refine e_iload (k := 13) (xi97 13) rfl ?_
    have t3 := ty_town1 tl0.1 
    have t4 := ty_town3 tl0.1 
    by_cases c1 : ((0 ≤ (M (149 + 2 * a) 2) ∧ (M (149 + 2 * a) 2) < M 1 1) ∧ 0 ≤ b ∧ b < M (3 + 7 * (M (149 + 2 * a) 2)) 1) ∧ 0 ≤ M (4 + 7 * (M (149 + 2 * a) 2)) b ∧ M (4 + 7 * (M (149 + 2 * a) 2)) b < M 1 3
    · skip
      refine e_call (k := 14) (v := some (.inr (88 + (M (4 + 7 * (M (149 + 2 * a) 2)) b)))) (h1 := (z, P, M)) (c1 := 0) (c2 := 0) (rest := []) (as := [.inr 1, .inl (M (149 + 2 * a) 2), .inl (b)]) (xi97 14) (by decide) xm43 rfl ⟨rfl, Nat.le_of_ble_eq_true rfl, by decide⟩ (Or.inr (x_okt (ok_town hS))) (k_wheelInT hS tl0.1 (M (149 + 2 * a) 2) b c1) ?_
      have t5 := ty_st1 tl0.1 (show 0 ≤ M (149 + 2 * a) 2 ∧ M (149 + 2 * a) 2 < 12 by omega)
      have t6 := ty_con (j := b) tl0.1 (show 0 ≤ M (149 + 2 * a) 2 ∧ M (149 + 2 * a) 2 < 12 by omega) (by omega)
      refine e_astore (k := 15) (xi97 15) (Nat.le_of_ble_eq_true rfl) (by omega) ?_
      show x_Ev 97 16 [.inr 0, .inl (a), .inl (b), .inr (149 + 2 * a), .inr (88 + (M (4 + 7 * (M (149 + 2 * a) 2)) b))] [] (0, 0) (z, P, M) _
      refine e_aload (k := 16) (xi97 16) rfl (by omega) ?_
      refine e_ifnull (k := 17) (xi97 17) (by omega) (fun q => absurd q (by omega)) (fun _ => ?_)
      refine e_aload (k := 18) (xi97 18) rfl (by omega) ?_
      refine e_ifnull (k := 19) (xi97 19) (by omega) (fun q => absurd q (by omega)) (fun _ => ?_)
      refine e_aload (k := 20) (xi97 20) rfl (by omega) ?_
      refine e_aload (k := 21) (xi97 21) rfl (by omega) ?_
      have t7 := ty_ca6 tl0.1 (show 0 ≤ a ∧ a < 3 by omega)
      refine e_call (k := 22) (v := some (.inl (x_b (x_w (M (149 + 2 * a) 3 + y_sz (M (88 + (M (4 + 7 * (M (149 + 2 * a) 2)) b)) 1)) ≤ M (149 + 2 * a) 1 ∧ M (149 + 2 * a) 6 < 8)))) (h1 := (z, P, M)) (c1 := 0) (c2 := 0) (rest := []) (as := [.inr (149 + 2 * a), .inr (88 + (M (4 + 7 * (M (149 + 2 * a) 2)) b))]) (xi97 22) (by decide) xm3 rfl ⟨rfl, Nat.le_of_ble_eq_true rfl, by decide⟩ (Or.inr (x_okt (ok_ca hS (show 0 ≤ a ∧ a < 3 by omega)))) (k_hasRoomFor hS tl0.1 a (M (4 + 7 * (M (149 + 2 * a) 2)) b) (show 0 ≤ a ∧ a < 3 by omega) (show 0 ≤ M (4 + 7 * (M (149 + 2 * a) 2)) b ∧ M (4 + 7 * (M (149 + 2 * a) 2)) b < 60 by omega) ) ?_
      refine e_b_ne (k := 23) (xi97 23) (fun c2 => ?_) (fun c2 => ?_)
      · skip
        refine e_aload (k := 26) (xi97 26) rfl (by decide) ?_
        refine e_getR (j := 0) (w := 1) (k := 27) (xi97 27) (ok_WS hS) rfl (sh_town hS) ?_
        refine e_aload (k := 28) (xi97 28) rfl (by omega) ?_
        refine e_aload (k := 29) (xi97 29) rfl (by omega) ?_
        refine e_callR (k := 30) (c1 := 0) (c2 := 0) (rest := []) (as := [.inr 1, .inr (149 + 2 * a), .inr (88 + (M (4 + 7 * (M (149 + 2 * a) 2)) b))]) (xi97 30) (by decide) xm62 rfl ⟨rfl, Nat.le_of_ble_eq_true rfl, by decide⟩ (Or.inr (x_okt (ok_town hS))) (k_takeFromDock hS tl0.1 a (M (4 + 7 * (M (149 + 2 * a) 2)) b) (show 0 ≤ a ∧ a < 3 by omega) (show 0 ≤ M (4 + 7 * (M (149 + 2 * a) 2)) b ∧ M (4 + 7 * (M (149 + 2 * a) 2)) b < 60 by omega) ) ?_
        rintro v_ h_ ⟨e8, tl9⟩
        cases e8
        have tl11 := tl_trans tl0 (tl9)
        have n12 := tl_n tl9
        show x_Ev 97 31 [.inr 0, .inl (a), .inl (b), .inr (149 + 2 * a), .inr (88 + (M (4 + 7 * (M (149 + 2 * a) 2)) b))] [] (0, 0) (z, P, (u_takeFromDock a (M (4 + 7 * (M (149 + 2 * a) 2)) b) M)) _
        refine e_aload (k := 31) (xi97 31) rfl (by omega) ?_
        refine e_getI (j := 0) (w := M (4 + 7 * (M (149 + 2 * a) 2)) b) (k := 32) (xi97 32) (ok_wh hS (show 0 ≤ M (4 + 7 * (M (149 + 2 * a) 2)) b ∧ M (4 + 7 * (M (149 + 2 * a) 2)) b < 60 by omega)) rfl ((nu_wh tl11.1 (show 0 ≤ M (4 + 7 * (M (149 + 2 * a) 2)) b ∧ M (4 + 7 * (M (149 + 2 * a) 2)) b < 60 by omega))) ?_
        refine e_iret (k := 33) (xi97 33) ?_
        exact y_fW (Q := fun _ => True) (show v_x_pick a b M = M (4 + 7 * (M (149 + 2 * a) 2)) b from by rw [v_x_pick, if_pos c0, if_pos c1, if_pos c2]) (show u_x_pick a b M = (u_takeFromDock a (M (4 + 7 * (M (149 + 2 * a) 2)) b) M) from by rw [u_x_pick, if_pos c0, if_pos c1, if_pos c2]) tl11 trivial
      · skip
        refine e_iconst (k := 24) (xi97 24) ?_
        refine e_iret (k := 25) (xi97 25) ?_
        exact y_fW (Q := fun _ => True) (show v_x_pick a b M = (-1) from by rw [v_x_pick, if_pos c0, if_pos c1, if_neg c2]) (show u_x_pick a b M = M from by rw [u_x_pick, if_pos c0, if_pos c1, if_neg c2]) tl0 trivial
    · skip
      refine e_call (k := 14) (v := some (.inr (-1))) (h1 := (z, P, M)) (c1 := 0) (c2 := 0) (rest := []) (as := [.inr 1, .inl (M (149 + 2 * a) 2), .inl (b)]) (xi97 14) (by decide) xm43 rfl ⟨rfl, Nat.le_of_ble_eq_true rfl, by decide⟩ (Or.inr (x_okt (ok_town hS))) (k_wheelInF hS tl0.1 (M (149 + 2 * a) 2) b c1) ?_
      refine e_astore (k := 15) (xi97 15) (Nat.le_of_ble_eq_true rfl) (by decide) ?_
      show x_Ev 97 16 [.inr 0, .inl (a), .inl (b), .inr (149 + 2 * a), .inr (-1)] [] (0, 0) (z, P, M) _
      refine e_aload (k := 16) (xi97 16) rfl (by omega) ?_
      refine e_ifnull (k := 17) (xi97 17) (by omega) (fun q => absurd q (by omega)) (fun _ => ?_)
      refine e_aload (k := 18) (xi97 18) rfl (by decide) ?_
      refine e_ifnull (k := 19) (xi97 19) (by omega) (fun _ => ?_) (fun q => absurd (by omega) q)
      refine e_iconst (k := 24) (xi97 24) ?_
      refine e_iret (k := 25) (xi97 25) ?_
      exact y_fW (Q := fun _ => True) (show v_x_pick a b M = (-1) from by rw [v_x_pick, if_pos c0, if_neg c1]) (show u_x_pick a b M = M from by rw [u_x_pick, if_pos c0, if_neg c1]) tl0 trivial
  · skip
    refine e_call (k := 3) (v := some (.inr (-1))) (h1 := (z, P, M)) (c1 := 0) (c2 := 0) (rest := []) (as := [.inr 1, .inl (a)]) (xi97 3) (by decide) xm42 rfl ⟨rfl, Nat.le_of_ble_eq_true rfl, by decide⟩ (Or.inr (x_okt (ok_town hS))) (k_cartAtF hS tl0.1 a c0) ?_
    refine e_astore (k := 4) (xi97 4) (Nat.le_of_ble_eq_true rfl) (by decide) ?_
    show x_Ev 97 5 [.inr 0, .inl (a), .inl (b), .inr (-1), x_un] [] (0, 0) (z, P, M) _
    refine e_aload (k := 5) (xi97 5) rfl (by decide) ?_
    refine e_ifnonnull (k := 6) (xi97 6) (by omega) (fun q => absurd (by omega) q) (fun _ => ?_)
    refine e_null (k := 7) (xi97 7) ?_
    refine e_goto (k := 8) (xi97 8) ?_
    refine e_astore (k := 15) (xi97 15) (Nat.le_of_ble_eq_true rfl) (by decide) ?_
    show x_Ev 97 16 [.inr 0, .inl (a), .inl (b), .inr (-1), .inr (-1)] [] (0, 0) (z, P, M) _
    refine e_aload (k := 16) (xi97 16) rfl (by decide) ?_
    refine e_ifnull (k := 17) (xi97 17) (by omega) (fun _ => ?_) (fun q => absurd (by omega) q)
    refine e_iconst (k := 24) (xi97 24) ?_
    refine e_iret (k := 25) (xi97 25) ?_
    exact y_fW (Q := fun _ => True) (show v_x_pick a b M = (-1) from by rw [v_x_pick, if_neg c0]) (show u_x_pick a b M = M from by rw [u_x_pick, if_neg c0]) tl0 trivial
def v_x_fetch (a b : Int) (M : Int → Int → Int) : Int := if 0 ≤ a ∧ a < M 1 5 then (if 0 ≤ b ∧ b < M 1 3 then (if ¬ M (88 + b) 3 = 3 then 0 else if ¬ M (88 + b) 4 = M (149 + 2 * a) 2 then 0 else if x_w (M (149 + 2 * a) 3 + y_sz (M (88 + b) 1)) ≤ M (149 + 2 * a) 1 ∧ M (149 + 2 * a) 6 < 8 then 1 else 0) else 0) else if 0 ≤ b ∧ b < M 1 3 then 0 else 0
def u_x_fetch (a b : Int) (M : Int → Int → Int) : Int → Int → Int := if 0 ≤ a ∧ a < M 1 5 then (if 0 ≤ b ∧ b < M 1 3 then (if ¬ M (88 + b) 3 = 3 then M else if ¬ M (88 + b) 4 = M (149 + 2 * a) 2 then M else if x_w (M (149 + 2 * a) 3 + y_sz (M (88 + b) 1)) ≤ M (149 + 2 * a) 1 ∧ M (149 + 2 * a) 6 < 8 then (u_takeOn a b M) else M) else M) else if 0 ≤ b ∧ b < M 1 3 then M else M
theorem k_x_fetch {z : Int} {P M : Int → Int → Int} (hS : x_Sh z P) (hT : y_TC M) (a : Int) (b : Int)   : x_CallR 98 [.inr 0, .inl (a), .inl (b)] (z, P, M) (fun q => q = (some (.inl (v_x_fetch a b M)), (z, P, u_x_fetch a b M)) ∧ y_TL 0 M (u_x_fetch a b M) ∧ True) := by
  have tl0 : y_TL 0 M M := tl_refl hT
  refine e_body (ls0 := [.inr 0, .inl (a), .inl (b), x_un, x_un]) xm98 rfl ?_
  refine e_aload (k := 0) (xi98 0) rfl (by decide) ?_
  refine e_getR (j := 0) (w := 1) (k := 1) (xi98 1) (ok_WS hS) rfl (sh_town hS) ?_
  refine e_iload (k := 2) (xi98 2) rfl ?_
  have t1 := ty_town5 tl0.1 
  by_cases c0 : 0 ≤ a ∧ a < M 1 5
  · skip
    refine e_call (k := 3) (v := some (.inr (149 + 2 * a))) (h1 := (z, P, M)) (c1 := 0) (c2 := 0) (rest := []) (as := [.inr 1, .inl (a)]) (xi98 3) (by decide) xm42 rfl ⟨rfl, Nat.le_of_ble_eq_true rfl, by decide⟩ (Or.inr (x_okt (ok_town hS))) (k_cartAtT hS tl0.1 a c0) ?_
    refine e_astore (k := 4) (xi98 4) (Nat.le_of_ble_eq_true rfl) (by omega) ?_
    show x_Ev 98 5 [.inr 0, .inl (a), .inl (b), .inr (149 + 2 * a), x_un] [] (0, 0) (z, P, M) _
    refine e_aload (k := 5) (xi98 5) rfl (by decide) ?_
    refine e_getR (j := 0) (w := 1) (k := 6) (xi98 6) (ok_WS hS) rfl (sh_town hS) ?_
    refine e_iload (k := 7) (xi98 7) rfl ?_
    have t2 := ty_town3 tl0.1 
    by_cases c1 : 0 ≤ b ∧ b < M 1 3
    · skip
      refine e_call (k := 8) (v := some (.inr (88 + b))) (h1 := (z, P, M)) (c1 := 0) (c2 := 0) (rest := []) (as := [.inr 1, .inl (b)]) (xi98 8) (by decide) xm41 rfl ⟨rfl, Nat.le_of_ble_eq_true rfl, by decide⟩ (Or.inr (x_okt (ok_town hS))) (k_wheelAtT hS tl0.1 b c1) ?_
      refine e_astore (k := 9) (xi98 9) (Nat.le_of_ble_eq_true rfl) (by omega) ?_
      show x_Ev 98 10 [.inr 0, .inl (a), .inl (b), .inr (149 + 2 * a), .inr (88 + b)] [] (0, 0) (z, P, M) _
      refine e_aload (k := 10) (xi98 10) rfl (by omega) ?_
      refine e_ifnull (k := 11) (xi98 11) (by omega) (fun q => absurd q (by omega)) (fun _ => ?_)
      refine e_aload (k := 12) (xi98 12) rfl (by omega) ?_
      refine e_ifnull (k := 13) (xi98 13) (by omega) (fun q => absurd q (by omega)) (fun _ => ?_)
      refine e_aload (k := 14) (xi98 14) rfl (by omega) ?_
      have t3 := ty_wh3 tl0.1 (show 0 ≤ b ∧ b < 60 by omega)
      refine e_getI (j := 3) (w := M (88 + b) 3) (k := 15) (xi98 15) (ok_wh hS (show 0 ≤ b ∧ b < 60 by omega)) rfl rfl ?_
      refine e_iconst (k := 16) (xi98 16) ?_
      refine e_c_ne (k := 17) (xi98 17) (fun c2 => ?_) (fun c2 => ?_)
      · skip
        refine e_iconst (k := 27) (xi98 27) ?_
        refine e_zret (k := 28) (xi98 28) (by first | decide | omega) ?_
        exact y_fW (Q := fun _ => True) (show v_x_fetch a b M = 0 from by rw [v_x_fetch, if_pos c0, if_pos c1, if_pos c2]) (show u_x_fetch a b M = M from by rw [u_x_fetch, if_pos c0, if_pos c1, if_pos c2]) tl0 trivial
      · skip
        refine e_aload (k := 18) (xi98 18) rfl (by omega) ?_
        have t4 := ty_wh4 tl0.1 (show 0 ≤ b ∧ b < 60 by omega)
        refine e_getI (j := 4) (w := M (88 + b) 4) (k := 19) (xi98 19) (ok_wh hS (show 0 ≤ b ∧ b < 60 by omega)) rfl rfl ?_
        refine e_aload (k := 20) (xi98 20) rfl (by omega) ?_
        have t5 := ty_ca2 tl0.1 (show 0 ≤ a ∧ a < 3 by omega)
        refine e_getI (j := 2) (w := M (149 + 2 * a) 2) (k := 21) (xi98 21) (ok_ca hS (show 0 ≤ a ∧ a < 3 by omega)) rfl rfl ?_
        refine e_c_ne (k := 22) (xi98 22) (fun c3 => ?_) (fun c3 => ?_)
        · skip
          refine e_iconst (k := 27) (xi98 27) ?_
          refine e_zret (k := 28) (xi98 28) (by first | decide | omega) ?_
          exact y_fW (Q := fun _ => True) (show v_x_fetch a b M = 0 from by rw [v_x_fetch, if_pos c0, if_pos c1, if_neg c2, if_pos c3]) (show u_x_fetch a b M = M from by rw [u_x_fetch, if_pos c0, if_pos c1, if_neg c2, if_pos c3]) tl0 trivial
        · skip
          refine e_aload (k := 23) (xi98 23) rfl (by omega) ?_
          refine e_aload (k := 24) (xi98 24) rfl (by omega) ?_
          have t6 := ty_ca6 tl0.1 (show 0 ≤ a ∧ a < 3 by omega)
          refine e_call (k := 25) (v := some (.inl (x_b (x_w (M (149 + 2 * a) 3 + y_sz (M (88 + b) 1)) ≤ M (149 + 2 * a) 1 ∧ M (149 + 2 * a) 6 < 8)))) (h1 := (z, P, M)) (c1 := 0) (c2 := 0) (rest := []) (as := [.inr (149 + 2 * a), .inr (88 + b)]) (xi98 25) (by decide) xm3 rfl ⟨rfl, Nat.le_of_ble_eq_true rfl, by decide⟩ (Or.inr (x_okt (ok_ca hS (show 0 ≤ a ∧ a < 3 by omega)))) (k_hasRoomFor hS tl0.1 a b (show 0 ≤ a ∧ a < 3 by omega) (show 0 ≤ b ∧ b < 60 by omega) ) ?_
          refine e_b_ne (k := 26) (xi98 26) (fun c4 => ?_) (fun c4 => ?_)
          · skip
            refine e_aload (k := 29) (xi98 29) rfl (by omega) ?_
            refine e_aload (k := 30) (xi98 30) rfl (by omega) ?_
            refine e_callR (k := 31) (c1 := 0) (c2 := 0) (rest := []) (as := [.inr (149 + 2 * a), .inr (88 + b)]) (xi98 31) (by decide) xm5 rfl ⟨rfl, Nat.le_of_ble_eq_true rfl, by decide⟩ (Or.inr (x_okt (ok_ca hS (show 0 ≤ a ∧ a < 3 by omega)))) (k_takeOn hS tl0.1 a b (show 0 ≤ a ∧ a < 3 by omega) (show 0 ≤ b ∧ b < 60 by omega) ) ?_
            rintro v_ h_ ⟨e7, tl8⟩
            cases e7
            have tl10 := tl_trans tl0 (tl8)
            have n11 := tl_n tl8
            show x_Ev 98 32 [.inr 0, .inl (a), .inl (b), .inr (149 + 2 * a), .inr (88 + b)] [] (0, 0) (z, P, (u_takeOn a b M)) _
            refine e_iconst (k := 32) (xi98 32) ?_
            refine e_zret (k := 33) (xi98 33) (by first | decide | omega) ?_
            exact y_fW (Q := fun _ => True) (show v_x_fetch a b M = 1 from by rw [v_x_fetch, if_pos c0, if_pos c1, if_neg c2, if_neg c3, if_pos c4]) (show u_x_fetch a b M = (u_takeOn a b M) from by rw [u_x_fetch, if_pos c0, if_pos c1, if_neg c2, if_neg c3, if_pos c4]) tl10 trivial
          · skip
            refine e_iconst (k := 27) (xi98 27) ?_
            refine e_zret (k := 28) (xi98 28) (by first | decide | omega) ?_
            exact y_fW (Q := fun _ => True) (show v_x_fetch a b M = 0 from by rw [v_x_fetch, if_pos c0, if_pos c1, if_neg c2, if_neg c3, if_neg c4]) (show u_x_fetch a b M = M from by rw [u_x_fetch, if_pos c0, if_pos c1, if_neg c2, if_neg c3, if_neg c4]) tl0 trivial
    · skip
      refine e_call (k := 8) (v := some (.inr (-1))) (h1 := (z, P, M)) (c1 := 0) (c2 := 0) (rest := []) (as := [.inr 1, .inl (b)]) (xi98 8) (by decide) xm41 rfl ⟨rfl, Nat.le_of_ble_eq_true rfl, by decide⟩ (Or.inr (x_okt (ok_town hS))) (k_wheelAtF hS tl0.1 b c1) ?_
      refine e_astore (k := 9) (xi98 9) (Nat.le_of_ble_eq_true rfl) (by decide) ?_
      show x_Ev 98 10 [.inr 0, .inl (a), .inl (b), .inr (149 + 2 * a), .inr (-1)] [] (0, 0) (z, P, M) _
      refine e_aload (k := 10) (xi98 10) rfl (by omega) ?_
      refine e_ifnull (k := 11) (xi98 11) (by omega) (fun q => absurd q (by omega)) (fun _ => ?_)
      refine e_aload (k := 12) (xi98 12) rfl (by decide) ?_
      refine e_ifnull (k := 13) (xi98 13) (by omega) (fun _ => ?_) (fun q => absurd (by omega) q)
      refine e_iconst (k := 27) (xi98 27) ?_
      refine e_zret (k := 28) (xi98 28) (by first | decide | omega) ?_
      exact y_fW (Q := fun _ => True) (show v_x_fetch a b M = 0 from by rw [v_x_fetch, if_pos c0, if_neg c1]) (show u_x_fetch a b M = M from by rw [u_x_fetch, if_pos c0, if_neg c1]) tl0 trivial
  · skip
    refine e_call (k := 3) (v := some (.inr (-1))) (h1 := (z, P, M)) (c1 := 0) (c2 := 0) (rest := []) (as := [.inr 1, .inl (a)]) (xi98 3) (by decide) xm42 rfl ⟨rfl, Nat.le_of_ble_eq_true rfl, by decide⟩ (Or.inr (x_okt (ok_town hS))) (k_cartAtF hS tl0.1 a c0) ?_
    refine e_astore (k := 4) (xi98 4) (Nat.le_of_ble_eq_true rfl) (by decide) ?_
    show x_Ev 98 5 [.inr 0, .inl (a), .inl (b), .inr (-1), x_un] [] (0, 0) (z, P, M) _
    refine e_aload (k := 5) (xi98 5) rfl (by decide) ?_
    refine e_getR (j := 0) (w := 1) (k := 6) (xi98 6) (ok_WS hS) rfl (sh_town hS) ?_
    refine e_iload (k := 7) (xi98 7) rfl ?_
    have t12 := ty_town3 tl0.1 
    by_cases c5 : 0 ≤ b ∧ b < M 1 3
    · skip
      refine e_call (k := 8) (v := some (.inr (88 + b))) (h1 := (z, P, M)) (c1 := 0) (c2 := 0) (rest := []) (as := [.inr 1, .inl (b)]) (xi98 8) (by decide) xm41 rfl ⟨rfl, Nat.le_of_ble_eq_true rfl, by decide⟩ (Or.inr (x_okt (ok_town hS))) (k_wheelAtT hS tl0.1 b c5) ?_
      refine e_astore (k := 9) (xi98 9) (Nat.le_of_ble_eq_true rfl) (by omega) ?_
      show x_Ev 98 10 [.inr 0, .inl (a), .inl (b), .inr (-1), .inr (88 + b)] [] (0, 0) (z, P, M) _
      refine e_aload (k := 10) (xi98 10) rfl (by decide) ?_
      refine e_ifnull (k := 11) (xi98 11) (by omega) (fun _ => ?_) (fun q => absurd (by omega) q)
      refine e_iconst (k := 27) (xi98 27) ?_
      refine e_zret (k := 28) (xi98 28) (by first | decide | omega) ?_
      exact y_fW (Q := fun _ => True) (show v_x_fetch a b M = 0 from by rw [v_x_fetch, if_neg c0, if_pos c5]) (show u_x_fetch a b M = M from by rw [u_x_fetch, if_neg c0, if_pos c5]) tl0 trivial
    · skip
      refine e_call (k := 8) (v := some (.inr (-1))) (h1 := (z, P, M)) (c1 := 0) (c2 := 0) (rest := []) (as := [.inr 1, .inl (b)]) (xi98 8) (by decide) xm41 rfl ⟨rfl, Nat.le_of_ble_eq_true rfl, by decide⟩ (Or.inr (x_okt (ok_town hS))) (k_wheelAtF hS tl0.1 b c5) ?_
      refine e_astore (k := 9) (xi98 9) (Nat.le_of_ble_eq_true rfl) (by decide) ?_
      show x_Ev 98 10 [.inr 0, .inl (a), .inl (b), .inr (-1), .inr (-1)] [] (0, 0) (z, P, M) _
      refine e_aload (k := 10) (xi98 10) rfl (by decide) ?_
      refine e_ifnull (k := 11) (xi98 11) (by omega) (fun _ => ?_) (fun q => absurd (by omega) q)
      refine e_iconst (k := 27) (xi98 27) ?_
      refine e_zret (k := 28) (xi98 28) (by first | decide | omega) ?_
      exact y_fW (Q := fun _ => True) (show v_x_fetch a b M = 0 from by rw [v_x_fetch, if_neg c0, if_neg c5]) (show u_x_fetch a b M = M from by rw [u_x_fetch, if_neg c0, if_neg c5]) tl0 trivial
def v_x_drop (a : Int) (M : Int → Int → Int) : Int := if 0 ≤ a ∧ a < M 1 5 then (if 0 ≤ (v_wheelOn a 0 M) ∧ (v_wheelOn a 0 M) < M 1 3 then (if ¬ v_giveFirst a ((v_wheelOn a 0 M)) M = 0 then ((u_giveFirst a ((v_wheelOn a 0 M)) M)) (88 + ((v_wheelOn a 0 M))) 5 else (-1)) else (-1)) else (-1)
def u_x_drop (a : Int) (M : Int → Int → Int) : Int → Int → Int := if 0 ≤ a ∧ a < M 1 5 then (if 0 ≤ (v_wheelOn a 0 M) ∧ (v_wheelOn a 0 M) < M 1 3 then (if ¬ v_giveFirst a ((v_wheelOn a 0 M)) M = 0 then (x_up ((u_giveFirst a ((v_wheelOn a 0 M)) M)) (88 + ((v_wheelOn a 0 M))) 6 0) else (u_giveFirst a ((v_wheelOn a 0 M)) M)) else M) else M
theorem k_x_drop {z : Int} {P M : Int → Int → Int} (hS : x_Sh z P) (hT : y_TC M) (a : Int)   : x_CallR 99 [.inr 0, .inl (a)] (z, P, M) (fun q => q = (some (.inl (v_x_drop a M)), (z, P, u_x_drop a M)) ∧ y_TL 0 M (u_x_drop a M) ∧ True) := by
  have tl0 : y_TL 0 M M := tl_refl hT
  refine e_body (ls0 := [.inr 0, .inl (a), x_un, x_un]) xm99 rfl ?_
  refine e_aload (k := 0) (xi99 0) rfl (by decide) ?_
  refine e_getR (j := 0) (w := 1) (k := 1) (xi99 1) (ok_WS hS) rfl (sh_town hS) ?_
  refine e_iload (k := 2) (xi99 2) rfl ?_
  have t1 := ty_town5 tl0.1 
  by_cases c0 : 0 ≤ a ∧ a < M 1 5
  · skip
    refine e_call (k := 3) (v := some (.inr (149 + 2 * a))) (h1 := (z, P, M)) (c1 := 0) (c2 := 0) (rest := []) (as := [.inr 1, .inl (a)]) (xi99 3) (by decide) xm42 rfl ⟨rfl, Nat.le_of_ble_eq_true rfl, by decide⟩ (Or.inr (x_okt (ok_town hS))) (k_cartAtT hS tl0.1 a c0) ?_
    refine e_astore (k := 4) (xi99 4) (Nat.le_of_ble_eq_true rfl) (by omega) ?_
    show x_Ev 99 5 [.inr 0, .inl (a), .inr (149 + 2 * a), x_un] [] (0, 0) (z, P, M) _
    refine e_aload (k := 5) (xi99 5) rfl (by omega) ?_
    refine e_ifnonnull (k := 6) (xi99 6) (by omega) (fun _ => ?_) (fun q => absurd q (by omega))
    refine e_aload (k := 9) (xi99 9) rfl (by decide) ?_
    refine e_getR (j := 0) (w := 1) (k := 10) (xi99 10) (ok_WS hS) rfl (sh_town hS) ?_
    refine e_aload (k := 11) (xi99 11) rfl (by omega) ?_
    refine e_iconst (k := 12) (xi99 12) ?_
    refine e_callR (k := 13) (c1 := 0) (c2 := 0) (rest := [.inr 1]) (as := [.inr (149 + 2 * a), .inl 0]) (xi99 13) (by decide) xm4 rfl ⟨rfl, Nat.le_of_ble_eq_true rfl, by decide⟩ (Or.inr (x_okt (ok_ca hS (show 0 ≤ a ∧ a < 3 by omega)))) (k_wheelOn hS tl0.1 a 0 (show 0 ≤ a ∧ a < 3 by omega) ) ?_
    rintro v_ h_ ⟨e2, q4⟩
    cases e2
    show x_Ev 99 14 [.inr 0, .inl (a), .inr (149 + 2 * a), x_un] [.inl (v_wheelOn a 0 M), .inr 1] (0, 0) (z, P, M) _
    have t5 := ty_town3 tl0.1 
    by_cases c1 : 0 ≤ (v_wheelOn a 0 M) ∧ (v_wheelOn a 0 M) < M 1 3
    · skip
      refine e_call (k := 14) (v := some (.inr (88 + ((v_wheelOn a 0 M))))) (h1 := (z, P, M)) (c1 := 0) (c2 := 0) (rest := []) (as := [.inr 1, .inl (v_wheelOn a 0 M)]) (xi99 14) (by decide) xm41 rfl ⟨rfl, Nat.le_of_ble_eq_true rfl, by decide⟩ (Or.inr (x_okt (ok_town hS))) (k_wheelAtT hS tl0.1 (v_wheelOn a 0 M) c1) ?_
      refine e_astore (k := 15) (xi99 15) (Nat.le_of_ble_eq_true rfl) (by omega) ?_
      show x_Ev 99 16 [.inr 0, .inl (a), .inr (149 + 2 * a), .inr (88 + ((v_wheelOn a 0 M)))] [] (0, 0) (z, P, M) _
      refine e_aload (k := 16) (xi99 16) rfl (by omega) ?_
      refine e_ifnull (k := 17) (xi99 17) (by omega) (fun q => absurd q (by omega)) (fun _ => ?_)
      refine e_aload (k := 18) (xi99 18) rfl (by omega) ?_
      refine e_ifnull (k := 19) (xi99 19) (by omega) (fun q => absurd q (by omega)) (fun _ => ?_)
      refine e_aload (k := 20) (xi99 20) rfl (by decide) ?_
      refine e_getR (j := 0) (w := 1) (k := 21) (xi99 21) (ok_WS hS) rfl (sh_town hS) ?_
      refine e_aload (k := 22) (xi99 22) rfl (by omega) ?_
      refine e_aload (k := 23) (xi99 23) rfl (by omega) ?_
      refine e_callR (k := 24) (c1 := 0) (c2 := 0) (rest := []) (as := [.inr 1, .inr (149 + 2 * a), .inr (88 + ((v_wheelOn a 0 M)))]) (xi99 24) (by decide) xm63 rfl ⟨rfl, Nat.le_of_ble_eq_true rfl, by decide⟩ (Or.inr (x_okt (ok_town hS))) (k_giveFirst hS tl0.1 a ((v_wheelOn a 0 M)) (show 0 ≤ a ∧ a < 3 by omega) (show 0 ≤ (v_wheelOn a 0 M) ∧ (v_wheelOn a 0 M) < 60 by omega) ) ?_
      rintro v_ h_ ⟨e6, tl7, q8⟩
      cases e6
      have tl9 := tl_trans tl0 (tl7)
      have n10 := tl_n tl7
      show x_Ev 99 25 [.inr 0, .inl (a), .inr (149 + 2 * a), .inr (88 + ((v_wheelOn a 0 M)))] [.inl (v_giveFirst a ((v_wheelOn a 0 M)) M)] (0, 0) (z, P, (u_giveFirst a ((v_wheelOn a 0 M)) M)) _
      refine e_z_ne (k := 25) (xi99 25) (fun c2 => ?_) (fun c2 => ?_)
      · skip
        refine e_aload (k := 28) (xi99 28) rfl (by omega) ?_
        refine e_iconst (k := 29) (xi99 29) ?_
        refine e_putI (j := 6) (k := 30) (xi99 30) (ok_wh hS (show 0 ≤ (v_wheelOn a 0 M) ∧ (v_wheelOn a 0 M) < 60 by omega)) rfl ?_
        have tl11 : y_TL 0 M (x_up ((u_giveFirst a ((v_wheelOn a 0 M)) M)) (88 + ((v_wheelOn a 0 M))) 6 0) := tl_up tl9 (sl_wh6 (show 0 ≤ (v_wheelOn a 0 M) ∧ (v_wheelOn a 0 M) < 60 by omega) ) (nf_wh6 (show 0 ≤ (v_wheelOn a 0 M) ∧ (v_wheelOn a 0 M) < 60 by omega))
        refine e_aload (k := 31) (xi99 31) rfl (by omega) ?_
        have t12 := ty_wh5 tl9.1 (show 0 ≤ (v_wheelOn a 0 M) ∧ (v_wheelOn a 0 M) < 60 by omega)
        refine e_getI (j := 5) (w := ((u_giveFirst a ((v_wheelOn a 0 M)) M)) (88 + ((v_wheelOn a 0 M))) 5) (k := 32) (xi99 32) (ok_wh hS (show 0 ≤ (v_wheelOn a 0 M) ∧ (v_wheelOn a 0 M) < 60 by omega)) rfl (((x_up_nk (by omega)).trans rfl)) ?_
        refine e_iret (k := 33) (xi99 33) ?_
        exact y_fW (Q := fun _ => True) (show v_x_drop a M = ((u_giveFirst a ((v_wheelOn a 0 M)) M)) (88 + ((v_wheelOn a 0 M))) 5 from by rw [v_x_drop, if_pos c0, if_pos c1, if_pos c2]) (show u_x_drop a M = (x_up ((u_giveFirst a ((v_wheelOn a 0 M)) M)) (88 + ((v_wheelOn a 0 M))) 6 0) from by rw [u_x_drop, if_pos c0, if_pos c1, if_pos c2]) tl11 trivial
      · skip
        refine e_iconst (k := 26) (xi99 26) ?_
        refine e_iret (k := 27) (xi99 27) ?_
        exact y_fW (Q := fun _ => True) (show v_x_drop a M = (-1) from by rw [v_x_drop, if_pos c0, if_pos c1, if_neg c2]) (show u_x_drop a M = (u_giveFirst a ((v_wheelOn a 0 M)) M) from by rw [u_x_drop, if_pos c0, if_pos c1, if_neg c2]) tl9 trivial
    · skip
      refine e_call (k := 14) (v := some (.inr (-1))) (h1 := (z, P, M)) (c1 := 0) (c2 := 0) (rest := []) (as := [.inr 1, .inl (v_wheelOn a 0 M)]) (xi99 14) (by decide) xm41 rfl ⟨rfl, Nat.le_of_ble_eq_true rfl, by decide⟩ (Or.inr (x_okt (ok_town hS))) (k_wheelAtF hS tl0.1 (v_wheelOn a 0 M) c1) ?_
      refine e_astore (k := 15) (xi99 15) (Nat.le_of_ble_eq_true rfl) (by decide) ?_
      show x_Ev 99 16 [.inr 0, .inl (a), .inr (149 + 2 * a), .inr (-1)] [] (0, 0) (z, P, M) _
      refine e_aload (k := 16) (xi99 16) rfl (by omega) ?_
      refine e_ifnull (k := 17) (xi99 17) (by omega) (fun q => absurd q (by omega)) (fun _ => ?_)
      refine e_aload (k := 18) (xi99 18) rfl (by decide) ?_
      refine e_ifnull (k := 19) (xi99 19) (by omega) (fun _ => ?_) (fun q => absurd (by omega) q)
      refine e_iconst (k := 26) (xi99 26) ?_
      refine e_iret (k := 27) (xi99 27) ?_
      exact y_fW (Q := fun _ => True) (show v_x_drop a M = (-1) from by rw [v_x_drop, if_pos c0, if_neg c1]) (show u_x_drop a M = M from by rw [u_x_drop, if_pos c0, if_neg c1]) tl0 trivial
  · skip
    refine e_call (k := 3) (v := some (.inr (-1))) (h1 := (z, P, M)) (c1 := 0) (c2 := 0) (rest := []) (as := [.inr 1, .inl (a)]) (xi99 3) (by decide) xm42 rfl ⟨rfl, Nat.le_of_ble_eq_true rfl, by decide⟩ (Or.inr (x_okt (ok_town hS))) (k_cartAtF hS tl0.1 a c0) ?_
    refine e_astore (k := 4) (xi99 4) (Nat.le_of_ble_eq_true rfl) (by decide) ?_
    show x_Ev 99 5 [.inr 0, .inl (a), .inr (-1), x_un] [] (0, 0) (z, P, M) _
    refine e_aload (k := 5) (xi99 5) rfl (by decide) ?_
    refine e_ifnonnull (k := 6) (xi99 6) (by omega) (fun q => absurd (by omega) q) (fun _ => ?_)
    refine e_null (k := 7) (xi99 7) ?_
    refine e_goto (k := 8) (xi99 8) ?_
    refine e_astore (k := 15) (xi99 15) (Nat.le_of_ble_eq_true rfl) (by decide) ?_
    show x_Ev 99 16 [.inr 0, .inl (a), .inr (-1), .inr (-1)] [] (0, 0) (z, P, M) _
    refine e_aload (k := 16) (xi99 16) rfl (by decide) ?_
    refine e_ifnull (k := 17) (xi99 17) (by omega) (fun _ => ?_) (fun q => absurd (by omega) q)
    refine e_iconst (k := 26) (xi99 26) ?_
    refine e_iret (k := 27) (xi99 27) ?_
    exact y_fW (Q := fun _ => True) (show v_x_drop a M = (-1) from by rw [v_x_drop, if_neg c0]) (show u_x_drop a M = M from by rw [u_x_drop, if_neg c0]) tl0 trivial
def v_x_load (a b : Int) (M : Int → Int → Int) : Int := if 0 ≤ a ∧ a < M 1 5 then (if 0 ≤ b then (if b = 0 then M (149 + 2 * a) 1 else if b = 1 then M (149 + 2 * a) 2 else if b = 2 then M (149 + 2 * a) 3 else if b = 3 then M (149 + 2 * a) 4 else v_wheelOn a ((-4) + b) M) else (-3)) else (-3)
theorem k_x_load {z : Int} {P M : Int → Int → Int} (hS : x_Sh z P) (hT : y_TC M) (a : Int) (b : Int)  (hb : b < 2147483648) : x_CallR 100 [.inr 0, .inl (a), .inl (b)] (z, P, M) (fun q => q = (some (.inl (v_x_load a b M)), (z, P, M)) ∧ True) := by
  refine e_body (ls0 := [.inr 0, .inl (a), .inl (b), x_un]) xm100 rfl ?_
  refine e_aload (k := 0) (xi100 0) rfl (by decide) ?_
  refine e_getR (j := 0) (w := 1) (k := 1) (xi100 1) (ok_WS hS) rfl (sh_town hS) ?_
  refine e_iload (k := 2) (xi100 2) rfl ?_
  have t1 := ty_town5 hT 
  by_cases c0 : 0 ≤ a ∧ a < M 1 5
  · skip
    refine e_call (k := 3) (v := some (.inr (149 + 2 * a))) (h1 := (z, P, M)) (c1 := 0) (c2 := 0) (rest := []) (as := [.inr 1, .inl (a)]) (xi100 3) (by decide) xm42 rfl ⟨rfl, Nat.le_of_ble_eq_true rfl, by decide⟩ (Or.inr (x_okt (ok_town hS))) (k_cartAtT hS hT a c0) ?_
    refine e_astore (k := 4) (xi100 4) (Nat.le_of_ble_eq_true rfl) (by omega) ?_
    show x_Ev 100 5 [.inr 0, .inl (a), .inl (b), .inr (149 + 2 * a)] [] (0, 0) (z, P, M) _
    refine e_aload (k := 5) (xi100 5) rfl (by omega) ?_
    refine e_ifnull (k := 6) (xi100 6) (by omega) (fun q => absurd q (by omega)) (fun _ => ?_)
    refine e_iload (k := 7) (xi100 7) rfl ?_
    refine e_z_ge (k := 8) (xi100 8) (fun c1 => ?_) (fun c1 => ?_)
    · skip
      refine e_iload (k := 11) (xi100 11) rfl ?_
      by_cases c2 : b = 0
      · skip
        refine e_sw (t2 := 13) (k := 12) (xi100 12) (by rw [c2]; decide +kernel) ?_
        refine e_aload (k := 13) (xi100 13) rfl (by omega) ?_
        have t2 := ty_ca1 hT (show 0 ≤ a ∧ a < 3 by omega)
        refine e_getI (j := 1) (w := M (149 + 2 * a) 1) (k := 14) (xi100 14) (ok_ca hS (show 0 ≤ a ∧ a < 3 by omega)) rfl rfl ?_
        refine e_iret (k := 15) (xi100 15) ?_
        exact y_fV (Q := fun _ => True) (show v_x_load a b M = M (149 + 2 * a) 1 from by rw [v_x_load, if_pos c0, if_pos c1, if_pos c2]) trivial
      by_cases c3 : b = 1
      · skip
        refine e_sw (t2 := 16) (k := 12) (xi100 12) (by rw [c3]; decide +kernel) ?_
        refine e_aload (k := 16) (xi100 16) rfl (by omega) ?_
        have t3 := ty_ca2 hT (show 0 ≤ a ∧ a < 3 by omega)
        refine e_getI (j := 2) (w := M (149 + 2 * a) 2) (k := 17) (xi100 17) (ok_ca hS (show 0 ≤ a ∧ a < 3 by omega)) rfl rfl ?_
        refine e_iret (k := 18) (xi100 18) ?_
        exact y_fV (Q := fun _ => True) (show v_x_load a b M = M (149 + 2 * a) 2 from by rw [v_x_load, if_pos c0, if_pos c1, if_neg c2, if_pos c3]) trivial
      by_cases c4 : b = 2
      · skip
        refine e_sw (t2 := 19) (k := 12) (xi100 12) (by rw [c4]; decide +kernel) ?_
        refine e_aload (k := 19) (xi100 19) rfl (by omega) ?_
        refine e_getI (j := 3) (w := M (149 + 2 * a) 3) (k := 20) (xi100 20) (ok_ca hS (show 0 ≤ a ∧ a < 3 by omega)) rfl rfl ?_
        refine e_iret (k := 21) (xi100 21) ?_
        exact y_fV (Q := fun _ => True) (show v_x_load a b M = M (149 + 2 * a) 3 from by rw [v_x_load, if_pos c0, if_pos c1, if_neg c2, if_neg c3, if_pos c4]) trivial
      by_cases c5 : b = 3
      · skip
        refine e_sw (t2 := 22) (k := 12) (xi100 12) (by rw [c5]; decide +kernel) ?_
        refine e_aload (k := 22) (xi100 22) rfl (by omega) ?_
        refine e_getI (j := 4) (w := M (149 + 2 * a) 4) (k := 23) (xi100 23) (ok_ca hS (show 0 ≤ a ∧ a < 3 by omega)) rfl rfl ?_
        refine e_iret (k := 24) (xi100 24) ?_
        exact y_fV (Q := fun _ => True) (show v_x_load a b M = M (149 + 2 * a) 4 from by rw [v_x_load, if_pos c0, if_pos c1, if_neg c2, if_neg c3, if_neg c4, if_pos c5]) trivial
      refine e_sw (k := 12) (t2 := 25) (xi100 12) (if_pos (by omega)) ?_
      refine e_aload (k := 25) (xi100 25) rfl (by omega) ?_
      refine e_iload (k := 26) (xi100 26) rfl ?_
      refine e_iconst (k := 27) (xi100 27) ?_
      refine e_isub (w := (-4) + b) (k := 28) (xi100 28) (x_wn (by omega)) ?_
      refine e_callR (k := 29) (c1 := 0) (c2 := 0) (rest := []) (as := [.inr (149 + 2 * a), .inl ((-4) + b)]) (xi100 29) (by decide) xm4 rfl ⟨rfl, Nat.le_of_ble_eq_true rfl, by decide⟩ (Or.inr (x_okt (ok_ca hS (show 0 ≤ a ∧ a < 3 by omega)))) (k_wheelOn hS hT a ((-4) + b) (show 0 ≤ a ∧ a < 3 by omega) ) ?_
      rintro v_ h_ ⟨e4, q6⟩
      cases e4
      show x_Ev 100 30 [.inr 0, .inl (a), .inl (b), .inr (149 + 2 * a)] [.inl (v_wheelOn a ((-4) + b) M)] (0, 0) (z, P, M) _
      refine e_iret (k := 30) (xi100 30) ?_
      exact y_fV (Q := fun _ => True) (show v_x_load a b M = v_wheelOn a ((-4) + b) M from by rw [v_x_load, if_pos c0, if_pos c1, if_neg c2, if_neg c3, if_neg c4, if_neg c5]) trivial
    · skip
      refine e_iconst (k := 9) (xi100 9) ?_
      refine e_iret (k := 10) (xi100 10) ?_
      exact y_fV (Q := fun _ => True) (show v_x_load a b M = (-3) from by rw [v_x_load, if_pos c0, if_neg c1]) trivial
  · skip
    refine e_call (k := 3) (v := some (.inr (-1))) (h1 := (z, P, M)) (c1 := 0) (c2 := 0) (rest := []) (as := [.inr 1, .inl (a)]) (xi100 3) (by decide) xm42 rfl ⟨rfl, Nat.le_of_ble_eq_true rfl, by decide⟩ (Or.inr (x_okt (ok_town hS))) (k_cartAtF hS hT a c0) ?_
    refine e_astore (k := 4) (xi100 4) (Nat.le_of_ble_eq_true rfl) (by decide) ?_
    show x_Ev 100 5 [.inr 0, .inl (a), .inl (b), .inr (-1)] [] (0, 0) (z, P, M) _
    refine e_aload (k := 5) (xi100 5) rfl (by decide) ?_
    refine e_ifnull (k := 6) (xi100 6) (by omega) (fun _ => ?_) (fun q => absurd (by omega) q)
    refine e_iconst (k := 9) (xi100 9) ?_
    refine e_iret (k := 10) (xi100 10) ?_
    exact y_fV (Q := fun _ => True) (show v_x_load a b M = (-3) from by rw [v_x_load, if_neg c0]) trivial
def v_x_demand (a b d e : Int) (M : Int → Int → Int) : Int := if 0 ≤ a ∧ a < M 1 1 then (if v_tellHour a b d e M = 0 then 0 else 1) else 0
def u_x_demand (a b d e : Int) (M : Int → Int → Int) : Int → Int → Int := if 0 ≤ a ∧ a < M 1 1 then (if v_tellHour a b d e M = 0 then (u_tellHour a b d e M) else (u_tellHour a b d e M)) else M
theorem k_x_demand {z : Int} {P M : Int → Int → Int} (hS : x_Sh z P) (hT : y_TC M) (a : Int) (b : Int) (d : Int) (e : Int)   : x_CallR 101 [.inr 0, .inl (a), .inl (b), .inl (d), .inl (e)] (z, P, M) (fun q => q = (some (.inl (v_x_demand a b d e M)), (z, P, u_x_demand a b d e M)) ∧ y_TL 2 M (u_x_demand a b d e M) ∧ True) := by
  have tl0 : y_TL 2 M M := tl_refl hT
  refine e_body (ls0 := [.inr 0, .inl (a), .inl (b), .inl (d), .inl (e), x_un]) xm101 rfl ?_
  refine e_aload (k := 0) (xi101 0) rfl (by decide) ?_
  refine e_getR (j := 0) (w := 1) (k := 1) (xi101 1) (ok_WS hS) rfl (sh_town hS) ?_
  refine e_iload (k := 2) (xi101 2) rfl ?_
  have t1 := ty_town1 tl0.1 
  by_cases c0 : 0 ≤ a ∧ a < M 1 1
  · skip
    refine e_call (k := 3) (v := some (.inr (3 + 7 * a))) (h1 := (z, P, M)) (c1 := 0) (c2 := 0) (rest := []) (as := [.inr 1, .inl (a)]) (xi101 3) (by decide) xm40 rfl ⟨rfl, Nat.le_of_ble_eq_true rfl, by decide⟩ (Or.inr (x_okt (ok_town hS))) (k_standAtT hS tl0.1 a c0) ?_
    refine e_astore (k := 4) (xi101 4) (Nat.le_of_ble_eq_true rfl) (by omega) ?_
    show x_Ev 101 5 [.inr 0, .inl (a), .inl (b), .inl (d), .inl (e), .inr (3 + 7 * a)] [] (0, 0) (z, P, M) _
    refine e_aload (k := 5) (xi101 5) rfl (by omega) ?_
    refine e_ifnull (k := 6) (xi101 6) (by omega) (fun q => absurd q (by omega)) (fun _ => ?_)
    refine e_aload (k := 7) (xi101 7) rfl (by omega) ?_
    refine e_getR (j := 8) (w := 7 + 7 * a) (k := 8) (xi101 8) (ok_st hS (show 0 ≤ a ∧ a < 12 by omega)) rfl (sh_dem hS (show 0 ≤ a ∧ a < 12 by omega)) ?_
    refine e_iload (k := 9) (xi101 9) rfl ?_
    refine e_iload (k := 10) (xi101 10) rfl ?_
    refine e_iload (k := 11) (xi101 11) rfl ?_
    refine e_callR (k := 12) (c1 := 0) (c2 := 0) (rest := []) (as := [.inr (7 + 7 * a), .inl (b), .inl (d), .inl (e)]) (xi101 12) (by decide) xm11 rfl ⟨rfl, Nat.le_of_ble_eq_true rfl, by decide⟩ (Or.inr (x_okt (ok_dem hS (show 0 ≤ a ∧ a < 12 by omega)))) (k_tellHour hS tl0.1 a b d e (show 0 ≤ a ∧ a < 12 by omega) ) ?_
    rintro v_ h_ ⟨e2, tl3, q4⟩
    cases e2
    have tl5 := tl_trans tl0 (tl_24 tl3)
    have n6 := tl_n4 tl3
    show x_Ev 101 13 [.inr 0, .inl (a), .inl (b), .inl (d), .inl (e), .inr (3 + 7 * a)] [.inl (v_tellHour a b d e M)] (0, 0) (z, P, (u_tellHour a b d e M)) _
    refine e_z_eq (k := 13) (xi101 13) (fun c1 => ?_) (fun c1 => ?_)
    · skip
      refine e_iconst (k := 16) (xi101 16) ?_
      refine e_zret (k := 17) (xi101 17) (by first | decide | omega) ?_
      exact y_fW (Q := fun _ => True) (show v_x_demand a b d e M = 0 from by rw [v_x_demand, if_pos c0, if_pos c1]) (show u_x_demand a b d e M = (u_tellHour a b d e M) from by rw [u_x_demand, if_pos c0, if_pos c1]) tl5 trivial
    · skip
      refine e_iconst (k := 14) (xi101 14) ?_
      refine e_goto (k := 15) (xi101 15) ?_
      refine e_zret (k := 17) (xi101 17) (by first | decide | omega) ?_
      exact y_fW (Q := fun _ => True) (show v_x_demand a b d e M = 1 from by rw [v_x_demand, if_pos c0, if_neg c1]) (show u_x_demand a b d e M = (u_tellHour a b d e M) from by rw [u_x_demand, if_pos c0, if_neg c1]) tl5 trivial
  · skip
    refine e_call (k := 3) (v := some (.inr (-1))) (h1 := (z, P, M)) (c1 := 0) (c2 := 0) (rest := []) (as := [.inr 1, .inl (a)]) (xi101 3) (by decide) xm40 rfl ⟨rfl, Nat.le_of_ble_eq_true rfl, by decide⟩ (Or.inr (x_okt (ok_town hS))) (k_standAtF hS tl0.1 a c0) ?_
    refine e_astore (k := 4) (xi101 4) (Nat.le_of_ble_eq_true rfl) (by decide) ?_
    show x_Ev 101 5 [.inr 0, .inl (a), .inl (b), .inl (d), .inl (e), .inr (-1)] [] (0, 0) (z, P, M) _
    refine e_aload (k := 5) (xi101 5) rfl (by decide) ?_
    refine e_ifnull (k := 6) (xi101 6) (by omega) (fun _ => ?_) (fun q => absurd (by omega) q)
    refine e_iconst (k := 16) (xi101 16) ?_
    refine e_zret (k := 17) (xi101 17) (by first | decide | omega) ?_
    exact y_fW (Q := fun _ => True) (show v_x_demand a b d e M = 0 from by rw [v_x_demand, if_neg c0]) (show u_x_demand a b d e M = M from by rw [u_x_demand, if_neg c0]) tl0 trivial
def v_x_runs (a b d : Int) (M : Int → Int → Int) : Int := if 0 ≤ a ∧ a < M 1 1 then (if b < 0 then (-3) else if b ≤ v_usableDocks a M then v_runFrom a b (v_usableDocks a M) d M else (-3)) else (-3)
theorem k_x_runs {z : Int} {P M : Int → Int → Int} (hS : x_Sh z P) (hT : y_TC M) (a : Int) (b : Int) (d : Int)   : x_CallR 102 [.inr 0, .inl (a), .inl (b), .inl (d)] (z, P, M) (fun q => q = (some (.inl (v_x_runs a b d M)), (z, P, M)) ∧ True) := by
  refine e_body (ls0 := [.inr 0, .inl (a), .inl (b), .inl (d), x_un]) xm102 rfl ?_
  refine e_aload (k := 0) (xi102 0) rfl (by decide) ?_
  refine e_getR (j := 0) (w := 1) (k := 1) (xi102 1) (ok_WS hS) rfl (sh_town hS) ?_
  refine e_iload (k := 2) (xi102 2) rfl ?_
  have t1 := ty_town1 hT 
  by_cases c0 : 0 ≤ a ∧ a < M 1 1
  · skip
    refine e_call (k := 3) (v := some (.inr (3 + 7 * a))) (h1 := (z, P, M)) (c1 := 0) (c2 := 0) (rest := []) (as := [.inr 1, .inl (a)]) (xi102 3) (by decide) xm40 rfl ⟨rfl, Nat.le_of_ble_eq_true rfl, by decide⟩ (Or.inr (x_okt (ok_town hS))) (k_standAtT hS hT a c0) ?_
    refine e_astore (k := 4) (xi102 4) (Nat.le_of_ble_eq_true rfl) (by omega) ?_
    show x_Ev 102 5 [.inr 0, .inl (a), .inl (b), .inl (d), .inr (3 + 7 * a)] [] (0, 0) (z, P, M) _
    refine e_aload (k := 5) (xi102 5) rfl (by omega) ?_
    refine e_ifnull (k := 6) (xi102 6) (by omega) (fun q => absurd q (by omega)) (fun _ => ?_)
    refine e_iload (k := 7) (xi102 7) rfl ?_
    refine e_z_lt (k := 8) (xi102 8) (fun c1 => ?_) (fun c1 => ?_)
    · skip
      refine e_iconst (k := 13) (xi102 13) ?_
      refine e_iret (k := 14) (xi102 14) ?_
      exact y_fV (Q := fun _ => True) (show v_x_runs a b d M = (-3) from by rw [v_x_runs, if_pos c0, if_pos c1]) trivial
    · skip
      refine e_iload (k := 9) (xi102 9) rfl ?_
      refine e_aload (k := 10) (xi102 10) rfl (by omega) ?_
      refine e_callR (k := 11) (c1 := 0) (c2 := 0) (rest := [.inl (b)]) (as := [.inr (3 + 7 * a)]) (xi102 11) (by decide) xm23 rfl ⟨rfl, Nat.le_of_ble_eq_true rfl, by decide⟩ (Or.inr (x_okt (ok_st hS (show 0 ≤ a ∧ a < 12 by omega)))) (k_usableDocks hS hT a (show 0 ≤ a ∧ a < 12 by omega) ) ?_
      rintro v_ h_ ⟨e2, q4⟩
      cases e2
      show x_Ev 102 12 [.inr 0, .inl (a), .inl (b), .inl (d), .inr (3 + 7 * a)] [.inl (v_usableDocks a M), .inl (b)] (0, 0) (z, P, M) _
      refine e_c_le (k := 12) (xi102 12) (fun c2 => ?_) (fun c2 => ?_)
      · skip
        refine e_aload (k := 15) (xi102 15) rfl (by omega) ?_
        refine e_getR (j := 8) (w := 7 + 7 * a) (k := 16) (xi102 16) (ok_st hS (show 0 ≤ a ∧ a < 12 by omega)) rfl (sh_dem hS (show 0 ≤ a ∧ a < 12 by omega)) ?_
        refine e_iload (k := 17) (xi102 17) rfl ?_
        refine e_aload (k := 18) (xi102 18) rfl (by omega) ?_
        refine e_callR (k := 19) (c1 := 0) (c2 := 0) (rest := [.inl (b), .inr (7 + 7 * a)]) (as := [.inr (3 + 7 * a)]) (xi102 19) (by decide) xm23 rfl ⟨rfl, Nat.le_of_ble_eq_true rfl, by decide⟩ (Or.inr (x_okt (ok_st hS (show 0 ≤ a ∧ a < 12 by omega)))) (k_usableDocks hS hT a (show 0 ≤ a ∧ a < 12 by omega) ) ?_
        rintro v_ h_ ⟨e5, q7⟩
        cases e5
        show x_Ev 102 20 [.inr 0, .inl (a), .inl (b), .inl (d), .inr (3 + 7 * a)] [.inl (v_usableDocks a M), .inl (b), .inr (7 + 7 * a)] (0, 0) (z, P, M) _
        refine e_iload (k := 20) (xi102 20) rfl ?_
        refine e_callR (k := 21) (c1 := 0) (c2 := 0) (rest := []) (as := [.inr (7 + 7 * a), .inl (b), .inl (v_usableDocks a M), .inl (d)]) (xi102 21) (by decide) xm12 rfl ⟨rfl, Nat.le_of_ble_eq_true rfl, by decide⟩ (Or.inr (x_okt (ok_dem hS (show 0 ≤ a ∧ a < 12 by omega)))) (k_runFrom hS hT a b (v_usableDocks a M) d (show 0 ≤ a ∧ a < 12 by omega) (by omega) (by omega)) ?_
        rintro v_ h_ ⟨e8, q10⟩
        cases e8
        show x_Ev 102 22 [.inr 0, .inl (a), .inl (b), .inl (d), .inr (3 + 7 * a)] [.inl (v_runFrom a b (v_usableDocks a M) d M)] (0, 0) (z, P, M) _
        refine e_iret (k := 22) (xi102 22) ?_
        exact y_fV (Q := fun _ => True) (show v_x_runs a b d M = v_runFrom a b (v_usableDocks a M) d M from by rw [v_x_runs, if_pos c0, if_neg c1, if_pos c2]) trivial
      · skip
        refine e_iconst (k := 13) (xi102 13) ?_
        refine e_iret (k := 14) (xi102 14) ?_
        exact y_fV (Q := fun _ => True) (show v_x_runs a b d M = (-3) from by rw [v_x_runs, if_pos c0, if_neg c1, if_neg c2]) trivial
  · skip
    refine e_call (k := 3) (v := some (.inr (-1))) (h1 := (z, P, M)) (c1 := 0) (c2 := 0) (rest := []) (as := [.inr 1, .inl (a)]) (xi102 3) (by decide) xm40 rfl ⟨rfl, Nat.le_of_ble_eq_true rfl, by decide⟩ (Or.inr (x_okt (ok_town hS))) (k_standAtF hS hT a c0) ?_
    refine e_astore (k := 4) (xi102 4) (Nat.le_of_ble_eq_true rfl) (by decide) ?_
    show x_Ev 102 5 [.inr 0, .inl (a), .inl (b), .inl (d), .inr (-1)] [] (0, 0) (z, P, M) _
    refine e_aload (k := 5) (xi102 5) rfl (by decide) ?_
    refine e_ifnull (k := 6) (xi102 6) (by omega) (fun _ => ?_) (fun q => absurd (by omega) q)
    refine e_iconst (k := 13) (xi102 13) ?_
    refine e_iret (k := 14) (xi102 14) ?_
    exact y_fV (Q := fun _ => True) (show v_x_runs a b d M = (-3) from by rw [v_x_runs, if_neg c0]) trivial
def v_x_shortage (a : Int) (M : Int → Int → Int) : Int := if 0 ≤ a ∧ a < M 1 1 then v_bestStart a (v_usableDocks a M) M - v_wheelsAt a 0 M else (-1000)
theorem k_x_shortage {z : Int} {P M : Int → Int → Int} (hS : x_Sh z P) (hT : y_TC M) (a : Int)   : x_CallR 103 [.inr 0, .inl (a)] (z, P, M) (fun q => q = (some (.inl (v_x_shortage a M)), (z, P, M)) ∧ True) := by
  refine e_body (ls0 := [.inr 0, .inl (a), x_un]) xm103 rfl ?_
  refine e_aload (k := 0) (xi103 0) rfl (by decide) ?_
  refine e_getR (j := 0) (w := 1) (k := 1) (xi103 1) (ok_WS hS) rfl (sh_town hS) ?_
  refine e_iload (k := 2) (xi103 2) rfl ?_
  have t1 := ty_town1 hT 
  by_cases c0 : 0 ≤ a ∧ a < M 1 1
  · skip
    refine e_call (k := 3) (v := some (.inr (3 + 7 * a))) (h1 := (z, P, M)) (c1 := 0) (c2 := 0) (rest := []) (as := [.inr 1, .inl (a)]) (xi103 3) (by decide) xm40 rfl ⟨rfl, Nat.le_of_ble_eq_true rfl, by decide⟩ (Or.inr (x_okt (ok_town hS))) (k_standAtT hS hT a c0) ?_
    refine e_astore (k := 4) (xi103 4) (Nat.le_of_ble_eq_true rfl) (by omega) ?_
    show x_Ev 103 5 [.inr 0, .inl (a), .inr (3 + 7 * a)] [] (0, 0) (z, P, M) _
    refine e_aload (k := 5) (xi103 5) rfl (by omega) ?_
    refine e_ifnonnull (k := 6) (xi103 6) (by omega) (fun _ => ?_) (fun q => absurd q (by omega))
    refine e_aload (k := 9) (xi103 9) rfl (by omega) ?_
    refine e_getR (j := 8) (w := 7 + 7 * a) (k := 10) (xi103 10) (ok_st hS (show 0 ≤ a ∧ a < 12 by omega)) rfl (sh_dem hS (show 0 ≤ a ∧ a < 12 by omega)) ?_
    refine e_aload (k := 11) (xi103 11) rfl (by omega) ?_
    refine e_callR (k := 12) (c1 := 0) (c2 := 0) (rest := [.inr (7 + 7 * a)]) (as := [.inr (3 + 7 * a)]) (xi103 12) (by decide) xm23 rfl ⟨rfl, Nat.le_of_ble_eq_true rfl, by decide⟩ (Or.inr (x_okt (ok_st hS (show 0 ≤ a ∧ a < 12 by omega)))) (k_usableDocks hS hT a (show 0 ≤ a ∧ a < 12 by omega) ) ?_
    rintro v_ h_ ⟨e2, q4⟩
    cases e2
    show x_Ev 103 13 [.inr 0, .inl (a), .inr (3 + 7 * a)] [.inl (v_usableDocks a M), .inr (7 + 7 * a)] (0, 0) (z, P, M) _
    refine e_callR (k := 13) (c1 := 0) (c2 := 0) (rest := []) (as := [.inr (7 + 7 * a), .inl (v_usableDocks a M)]) (xi103 13) (by decide) xm13 rfl ⟨rfl, Nat.le_of_ble_eq_true rfl, by decide⟩ (Or.inr (x_okt (ok_dem hS (show 0 ≤ a ∧ a < 12 by omega)))) (k_bestStart hS hT a (v_usableDocks a M) (show 0 ≤ a ∧ a < 12 by omega) (by omega)) ?_
    rintro v_ h_ ⟨e5, q7⟩
    cases e5
    show x_Ev 103 14 [.inr 0, .inl (a), .inr (3 + 7 * a)] [.inl (v_bestStart a (v_usableDocks a M) M)] (0, 0) (z, P, M) _
    refine e_aload (k := 14) (xi103 14) rfl (by decide) ?_
    refine e_getR (j := 0) (w := 1) (k := 15) (xi103 15) (ok_WS hS) rfl (sh_town hS) ?_
    refine e_iload (k := 16) (xi103 16) rfl ?_
    refine e_iconst (k := 17) (xi103 17) ?_
    refine e_callR (k := 18) (c1 := 0) (c2 := 0) (rest := [.inl (v_bestStart a (v_usableDocks a M) M)]) (as := [.inr 1, .inl (a), .inl 0]) (xi103 18) (by decide) xm49 rfl ⟨rfl, Nat.le_of_ble_eq_true rfl, by decide⟩ (Or.inr (x_okt (ok_town hS))) (k_wheelsAt hS hT a 0  ) ?_
    rintro v_ h_ ⟨e8, q10⟩
    cases e8
    show x_Ev 103 19 [.inr 0, .inl (a), .inr (3 + 7 * a)] [.inl (v_wheelsAt a 0 M), .inl (v_bestStart a (v_usableDocks a M) M)] (0, 0) (z, P, M) _
    refine e_isub (w := v_bestStart a (v_usableDocks a M) M - v_wheelsAt a 0 M) (k := 19) (xi103 19) (x_wn (by omega)) ?_
    refine e_iret (k := 20) (xi103 20) ?_
    exact y_fV (Q := fun _ => True) (show v_x_shortage a M = v_bestStart a (v_usableDocks a M) M - v_wheelsAt a 0 M from by rw [v_x_shortage, if_pos c0]) trivial
  · skip
    refine e_call (k := 3) (v := some (.inr (-1))) (h1 := (z, P, M)) (c1 := 0) (c2 := 0) (rest := []) (as := [.inr 1, .inl (a)]) (xi103 3) (by decide) xm40 rfl ⟨rfl, Nat.le_of_ble_eq_true rfl, by decide⟩ (Or.inr (x_okt (ok_town hS))) (k_standAtF hS hT a c0) ?_
    refine e_astore (k := 4) (xi103 4) (Nat.le_of_ble_eq_true rfl) (by decide) ?_
    show x_Ev 103 5 [.inr 0, .inl (a), .inr (-1)] [] (0, 0) (z, P, M) _
    refine e_aload (k := 5) (xi103 5) rfl (by decide) ?_
    refine e_ifnonnull (k := 6) (xi103 6) (by omega) (fun q => absurd (by omega) q) (fun _ => ?_)
    refine e_iconst (k := 7) (xi103 7) ?_
    refine e_iret (k := 8) (xi103 8) ?_
    exact y_fV (Q := fun _ => True) (show v_x_shortage a M = (-1000) from by rw [v_x_shortage, if_neg c0]) trivial
def v_x_want (a b : Int) (M : Int → Int → Int) : Int := if 0 ≤ a ∧ a < M 1 1 then (if b < (-1) then 0 else if b ≤ 12 then 1 else 0) else 0
def u_x_want (a b : Int) (M : Int → Int → Int) : Int → Int → Int := if 0 ≤ a ∧ a < M 1 1 then (if b < (-1) then M else if b ≤ 12 then (x_up M (3 + 7 * a) 6 b) else M) else M
theorem k_x_want {z : Int} {P M : Int → Int → Int} (hS : x_Sh z P) (hT : y_TC M) (a : Int) (b : Int)   : x_CallR 104 [.inr 0, .inl (a), .inl (b)] (z, P, M) (fun q => q = (some (.inl (v_x_want a b M)), (z, P, u_x_want a b M)) ∧ y_TL 0 M (u_x_want a b M) ∧ True) := by
  have tl0 : y_TL 0 M M := tl_refl hT
  refine e_body (ls0 := [.inr 0, .inl (a), .inl (b), x_un]) xm104 rfl ?_
  refine e_aload (k := 0) (xi104 0) rfl (by decide) ?_
  refine e_getR (j := 0) (w := 1) (k := 1) (xi104 1) (ok_WS hS) rfl (sh_town hS) ?_
  refine e_iload (k := 2) (xi104 2) rfl ?_
  have t1 := ty_town1 tl0.1 
  by_cases c0 : 0 ≤ a ∧ a < M 1 1
  · skip
    refine e_call (k := 3) (v := some (.inr (3 + 7 * a))) (h1 := (z, P, M)) (c1 := 0) (c2 := 0) (rest := []) (as := [.inr 1, .inl (a)]) (xi104 3) (by decide) xm40 rfl ⟨rfl, Nat.le_of_ble_eq_true rfl, by decide⟩ (Or.inr (x_okt (ok_town hS))) (k_standAtT hS tl0.1 a c0) ?_
    refine e_astore (k := 4) (xi104 4) (Nat.le_of_ble_eq_true rfl) (by omega) ?_
    show x_Ev 104 5 [.inr 0, .inl (a), .inl (b), .inr (3 + 7 * a)] [] (0, 0) (z, P, M) _
    refine e_aload (k := 5) (xi104 5) rfl (by omega) ?_
    refine e_ifnull (k := 6) (xi104 6) (by omega) (fun q => absurd q (by omega)) (fun _ => ?_)
    refine e_iload (k := 7) (xi104 7) rfl ?_
    refine e_iconst (k := 8) (xi104 8) ?_
    refine e_c_lt (k := 9) (xi104 9) (fun c1 => ?_) (fun c1 => ?_)
    · skip
      refine e_iconst (k := 13) (xi104 13) ?_
      refine e_zret (k := 14) (xi104 14) (by first | decide | omega) ?_
      exact y_fW (Q := fun _ => True) (show v_x_want a b M = 0 from by rw [v_x_want, if_pos c0, if_pos c1]) (show u_x_want a b M = M from by rw [u_x_want, if_pos c0, if_pos c1]) tl0 trivial
    · skip
      refine e_iload (k := 10) (xi104 10) rfl ?_
      refine e_iconst (k := 11) (xi104 11) ?_
      refine e_c_le (k := 12) (xi104 12) (fun c2 => ?_) (fun c2 => ?_)
      · skip
        refine e_aload (k := 15) (xi104 15) rfl (by omega) ?_
        refine e_iload (k := 16) (xi104 16) rfl ?_
        refine e_putI (j := 6) (k := 17) (xi104 17) (ok_st hS (show 0 ≤ a ∧ a < 12 by omega)) rfl ?_
        have tl2 : y_TL 0 M (x_up M (3 + 7 * a) 6 b) := tl_up tl0 (sl_st6 (show 0 ≤ a ∧ a < 12 by omega) (by omega)) (nf_st6 (show 0 ≤ a ∧ a < 12 by omega))
        refine e_iconst (k := 18) (xi104 18) ?_
        refine e_zret (k := 19) (xi104 19) (by first | decide | omega) ?_
        exact y_fW (Q := fun _ => True) (show v_x_want a b M = 1 from by rw [v_x_want, if_pos c0, if_neg c1, if_pos c2]) (show u_x_want a b M = (x_up M (3 + 7 * a) 6 b) from by rw [u_x_want, if_pos c0, if_neg c1, if_pos c2]) tl2 trivial
      · skip
        refine e_iconst (k := 13) (xi104 13) ?_
        refine e_zret (k := 14) (xi104 14) (by first | decide | omega) ?_
        exact y_fW (Q := fun _ => True) (show v_x_want a b M = 0 from by rw [v_x_want, if_pos c0, if_neg c1, if_neg c2]) (show u_x_want a b M = M from by rw [u_x_want, if_pos c0, if_neg c1, if_neg c2]) tl0 trivial
  · skip
    refine e_call (k := 3) (v := some (.inr (-1))) (h1 := (z, P, M)) (c1 := 0) (c2 := 0) (rest := []) (as := [.inr 1, .inl (a)]) (xi104 3) (by decide) xm40 rfl ⟨rfl, Nat.le_of_ble_eq_true rfl, by decide⟩ (Or.inr (x_okt (ok_town hS))) (k_standAtF hS tl0.1 a c0) ?_
    refine e_astore (k := 4) (xi104 4) (Nat.le_of_ble_eq_true rfl) (by decide) ?_
    show x_Ev 104 5 [.inr 0, .inl (a), .inl (b), .inr (-1)] [] (0, 0) (z, P, M) _
    refine e_aload (k := 5) (xi104 5) rfl (by decide) ?_
    refine e_ifnull (k := 6) (xi104 6) (by omega) (fun _ => ?_) (fun q => absurd (by omega) q)
    refine e_iconst (k := 13) (xi104 13) ?_
    refine e_zret (k := 14) (xi104 14) (by first | decide | omega) ?_
    exact y_fW (Q := fun _ => True) (show v_x_want a b M = 0 from by rw [v_x_want, if_neg c0]) (show u_x_want a b M = M from by rw [u_x_want, if_neg c0]) tl0 trivial
def v_x_plan (a : Int) (M : Int → Int → Int) : Int := if 0 ≤ a ∧ a < M 1 5 then v_prepare1 a M else v_prepare0 M
def u_x_plan (a : Int) (M : Int → Int → Int) : Int → Int → Int := if 0 ≤ a ∧ a < M 1 5 then (u_prepare1 a M) else (u_prepare0 M)
theorem k_x_plan {z : Int} {P M : Int → Int → Int} (hS : x_Sh z P) (hT : y_TC M) (a : Int)   : x_CallR 105 [.inr 0, .inl (a)] (z, P, M) (fun q => q = (some (.inl (v_x_plan a M)), (z, P, u_x_plan a M)) ∧ y_TL 0 M (u_x_plan a M) ∧ True) := by
  have tl0 : y_TL 0 M M := tl_refl hT
  refine e_body (ls0 := [.inr 0, .inl (a)]) xm105 rfl ?_
  refine e_aload (k := 0) (xi105 0) rfl (by decide) ?_
  refine e_getR (j := 2) (w := 156) (k := 1) (xi105 1) (ok_WS hS) rfl (sh_tour hS) ?_
  refine e_aload (k := 2) (xi105 2) rfl (by decide) ?_
  refine e_getR (j := 0) (w := 1) (k := 3) (xi105 3) (ok_WS hS) rfl (sh_town hS) ?_
  refine e_aload (k := 4) (xi105 4) rfl (by decide) ?_
  refine e_getR (j := 0) (w := 1) (k := 5) (xi105 5) (ok_WS hS) rfl (sh_town hS) ?_
  refine e_iload (k := 6) (xi105 6) rfl ?_
  have t1 := ty_town5 tl0.1 
  by_cases c0 : 0 ≤ a ∧ a < M 1 5
  · skip
    refine e_call (k := 7) (v := some (.inr (149 + 2 * a))) (h1 := (z, P, M)) (c1 := 0) (c2 := 0) (rest := [.inr 1, .inr 156]) (as := [.inr 1, .inl (a)]) (xi105 7) (by decide) xm42 rfl ⟨rfl, Nat.le_of_ble_eq_true rfl, by decide⟩ (Or.inr (x_okt (ok_town hS))) (k_cartAtT hS tl0.1 a c0) ?_
    refine e_callR (k := 8) (c1 := 0) (c2 := 0) (rest := []) (as := [.inr 156, .inr 1, .inr (149 + 2 * a)]) (xi105 8) (by decide) xm29 rfl ⟨rfl, Nat.le_of_ble_eq_true rfl, by decide⟩ (Or.inr (x_okt (ok_tour hS))) (k_prepare1 hS tl0.1 a (show 0 ≤ a ∧ a < 3 by omega) ) ?_
    rintro v_ h_ ⟨e2, tl3, q4⟩
    cases e2
    have tl5 := tl_trans tl0 (tl3)
    have n6 := tl_n tl3
    show x_Ev 105 9 [.inr 0, .inl (a)] [.inl (v_prepare1 a M)] (0, 0) (z, P, (u_prepare1 a M)) _
    refine e_iret (k := 9) (xi105 9) ?_
    exact y_fW (Q := fun _ => True) (show v_x_plan a M = v_prepare1 a M from by rw [v_x_plan, if_pos c0]) (show u_x_plan a M = (u_prepare1 a M) from by rw [u_x_plan, if_pos c0]) tl5 trivial
  · skip
    refine e_call (k := 7) (v := some (.inr (-1))) (h1 := (z, P, M)) (c1 := 0) (c2 := 0) (rest := [.inr 1, .inr 156]) (as := [.inr 1, .inl (a)]) (xi105 7) (by decide) xm42 rfl ⟨rfl, Nat.le_of_ble_eq_true rfl, by decide⟩ (Or.inr (x_okt (ok_town hS))) (k_cartAtF hS tl0.1 a c0) ?_
    refine e_callR (k := 8) (c1 := 0) (c2 := 0) (rest := []) (as := [.inr 156, .inr 1, .inr (-1)]) (xi105 8) (by decide) xm29 rfl ⟨rfl, Nat.le_of_ble_eq_true rfl, by decide⟩ (Or.inr (x_okt (ok_tour hS))) (k_prepare0 hS tl0.1   ) ?_
    rintro v_ h_ ⟨e7, tl8, q9⟩
    cases e7
    have tl10 := tl_trans tl0 (tl8)
    have n11 := tl_n tl8
    show x_Ev 105 9 [.inr 0, .inl (a)] [.inl (v_prepare0 M)] (0, 0) (z, P, (u_prepare0 M)) _
    refine e_iret (k := 9) (xi105 9) ?_
    exact y_fW (Q := fun _ => True) (show v_x_plan a M = v_prepare0 M from by rw [v_x_plan, if_neg c0]) (show u_x_plan a M = (u_prepare0 M) from by rw [u_x_plan, if_neg c0]) tl10 trivial
def v_x_round (a : Int) (M : Int → Int → Int) : Int := v_stopAt a M
theorem k_x_round {z : Int} {P M : Int → Int → Int} (hS : x_Sh z P) (hT : y_TC M) (a : Int)   : x_CallR 106 [.inr 0, .inl (a)] (z, P, M) (fun q => q = (some (.inl (v_x_round a M)), (z, P, M)) ∧ True) := by
  refine e_body (ls0 := [.inr 0, .inl (a)]) xm106 rfl ?_
  refine e_aload (k := 0) (xi106 0) rfl (by decide) ?_
  refine e_getR (j := 2) (w := 156) (k := 1) (xi106 1) (ok_WS hS) rfl (sh_tour hS) ?_
  refine e_iload (k := 2) (xi106 2) rfl ?_
  refine e_callR (k := 3) (c1 := 0) (c2 := 0) (rest := []) (as := [.inr 156, .inl (a)]) (xi106 3) (by decide) xm28 rfl ⟨rfl, Nat.le_of_ble_eq_true rfl, by decide⟩ (Or.inr (x_okt (ok_tour hS))) (k_stopAt hS hT a  ) ?_
  rintro v_ h_ ⟨e1, q3⟩
  cases e1
  show x_Ev 106 4 [.inr 0, .inl (a)] [.inl (v_stopAt a M)] (0, 0) (z, P, M) _
  refine e_iret (k := 4) (xi106 4) ?_
  exact y_fV (Q := fun _ => True) (show v_x_round a M = v_stopAt a M from rfl) trivial
def l_x_carry_a (a ct ln : Int) : Nat → (Int → Int → Int) → Int → (Int → Int → Int) × Int
  | 0, M, j => (M, j)
  | k + 1, M, j => if M 156 1 ≤ j then (M, j) else l_x_carry_a a ct ln k ((u_serve ct (v_stopAt j M) M)) (1 + j)
theorem kl_x_carry_a {z : Int} {P M0 : Int → Int → Int} {r : Option xV × xH → Prop} (hS : x_Sh z P) (a : Int) (ct : Int) (ln : Int) (hct : 0 ≤ ct ∧ ct < 3)   : ∀ k : Nat, ∀ M : (Int → Int → Int), ∀ j : Int, y_TL 0 M0 M → (0 ≤ j ∧ j ≤ 7) → 7 - j < (k : Int) → (y_TL 0 M0 ((l_x_carry_a a ct ln k M j).1) → True → x_Ev 107 36 [.inr 0, .inl (a), .inr (149 + 2 * ct), .inl (ln), .inl ((l_x_carry_a a ct ln k M j).2)] [] (0, 0) (z, P, (l_x_carry_a a ct ln k M j).1) r) → x_Ev 107 21 [.inr 0, .inl (a), .inr (149 + 2 * ct), .inl (ln), .inl (j)] [] (0, 0) (z, P, M) r := by
  intro k
  induction k with
  | zero => intro M j tl0 hi hm; omega
  | succ k ih =>
    intro M j tl0 hi hm kk
    refine e_iload (k := 21) (xi107 21) rfl ?_
    refine e_aload (k := 22) (xi107 22) rfl (by decide) ?_
    refine e_getR (j := 2) (w := 156) (k := 23) (xi107 23) (ok_WS hS) rfl (sh_tour hS) ?_
    have t1 := ty_tour1 tl0.1 
    refine e_getI (j := 1) (w := M 156 1) (k := 24) (xi107 24) (ok_tour hS) rfl rfl ?_
    refine e_c_ge (k := 25) (xi107 25) (fun c0 => ?_) (fun c0 => ?_)
    · skip
      rw [(show l_x_carry_a a ct ln (k + 1) M j = (M, j) from by rw [l_x_carry_a, if_pos c0])] at kk
      try dsimp only at kk
      exact kk tl0 (by first | exact trivial | omega)
    · skip
      refine e_aload (k := 26) (xi107 26) rfl (by decide) ?_
      refine e_getR (j := 0) (w := 1) (k := 27) (xi107 27) (ok_WS hS) rfl (sh_town hS) ?_
      refine e_aload (k := 28) (xi107 28) rfl (by omega) ?_
      refine e_aload (k := 29) (xi107 29) rfl (by decide) ?_
      refine e_getR (j := 2) (w := 156) (k := 30) (xi107 30) (ok_WS hS) rfl (sh_tour hS) ?_
      refine e_iload (k := 31) (xi107 31) rfl ?_
      refine e_callR (k := 32) (c1 := 0) (c2 := 0) (rest := [.inr (149 + 2 * ct), .inr 1]) (as := [.inr 156, .inl (j)]) (xi107 32) (by decide) xm28 rfl ⟨rfl, Nat.le_of_ble_eq_true rfl, by decide⟩ (Or.inr (x_okt (ok_tour hS))) (k_stopAt hS tl0.1 j  ) ?_
      rintro v_ h_ ⟨e2, q4⟩
      cases e2
      show x_Ev 107 33 [.inr 0, .inl (a), .inr (149 + 2 * ct), .inl (ln), .inl (j)] [.inl (v_stopAt j M), .inr (149 + 2 * ct), .inr 1] (0, 0) (z, P, M) _
      refine e_callR (k := 33) (c1 := 0) (c2 := 0) (rest := []) (as := [.inr 1, .inr (149 + 2 * ct), .inl (v_stopAt j M)]) (xi107 33) (by decide) xm64 rfl ⟨rfl, Nat.le_of_ble_eq_true rfl, by decide⟩ (Or.inr (x_okt (ok_town hS))) (k_serve hS tl0.1 ct (v_stopAt j M) hct ) ?_
      rintro v_ h_ ⟨e5, tl6⟩
      cases e5
      have tl8 := tl_trans tl0 (tl6)
      have n9 := tl_n tl6
      show x_Ev 107 34 [.inr 0, .inl (a), .inr (149 + 2 * ct), .inl (ln), .inl (j)] [] (0, 0) (z, P, (u_serve ct (v_stopAt j M) M)) _
      refine e_iinc (w := 1 + j) (k := 34) (xi107 34) rfl (x_wn (by omega)) ?_
      show x_Ev 107 35 [.inr 0, .inl (a), .inr (149 + 2 * ct), .inl (ln), .inl (1 + j)] [] (0, 0) (z, P, (u_serve ct (v_stopAt j M) M)) _
      refine e_goto (k := 35) (xi107 35) ?_
      rw [(show l_x_carry_a a ct ln (k + 1) M j = l_x_carry_a a ct ln k ((u_serve ct (v_stopAt j M) M)) (1 + j) from by rw [l_x_carry_a, if_neg c0])] at kk
      exact ih ((u_serve ct (v_stopAt j M) M)) (1 + j) tl8 (by omega) (by omega) kk
def v_x_carry (a : Int) (M : Int → Int → Int) : Int := if 0 ≤ a ∧ a < M 1 5 then (if v_prepare1 a M = (-1) then (-1) else v_prepare1 a M) else if v_prepare0 M = (-1) then (-1) else (-1)
def u_x_carry (a : Int) (M : Int → Int → Int) : Int → Int → Int := if 0 ≤ a ∧ a < M 1 5 then (if v_prepare1 a M = (-1) then (u_prepare1 a M) else (l_x_carry_a a a (v_prepare1 a M) 8 ((u_prepare1 a M)) 0).1) else if v_prepare0 M = (-1) then (u_prepare0 M) else (u_prepare0 M)
theorem k_x_carry {z : Int} {P M : Int → Int → Int} (hS : x_Sh z P) (hT : y_TC M) (a : Int)   : x_CallR 107 [.inr 0, .inl (a)] (z, P, M) (fun q => q = (some (.inl (v_x_carry a M)), (z, P, u_x_carry a M)) ∧ y_TL 0 M (u_x_carry a M) ∧ True) := by
  have tl0 : y_TL 0 M M := tl_refl hT
  refine e_body (ls0 := [.inr 0, .inl (a), x_un, x_un, x_un]) xm107 rfl ?_
  refine e_aload (k := 0) (xi107 0) rfl (by decide) ?_
  refine e_getR (j := 0) (w := 1) (k := 1) (xi107 1) (ok_WS hS) rfl (sh_town hS) ?_
  refine e_iload (k := 2) (xi107 2) rfl ?_
  have t1 := ty_town5 tl0.1 
  by_cases c0 : 0 ≤ a ∧ a < M 1 5
  · skip
    refine e_call (k := 3) (v := some (.inr (149 + 2 * a))) (h1 := (z, P, M)) (c1 := 0) (c2 := 0) (rest := []) (as := [.inr 1, .inl (a)]) (xi107 3) (by decide) xm42 rfl ⟨rfl, Nat.le_of_ble_eq_true rfl, by decide⟩ (Or.inr (x_okt (ok_town hS))) (k_cartAtT hS tl0.1 a c0) ?_
    refine e_astore (k := 4) (xi107 4) (Nat.le_of_ble_eq_true rfl) (by omega) ?_
    show x_Ev 107 5 [.inr 0, .inl (a), .inr (149 + 2 * a), x_un, x_un] [] (0, 0) (z, P, M) _
    refine e_aload (k := 5) (xi107 5) rfl (by decide) ?_
    refine e_getR (j := 2) (w := 156) (k := 6) (xi107 6) (ok_WS hS) rfl (sh_tour hS) ?_
    refine e_aload (k := 7) (xi107 7) rfl (by decide) ?_
    refine e_getR (j := 0) (w := 1) (k := 8) (xi107 8) (ok_WS hS) rfl (sh_town hS) ?_
    refine e_aload (k := 9) (xi107 9) rfl (by omega) ?_
    refine e_callR (k := 10) (c1 := 0) (c2 := 0) (rest := []) (as := [.inr 156, .inr 1, .inr (149 + 2 * a)]) (xi107 10) (by decide) xm29 rfl ⟨rfl, Nat.le_of_ble_eq_true rfl, by decide⟩ (Or.inr (x_okt (ok_tour hS))) (k_prepare1 hS tl0.1 a (show 0 ≤ a ∧ a < 3 by omega) ) ?_
    rintro v_ h_ ⟨e2, tl3, q4⟩
    cases e2
    have tl5 := tl_trans tl0 (tl3)
    have n6 := tl_n tl3
    show x_Ev 107 11 [.inr 0, .inl (a), .inr (149 + 2 * a), x_un, x_un] [.inl (v_prepare1 a M)] (0, 0) (z, P, (u_prepare1 a M)) _
    refine e_istore (k := 11) (xi107 11) (Nat.le_of_ble_eq_true rfl) ?_
    show x_Ev 107 12 [.inr 0, .inl (a), .inr (149 + 2 * a), .inl (v_prepare1 a M), x_un] [] (0, 0) (z, P, (u_prepare1 a M)) _
    refine e_iload (k := 12) (xi107 12) rfl ?_
    refine e_iconst (k := 13) (xi107 13) ?_
    refine e_c_eq (k := 14) (xi107 14) (fun c1 => ?_) (fun c1 => ?_)
    · skip
      refine e_iconst (k := 17) (xi107 17) ?_
      refine e_iret (k := 18) (xi107 18) ?_
      exact y_fW (Q := fun _ => True) (show v_x_carry a M = (-1) from by rw [v_x_carry, if_pos c0, if_pos c1]) (show u_x_carry a M = (u_prepare1 a M) from by rw [u_x_carry, if_pos c0, if_pos c1]) tl5 trivial
    · skip
      refine e_aload (k := 15) (xi107 15) rfl (by omega) ?_
      refine e_ifnonnull (k := 16) (xi107 16) (by omega) (fun _ => ?_) (fun q => absurd q (by omega))
      refine e_iconst (k := 19) (xi107 19) ?_
      refine e_istore (k := 20) (xi107 20) (Nat.le_of_ble_eq_true rfl) ?_
      show x_Ev 107 21 [.inr 0, .inl (a), .inr (149 + 2 * a), .inl (v_prepare1 a M), .inl 0] [] (0, 0) (z, P, (u_prepare1 a M)) _
      refine kl_x_carry_a hS a a (v_prepare1 a M)  (show 0 ≤ a ∧ a < 3 by omega)  8 ((u_prepare1 a M)) 0 tl5 (by omega) (by omega) ?_
      intro tl7 q8
      show x_Ev 107 36 [.inr 0, .inl (a), .inr (149 + 2 * a), .inl (v_prepare1 a M), .inl ((l_x_carry_a a a (v_prepare1 a M) 8 ((u_prepare1 a M)) 0).2)] [] (0, 0) (z, P, (l_x_carry_a a a (v_prepare1 a M) 8 ((u_prepare1 a M)) 0).1) _
      refine e_iload (k := 36) (xi107 36) rfl ?_
      refine e_iret (k := 37) (xi107 37) ?_
      exact y_fW (Q := fun _ => True) (show v_x_carry a M = v_prepare1 a M from by rw [v_x_carry, if_pos c0, if_neg c1]) (show u_x_carry a M = (l_x_carry_a a a (v_prepare1 a M) 8 ((u_prepare1 a M)) 0).1 from by rw [u_x_carry, if_pos c0, if_neg c1]) tl7 trivial
  · skip
    refine e_call (k := 3) (v := some (.inr (-1))) (h1 := (z, P, M)) (c1 := 0) (c2 := 0) (rest := []) (as := [.inr 1, .inl (a)]) (xi107 3) (by decide) xm42 rfl ⟨rfl, Nat.le_of_ble_eq_true rfl, by decide⟩ (Or.inr (x_okt (ok_town hS))) (k_cartAtF hS tl0.1 a c0) ?_
    refine e_astore (k := 4) (xi107 4) (Nat.le_of_ble_eq_true rfl) (by decide) ?_
    show x_Ev 107 5 [.inr 0, .inl (a), .inr (-1), x_un, x_un] [] (0, 0) (z, P, M) _
    refine e_aload (k := 5) (xi107 5) rfl (by decide) ?_
    refine e_getR (j := 2) (w := 156) (k := 6) (xi107 6) (ok_WS hS) rfl (sh_tour hS) ?_
    refine e_aload (k := 7) (xi107 7) rfl (by decide) ?_
    refine e_getR (j := 0) (w := 1) (k := 8) (xi107 8) (ok_WS hS) rfl (sh_town hS) ?_
    refine e_aload (k := 9) (xi107 9) rfl (by decide) ?_
    refine e_callR (k := 10) (c1 := 0) (c2 := 0) (rest := []) (as := [.inr 156, .inr 1, .inr (-1)]) (xi107 10) (by decide) xm29 rfl ⟨rfl, Nat.le_of_ble_eq_true rfl, by decide⟩ (Or.inr (x_okt (ok_tour hS))) (k_prepare0 hS tl0.1   ) ?_
    rintro v_ h_ ⟨e9, tl10, q11⟩
    cases e9
    have tl12 := tl_trans tl0 (tl10)
    have n13 := tl_n tl10
    show x_Ev 107 11 [.inr 0, .inl (a), .inr (-1), x_un, x_un] [.inl (v_prepare0 M)] (0, 0) (z, P, (u_prepare0 M)) _
    refine e_istore (k := 11) (xi107 11) (Nat.le_of_ble_eq_true rfl) ?_
    show x_Ev 107 12 [.inr 0, .inl (a), .inr (-1), .inl (v_prepare0 M), x_un] [] (0, 0) (z, P, (u_prepare0 M)) _
    refine e_iload (k := 12) (xi107 12) rfl ?_
    refine e_iconst (k := 13) (xi107 13) ?_
    refine e_c_eq (k := 14) (xi107 14) (fun c2 => ?_) (fun c2 => ?_)
    · skip
      refine e_iconst (k := 17) (xi107 17) ?_
      refine e_iret (k := 18) (xi107 18) ?_
      exact y_fW (Q := fun _ => True) (show v_x_carry a M = (-1) from by rw [v_x_carry, if_neg c0, if_pos c2]) (show u_x_carry a M = (u_prepare0 M) from by rw [u_x_carry, if_neg c0, if_pos c2]) tl12 trivial
    · skip
      refine e_aload (k := 15) (xi107 15) rfl (by decide) ?_
      refine e_ifnonnull (k := 16) (xi107 16) (by omega) (fun q => absurd (by omega) q) (fun _ => ?_)
      refine e_iconst (k := 17) (xi107 17) ?_
      refine e_iret (k := 18) (xi107 18) ?_
      exact y_fW (Q := fun _ => True) (show v_x_carry a M = (-1) from by rw [v_x_carry, if_neg c0, if_neg c2]) (show u_x_carry a M = (u_prepare0 M) from by rw [u_x_carry, if_neg c0, if_neg c2]) tl12 trivial
def v_x_count (a : Int) (M : Int → Int → Int) : Int := if a = 0 then M 1 1 else if a = 1 then M 1 3 else if a = 2 then M 1 5 else if a = 3 then v_wheelsIn 0 M else if a = 4 then v_wheelsIn 1 M else if a = 5 then v_wheelsIn 2 M else if a = 6 then v_wheelsIn 3 M else if a = 7 then v_knownBroken M else if a = 8 then M 1 6 else (-1)
theorem k_x_count {z : Int} {P M : Int → Int → Int} (hS : x_Sh z P) (hT : y_TC M) (a : Int)   : x_CallR 110 [.inr 0, .inl (a)] (z, P, M) (fun q => q = (some (.inl (v_x_count a M)), (z, P, M)) ∧ True) := by
  refine e_body (ls0 := [.inr 0, .inl (a)]) xm110 rfl ?_
  refine e_iload (k := 0) (xi110 0) rfl ?_
  by_cases c0 : a = 0
  · skip
    refine e_sw (t2 := 2) (k := 1) (xi110 1) (by rw [c0]; decide +kernel) ?_
    refine e_aload (k := 2) (xi110 2) rfl (by decide) ?_
    refine e_getR (j := 0) (w := 1) (k := 3) (xi110 3) (ok_WS hS) rfl (sh_town hS) ?_
    have t1 := ty_town1 hT 
    refine e_getI (j := 1) (w := M 1 1) (k := 4) (xi110 4) (ok_town hS) rfl rfl ?_
    refine e_iret (k := 5) (xi110 5) ?_
    exact y_fV (Q := fun _ => True) (show v_x_count a M = M 1 1 from by rw [v_x_count, if_pos c0]) trivial
  by_cases c1 : a = 1
  · skip
    refine e_sw (t2 := 6) (k := 1) (xi110 1) (by rw [c1]; decide +kernel) ?_
    refine e_aload (k := 6) (xi110 6) rfl (by decide) ?_
    refine e_getR (j := 0) (w := 1) (k := 7) (xi110 7) (ok_WS hS) rfl (sh_town hS) ?_
    have t2 := ty_town3 hT 
    refine e_getI (j := 3) (w := M 1 3) (k := 8) (xi110 8) (ok_town hS) rfl rfl ?_
    refine e_iret (k := 9) (xi110 9) ?_
    exact y_fV (Q := fun _ => True) (show v_x_count a M = M 1 3 from by rw [v_x_count, if_neg c0, if_pos c1]) trivial
  by_cases c2 : a = 2
  · skip
    refine e_sw (t2 := 10) (k := 1) (xi110 1) (by rw [c2]; decide +kernel) ?_
    refine e_aload (k := 10) (xi110 10) rfl (by decide) ?_
    refine e_getR (j := 0) (w := 1) (k := 11) (xi110 11) (ok_WS hS) rfl (sh_town hS) ?_
    have t3 := ty_town5 hT 
    refine e_getI (j := 5) (w := M 1 5) (k := 12) (xi110 12) (ok_town hS) rfl rfl ?_
    refine e_iret (k := 13) (xi110 13) ?_
    exact y_fV (Q := fun _ => True) (show v_x_count a M = M 1 5 from by rw [v_x_count, if_neg c0, if_neg c1, if_pos c2]) trivial
  by_cases c3 : a = 3
  · skip
    refine e_sw (t2 := 14) (k := 1) (xi110 1) (by rw [c3]; decide +kernel) ?_
    refine e_aload (k := 14) (xi110 14) rfl (by decide) ?_
    refine e_getR (j := 0) (w := 1) (k := 15) (xi110 15) (ok_WS hS) rfl (sh_town hS) ?_
    refine e_iconst (k := 16) (xi110 16) ?_
    refine e_callR (k := 17) (c1 := 0) (c2 := 0) (rest := []) (as := [.inr 1, .inl 0]) (xi110 17) (by decide) xm47 rfl ⟨rfl, Nat.le_of_ble_eq_true rfl, by decide⟩ (Or.inr (x_okt (ok_town hS))) (k_wheelsIn hS hT 0  ) ?_
    rintro v_ h_ ⟨e4, q6⟩
    cases e4
    show x_Ev 110 18 [.inr 0, .inl (a)] [.inl (v_wheelsIn 0 M)] (0, 0) (z, P, M) _
    refine e_iret (k := 18) (xi110 18) ?_
    exact y_fV (Q := fun _ => True) (show v_x_count a M = v_wheelsIn 0 M from by rw [v_x_count, if_neg c0, if_neg c1, if_neg c2, if_pos c3]) trivial
  by_cases c4 : a = 4
  · skip
    refine e_sw (t2 := 19) (k := 1) (xi110 1) (by rw [c4]; decide +kernel) ?_
    refine e_aload (k := 19) (xi110 19) rfl (by decide) ?_
    refine e_getR (j := 0) (w := 1) (k := 20) (xi110 20) (ok_WS hS) rfl (sh_town hS) ?_
    refine e_iconst (k := 21) (xi110 21) ?_
    refine e_callR (k := 22) (c1 := 0) (c2 := 0) (rest := []) (as := [.inr 1, .inl 1]) (xi110 22) (by decide) xm47 rfl ⟨rfl, Nat.le_of_ble_eq_true rfl, by decide⟩ (Or.inr (x_okt (ok_town hS))) (k_wheelsIn hS hT 1  ) ?_
    rintro v_ h_ ⟨e7, q9⟩
    cases e7
    show x_Ev 110 23 [.inr 0, .inl (a)] [.inl (v_wheelsIn 1 M)] (0, 0) (z, P, M) _
    refine e_iret (k := 23) (xi110 23) ?_
    exact y_fV (Q := fun _ => True) (show v_x_count a M = v_wheelsIn 1 M from by rw [v_x_count, if_neg c0, if_neg c1, if_neg c2, if_neg c3, if_pos c4]) trivial
  by_cases c5 : a = 5
  · skip
    refine e_sw (t2 := 24) (k := 1) (xi110 1) (by rw [c5]; decide +kernel) ?_
    refine e_aload (k := 24) (xi110 24) rfl (by decide) ?_
    refine e_getR (j := 0) (w := 1) (k := 25) (xi110 25) (ok_WS hS) rfl (sh_town hS) ?_
    refine e_iconst (k := 26) (xi110 26) ?_
    refine e_callR (k := 27) (c1 := 0) (c2 := 0) (rest := []) (as := [.inr 1, .inl 2]) (xi110 27) (by decide) xm47 rfl ⟨rfl, Nat.le_of_ble_eq_true rfl, by decide⟩ (Or.inr (x_okt (ok_town hS))) (k_wheelsIn hS hT 2  ) ?_
    rintro v_ h_ ⟨e10, q12⟩
    cases e10
    show x_Ev 110 28 [.inr 0, .inl (a)] [.inl (v_wheelsIn 2 M)] (0, 0) (z, P, M) _
    refine e_iret (k := 28) (xi110 28) ?_
    exact y_fV (Q := fun _ => True) (show v_x_count a M = v_wheelsIn 2 M from by rw [v_x_count, if_neg c0, if_neg c1, if_neg c2, if_neg c3, if_neg c4, if_pos c5]) trivial
  by_cases c6 : a = 6
  · skip
    refine e_sw (t2 := 29) (k := 1) (xi110 1) (by rw [c6]; decide +kernel) ?_
    refine e_aload (k := 29) (xi110 29) rfl (by decide) ?_
    refine e_getR (j := 0) (w := 1) (k := 30) (xi110 30) (ok_WS hS) rfl (sh_town hS) ?_
    refine e_iconst (k := 31) (xi110 31) ?_
    refine e_callR (k := 32) (c1 := 0) (c2 := 0) (rest := []) (as := [.inr 1, .inl 3]) (xi110 32) (by decide) xm47 rfl ⟨rfl, Nat.le_of_ble_eq_true rfl, by decide⟩ (Or.inr (x_okt (ok_town hS))) (k_wheelsIn hS hT 3  ) ?_
    rintro v_ h_ ⟨e13, q15⟩
    cases e13
    show x_Ev 110 33 [.inr 0, .inl (a)] [.inl (v_wheelsIn 3 M)] (0, 0) (z, P, M) _
    refine e_iret (k := 33) (xi110 33) ?_
    exact y_fV (Q := fun _ => True) (show v_x_count a M = v_wheelsIn 3 M from by rw [v_x_count, if_neg c0, if_neg c1, if_neg c2, if_neg c3, if_neg c4, if_neg c5, if_pos c6]) trivial
  by_cases c7 : a = 7
  · skip
    refine e_sw (t2 := 34) (k := 1) (xi110 1) (by rw [c7]; decide +kernel) ?_
    refine e_aload (k := 34) (xi110 34) rfl (by decide) ?_
    refine e_getR (j := 0) (w := 1) (k := 35) (xi110 35) (ok_WS hS) rfl (sh_town hS) ?_
    refine e_callR (k := 36) (c1 := 0) (c2 := 0) (rest := []) (as := [.inr 1]) (xi110 36) (by decide) xm48 rfl ⟨rfl, Nat.le_of_ble_eq_true rfl, by decide⟩ (Or.inr (x_okt (ok_town hS))) (k_knownBroken hS hT   ) ?_
    rintro v_ h_ ⟨e16, q18⟩
    cases e16
    show x_Ev 110 37 [.inr 0, .inl (a)] [.inl (v_knownBroken M)] (0, 0) (z, P, M) _
    refine e_iret (k := 37) (xi110 37) ?_
    exact y_fV (Q := fun _ => True) (show v_x_count a M = v_knownBroken M from by rw [v_x_count, if_neg c0, if_neg c1, if_neg c2, if_neg c3, if_neg c4, if_neg c5, if_neg c6, if_pos c7]) trivial
  by_cases c8 : a = 8
  · skip
    refine e_sw (t2 := 38) (k := 1) (xi110 1) (by rw [c8]; decide +kernel) ?_
    refine e_aload (k := 38) (xi110 38) rfl (by decide) ?_
    refine e_getR (j := 0) (w := 1) (k := 39) (xi110 39) (ok_WS hS) rfl (sh_town hS) ?_
    have t19 := ty_town6 hT 
    refine e_getI (j := 6) (w := M 1 6) (k := 40) (xi110 40) (ok_town hS) rfl rfl ?_
    refine e_iret (k := 41) (xi110 41) ?_
    exact y_fV (Q := fun _ => True) (show v_x_count a M = M 1 6 from by rw [v_x_count, if_neg c0, if_neg c1, if_neg c2, if_neg c3, if_neg c4, if_neg c5, if_neg c6, if_neg c7, if_pos c8]) trivial
  refine e_sw (k := 1) (t2 := 42) (xi110 1) (if_pos (by omega)) ?_
  refine e_iconst (k := 42) (xi110 42) ?_
  refine e_iret (k := 43) (xi110 43) ?_
  exact y_fV (Q := fun _ => True) (show v_x_count a M = (-1) from by rw [v_x_count, if_neg c0, if_neg c1, if_neg c2, if_neg c3, if_neg c4, if_neg c5, if_neg c6, if_neg c7, if_neg c8]) trivial
