/-! THE CLASS'S SMALL METHODS -/
def y_and (i j : Int) : Int := (Int32.ofInt i &&& Int32.ofInt j).toInt
def y_or (i j : Int) : Int := (Int32.ofInt i ||| Int32.ofInt j).toInt
def y_shl (i j : Int) : Int := (Int32.ofInt i <<< (Int32.ofInt j &&& 31)).toInt
def y_shr (i j : Int) : Int := (Int32.ofInt i >>> (Int32.ofInt j &&& 31)).toInt
abbrev y_sz (k : Int) : Int := if k = 2 then 2 else 1
theorem y_sz_in (k : Int) : 1 ≤ y_sz k ∧ y_sz k ≤ 2 ∧ (k = 2 → y_sz k = 2) ∧ (¬ k = 2 → y_sz k = 1) := by
  unfold y_sz
  split <;> omega
theorem k_sizeOf {z : Int} {P M : Int → Int → Int} (hS : x_Sh z P) (hT : y_TC M) (kd : Int)   : x_Call 69 [.inl (kd)] (z, P, M) (some (.inl (y_sz kd))) (z, P, M) := by
  refine e_body (ls0 := [.inl (kd)]) xm69 rfl ?_
  refine e_iload (k := 0) (xi69 0) rfl ?_
  refine e_iconst (k := 1) (xi69 1) ?_
  refine e_c_ne (k := 2) (xi69 2) (fun c0 => ?_) (fun c0 => ?_)
  · skip
    refine e_iconst (k := 5) (xi69 5) ?_
    refine e_iret (k := 6) (xi69 6) ?_
    have hz := y_sz_in kd
    exact x_vE (by omega)
  · skip
    refine e_iconst (k := 3) (xi69 3) ?_
    refine e_goto (k := 4) (xi69 4) ?_
    refine e_iret (k := 6) (xi69 6) ?_
    have hz := y_sz_in kd
    exact x_vE (by omega)
theorem k_size {z : Int} {P M : Int → Int → Int} (hS : x_Sh z P) (hT : y_TC M) (w : Int) (hw : 0 ≤ w ∧ w < 60)  : x_Call 70 [.inr (88 + w)] (z, P, M) (some (.inl (y_sz (M (88 + w) 1)))) (z, P, M) := by
  refine e_body (ls0 := [.inr (88 + w)]) xm70 rfl ?_
  refine e_aload (k := 0) (xi70 0) rfl (by omega) ?_
  have t1 := ty_wh1 hT hw
  refine e_getI (j := 1) (w := M (88 + w) 1) (k := 1) (xi70 1) (ok_wh hS hw) rfl rfl ?_
  refine e_call (k := 2) (v := some (.inl (y_sz (M (88 + w) 1)))) (h1 := (z, P, M)) (c1 := 0) (c2 := 0) (rest := []) (as := [.inl (M (88 + w) 1)]) (xi70 2) (by decide) xm69 rfl ⟨rfl, Nat.le_of_ble_eq_true rfl, by decide⟩ (Or.inl rfl) (k_sizeOf hS hT (M (88 + w) 1)  ) ?_
  refine e_iret (k := 3) (xi70 3) ?_
  rfl
theorem k_hasCharge {z : Int} {P M : Int → Int → Int} (hS : x_Sh z P) (hT : y_TC M) (w : Int) (hw : 0 ≤ w ∧ w < 60)  : x_Call 71 [.inr (88 + w)] (z, P, M) (some (.inl (x_b (M (88 + w) 1 = 1 ∨ M (88 + w) 1 = 2)))) (z, P, M) := by
  refine e_body (ls0 := [.inr (88 + w)]) xm71 rfl ?_
  refine e_aload (k := 0) (xi71 0) rfl (by omega) ?_
  have t1 := ty_wh1 hT hw
  refine e_getI (j := 1) (w := M (88 + w) 1) (k := 1) (xi71 1) (ok_wh hS hw) rfl rfl ?_
  refine e_iconst (k := 2) (xi71 2) ?_
  refine e_c_eq (k := 3) (xi71 3) (fun c0 => ?_) (fun c0 => ?_)
  · skip
    refine e_iconst (k := 8) (xi71 8) ?_
    refine e_goto (k := 9) (xi71 9) ?_
    refine e_zret (k := 11) (xi71 11) (by first | decide | omega) ?_
    exact x_bT (by omega)
  · skip
    refine e_aload (k := 4) (xi71 4) rfl (by omega) ?_
    refine e_getI (j := 1) (w := M (88 + w) 1) (k := 5) (xi71 5) (ok_wh hS hw) rfl rfl ?_
    refine e_iconst (k := 6) (xi71 6) ?_
    refine e_c_ne (k := 7) (xi71 7) (fun c1 => ?_) (fun c1 => ?_)
    · skip
      refine e_iconst (k := 10) (xi71 10) ?_
      refine e_zret (k := 11) (xi71 11) (by first | decide | omega) ?_
      exact x_bF (by omega)
    · skip
      refine e_iconst (k := 8) (xi71 8) ?_
      refine e_goto (k := 9) (xi71 9) ?_
      refine e_zret (k := 11) (xi71 11) (by first | decide | omega) ?_
      exact x_bT (by omega)
def v_chargeFor (w l : Int) (M : Int → Int → Int) : Int := if M (88 + w) 1 = 1 ∨ M (88 + w) 1 = 2 then (if ¬ M (88 + w) 1 = 2 then 2 * l else 3 * l) else 0
theorem k_chargeFor {z : Int} {P M : Int → Int → Int} (hS : x_Sh z P) (hT : y_TC M) (w : Int) (l : Int) (hw : 0 ≤ w ∧ w < 60) (hl : 0 ≤ l ∧ l ≤ 20000) : x_CallR 72 [.inr (88 + w), .inl (l)] (z, P, M) (fun q => q = (some (.inl (v_chargeFor w l M)), (z, P, M)) ∧ (fun v => 0 ≤ v ∧ v ≤ 60000) (v_chargeFor w l M)) := by
  refine e_body (ls0 := [.inr (88 + w), .inl (l)]) xm72 rfl ?_
  refine e_aload (k := 0) (xi72 0) rfl (by omega) ?_
  have t1 := ty_wh1 hT hw
  refine e_call (k := 1) (v := some (.inl (x_b (M (88 + w) 1 = 1 ∨ M (88 + w) 1 = 2)))) (h1 := (z, P, M)) (c1 := 0) (c2 := 0) (rest := []) (as := [.inr (88 + w)]) (xi72 1) (by decide) xm71 rfl ⟨rfl, Nat.le_of_ble_eq_true rfl, by decide⟩ (Or.inr (x_okt (ok_wh hS hw))) (k_hasCharge hS hT w hw ) ?_
  refine e_b_ne (k := 2) (xi72 2) (fun c0 => ?_) (fun c0 => ?_)
  · skip
    refine e_aload (k := 5) (xi72 5) rfl (by omega) ?_
    refine e_getI (j := 1) (w := M (88 + w) 1) (k := 6) (xi72 6) (ok_wh hS hw) rfl rfl ?_
    refine e_iconst (k := 7) (xi72 7) ?_
    refine e_c_ne (k := 8) (xi72 8) (fun c1 => ?_) (fun c1 => ?_)
    · skip
      refine e_iconst (k := 13) (xi72 13) ?_
      refine e_iload (k := 14) (xi72 14) rfl ?_
      refine e_imul (w := 2 * l) (k := 15) (xi72 15) (x_wn (by omega)) ?_
      refine e_iret (k := 16) (xi72 16) ?_
      exact y_fV (Q := fun v => 0 ≤ v ∧ v ≤ 60000) (show v_chargeFor w l M = 2 * l from by rw [v_chargeFor, if_pos c0, if_pos c1]) (by omega)
    · skip
      refine e_iconst (k := 9) (xi72 9) ?_
      refine e_iload (k := 10) (xi72 10) rfl ?_
      refine e_imul (w := 3 * l) (k := 11) (xi72 11) (x_wn (by omega)) ?_
      refine e_goto (k := 12) (xi72 12) ?_
      refine e_iret (k := 16) (xi72 16) ?_
      exact y_fV (Q := fun v => 0 ≤ v ∧ v ≤ 60000) (show v_chargeFor w l M = 3 * l from by rw [v_chargeFor, if_pos c0, if_neg c1]) (by omega)
  · skip
    refine e_iconst (k := 3) (xi72 3) ?_
    refine e_iret (k := 4) (xi72 4) ?_
    exact y_fV (Q := fun v => 0 ≤ v ∧ v ≤ 60000) (show v_chargeFor w l M = 0 from by rw [v_chargeFor, if_neg c0]) (by omega)
theorem k_lasts {z : Int} {P M : Int → Int → Int} (hS : x_Sh z P) (hT : y_TC M) (w : Int) (l : Int) (hw : 0 ≤ w ∧ w < 60) (hl : 0 ≤ l ∧ l ≤ 20000) : x_Call 73 [.inr (88 + w), .inl (l)] (z, P, M) (some (.inl (x_b (v_chargeFor w l M ≤ M (88 + w) 2)))) (z, P, M) := by
  refine e_body (ls0 := [.inr (88 + w), .inl (l)]) xm73 rfl ?_
  refine e_aload (k := 0) (xi73 0) rfl (by omega) ?_
  have t1 := ty_wh2 hT hw
  refine e_getI (j := 2) (w := M (88 + w) 2) (k := 1) (xi73 1) (ok_wh hS hw) rfl rfl ?_
  refine e_aload (k := 2) (xi73 2) rfl (by omega) ?_
  refine e_iload (k := 3) (xi73 3) rfl ?_
  refine e_callR (k := 4) (c1 := 0) (c2 := 0) (rest := [.inl (M (88 + w) 2)]) (as := [.inr (88 + w), .inl (l)]) (xi73 4) (by decide) xm72 rfl ⟨rfl, Nat.le_of_ble_eq_true rfl, by decide⟩ (Or.inr (x_okt (ok_wh hS hw))) (k_chargeFor hS hT w l hw (by omega)) ?_
  rintro v_ h_ ⟨e2, q4⟩
  cases e2
  show x_Ev 73 5 [.inr (88 + w), .inl (l)] [.inl (v_chargeFor w l M), .inl (M (88 + w) 2)] (0, 0) (z, P, M) _
  refine e_c_lt (k := 5) (xi73 5) (fun c0 => ?_) (fun c0 => ?_)
  · skip
    refine e_iconst (k := 8) (xi73 8) ?_
    refine e_zret (k := 9) (xi73 9) (by first | decide | omega) ?_
    exact x_bF (by omega)
  · skip
    refine e_iconst (k := 6) (xi73 6) ?_
    refine e_goto (k := 7) (xi73 7) ?_
    refine e_zret (k := 9) (xi73 9) (by first | decide | omega) ?_
    exact x_bT (by omega)
def u_ride (w l : Int) (M : Int → Int → Int) : Int → Int → Int := (x_up M (88 + w) 2 (max 0 (M (88 + w) 2 - v_chargeFor w l M)))
theorem k_ride {z : Int} {P M : Int → Int → Int} (hS : x_Sh z P) (hT : y_TC M) (w : Int) (l : Int) (hw : 0 ≤ w ∧ w < 60) (hl : 0 ≤ l ∧ l ≤ 20000) : x_CallR 74 [.inr (88 + w), .inl (l)] (z, P, M) (fun q => q = (none, (z, P, u_ride w l M)) ∧ y_TL 0 M (u_ride w l M)) := by
  have tl0 : y_TL 0 M M := tl_refl hT
  refine e_body (ls0 := [.inr (88 + w), .inl (l)]) xm74 rfl ?_
  refine e_aload (k := 0) (xi74 0) rfl (by omega) ?_
  refine e_iconst (k := 1) (xi74 1) ?_
  refine e_aload (k := 2) (xi74 2) rfl (by omega) ?_
  have t1 := ty_wh2 tl0.1 hw
  refine e_getI (j := 2) (w := M (88 + w) 2) (k := 3) (xi74 3) (ok_wh hS hw) rfl rfl ?_
  refine e_aload (k := 4) (xi74 4) rfl (by omega) ?_
  refine e_iload (k := 5) (xi74 5) rfl ?_
  refine e_callR (k := 6) (c1 := 0) (c2 := 0) (rest := [.inl (M (88 + w) 2), .inl 0, .inr (88 + w)]) (as := [.inr (88 + w), .inl (l)]) (xi74 6) (by decide) xm72 rfl ⟨rfl, Nat.le_of_ble_eq_true rfl, by decide⟩ (Or.inr (x_okt (ok_wh hS hw))) (k_chargeFor hS tl0.1 w l hw (by omega)) ?_
  rintro v_ h_ ⟨e2, q4⟩
  cases e2
  show x_Ev 74 7 [.inr (88 + w), .inl (l)] [.inl (v_chargeFor w l M), .inl (M (88 + w) 2), .inl 0, .inr (88 + w)] (0, 0) (z, P, M) _
  refine e_isub (w := M (88 + w) 2 - v_chargeFor w l M) (k := 7) (xi74 7) (x_wn (by omega)) ?_
  refine e_max (k := 8) (xi74 8) (Nat.le_of_ble_eq_true rfl) ?_
  refine e_putI (j := 2) (k := 9) (xi74 9) (ok_wh hS hw) rfl ?_
  have tl5 : y_TL 0 M (x_up M (88 + w) 2 (max 0 (M (88 + w) 2 - v_chargeFor w l M))) := tl_up tl0 (sl_wh2 hw (by omega)) (nf_wh2 hw)
  refine e_vret (k := 10) (xi74 10) ?_
  exact y_fU (show u_ride w l M = (x_up M (88 + w) 2 (max 0 (M (88 + w) 2 - v_chargeFor w l M))) from rfl) tl5
def u_chargeAnHour (w : Int) (M : Int → Int → Int) : Int → Int → Int := if M (88 + w) 1 = 1 ∨ M (88 + w) 1 = 2 then (if ¬ M (88 + w) 1 = 2 then (x_up M (88 + w) 2 (min 1000 (100 + M (88 + w) 2))) else (x_up M (88 + w) 2 (min 1000 (50 + M (88 + w) 2)))) else M
theorem k_chargeAnHour {z : Int} {P M : Int → Int → Int} (hS : x_Sh z P) (hT : y_TC M) (w : Int) (hw : 0 ≤ w ∧ w < 60)  : x_CallR 75 [.inr (88 + w)] (z, P, M) (fun q => q = (none, (z, P, u_chargeAnHour w M)) ∧ y_TL 0 M (u_chargeAnHour w M)) := by
  have tl0 : y_TL 0 M M := tl_refl hT
  refine e_body (ls0 := [.inr (88 + w)]) xm75 rfl ?_
  refine e_aload (k := 0) (xi75 0) rfl (by omega) ?_
  have t1 := ty_wh1 tl0.1 hw
  refine e_call (k := 1) (v := some (.inl (x_b (M (88 + w) 1 = 1 ∨ M (88 + w) 1 = 2)))) (h1 := (z, P, M)) (c1 := 0) (c2 := 0) (rest := []) (as := [.inr (88 + w)]) (xi75 1) (by decide) xm71 rfl ⟨rfl, Nat.le_of_ble_eq_true rfl, by decide⟩ (Or.inr (x_okt (ok_wh hS hw))) (k_hasCharge hS tl0.1 w hw ) ?_
  refine e_b_eq (k := 2) (xi75 2) (fun c0 => ?_) (fun c0 => ?_)
  · skip
    refine e_aload (k := 3) (xi75 3) rfl (by omega) ?_
    refine e_iconst (k := 4) (xi75 4) ?_
    refine e_aload (k := 5) (xi75 5) rfl (by omega) ?_
    have t2 := ty_wh2 tl0.1 hw
    refine e_getI (j := 2) (w := M (88 + w) 2) (k := 6) (xi75 6) (ok_wh hS hw) rfl rfl ?_
    refine e_aload (k := 7) (xi75 7) rfl (by omega) ?_
    refine e_getI (j := 1) (w := M (88 + w) 1) (k := 8) (xi75 8) (ok_wh hS hw) rfl rfl ?_
    refine e_iconst (k := 9) (xi75 9) ?_
    refine e_c_ne (k := 10) (xi75 10) (fun c1 => ?_) (fun c1 => ?_)
    · skip
      refine e_iconst (k := 13) (xi75 13) ?_
      refine e_iadd (w := 100 + M (88 + w) 2) (k := 14) (xi75 14) (x_wn (by omega)) ?_
      refine e_min (k := 15) (xi75 15) (Nat.le_of_ble_eq_true rfl) ?_
      refine e_putI (j := 2) (k := 16) (xi75 16) (ok_wh hS hw) rfl ?_
      have tl3 : y_TL 0 M (x_up M (88 + w) 2 (min 1000 (100 + M (88 + w) 2))) := tl_up tl0 (sl_wh2 hw (by omega)) (nf_wh2 hw)
      refine e_vret (k := 17) (xi75 17) ?_
      exact y_fU (show u_chargeAnHour w M = (x_up M (88 + w) 2 (min 1000 (100 + M (88 + w) 2))) from by rw [u_chargeAnHour, if_pos c0, if_pos c1]) tl3
    · skip
      refine e_iconst (k := 11) (xi75 11) ?_
      refine e_goto (k := 12) (xi75 12) ?_
      refine e_iadd (w := 50 + M (88 + w) 2) (k := 14) (xi75 14) (x_wn (by omega)) ?_
      refine e_min (k := 15) (xi75 15) (Nat.le_of_ble_eq_true rfl) ?_
      refine e_putI (j := 2) (k := 16) (xi75 16) (ok_wh hS hw) rfl ?_
      have tl4 : y_TL 0 M (x_up M (88 + w) 2 (min 1000 (50 + M (88 + w) 2))) := tl_up tl0 (sl_wh2 hw (by omega)) (nf_wh2 hw)
      refine e_vret (k := 17) (xi75 17) ?_
      exact y_fU (show u_chargeAnHour w M = (x_up M (88 + w) 2 (min 1000 (50 + M (88 + w) 2))) from by rw [u_chargeAnHour, if_pos c0, if_neg c1]) tl4
  · skip
    refine e_vret (k := 17) (xi75 17) ?_
    exact y_fU (show u_chargeAnHour w M = M from by rw [u_chargeAnHour, if_neg c0]) tl0
theorem k_isAt {z : Int} {P M : Int → Int → Int} (hS : x_Sh z P) (hT : y_TC M) (w : Int) (s : Int) (p : Int) (hw : 0 ≤ w ∧ w < 60)  : x_Call 76 [.inr (88 + w), .inl (s), .inl (p)] (z, P, M) (some (.inl (x_b (M (88 + w) 3 = p ∧ M (88 + w) 4 = s)))) (z, P, M) := by
  refine e_body (ls0 := [.inr (88 + w), .inl (s), .inl (p)]) xm76 rfl ?_
  refine e_aload (k := 0) (xi76 0) rfl (by omega) ?_
  have t1 := ty_wh3 hT hw
  refine e_getI (j := 3) (w := M (88 + w) 3) (k := 1) (xi76 1) (ok_wh hS hw) rfl rfl ?_
  refine e_iload (k := 2) (xi76 2) rfl ?_
  refine e_c_ne (k := 3) (xi76 3) (fun c0 => ?_) (fun c0 => ?_)
  · skip
    refine e_iconst (k := 10) (xi76 10) ?_
    refine e_zret (k := 11) (xi76 11) (by first | decide | omega) ?_
    exact x_bF (by omega)
  · skip
    refine e_aload (k := 4) (xi76 4) rfl (by omega) ?_
    have t2 := ty_wh4 hT hw
    refine e_getI (j := 4) (w := M (88 + w) 4) (k := 5) (xi76 5) (ok_wh hS hw) rfl rfl ?_
    refine e_iload (k := 6) (xi76 6) rfl ?_
    refine e_c_ne (k := 7) (xi76 7) (fun c1 => ?_) (fun c1 => ?_)
    · skip
      refine e_iconst (k := 10) (xi76 10) ?_
      refine e_zret (k := 11) (xi76 11) (by first | decide | omega) ?_
      exact x_bF (by omega)
    · skip
      refine e_iconst (k := 8) (xi76 8) ?_
      refine e_goto (k := 9) (xi76 9) ?_
      refine e_zret (k := 11) (xi76 11) (by first | decide | omega) ?_
      exact x_bT (by omega)
def u_moveTo (w p s d : Int) (M : Int → Int → Int) : Int → Int → Int := (x_up ((x_up ((x_up M (88 + w) 3 p)) (88 + w) 4 s)) (88 + w) 5 d)
theorem k_moveTo {z : Int} {P M : Int → Int → Int} (hS : x_Sh z P) (hT : y_TC M) (w : Int) (p : Int) (s : Int) (d : Int) (hw : 0 ≤ w ∧ w < 60) (hp : 0 ≤ p ∧ p ≤ 3) (hs : -1 ≤ s ∧ s ≤ 11) (hd : -1 ≤ d ∧ d ≤ 11) : x_CallR 68 [.inr (88 + w), .inl (p), .inl (s), .inl (d)] (z, P, M) (fun q => q = (none, (z, P, u_moveTo w p s d M)) ∧ y_TL 0 M (u_moveTo w p s d M)) := by
  have tl0 : y_TL 0 M M := tl_refl hT
  refine e_body (ls0 := [.inr (88 + w), .inl (p), .inl (s), .inl (d)]) xm68 rfl ?_
  refine e_aload (k := 0) (xi68 0) rfl (by omega) ?_
  refine e_iload (k := 1) (xi68 1) rfl ?_
  refine e_putI (j := 3) (k := 2) (xi68 2) (ok_wh hS hw) rfl ?_
  have tl1 : y_TL 0 M (x_up M (88 + w) 3 p) := tl_up tl0 (sl_wh3 hw (by omega)) (nf_wh3 hw)
  refine e_aload (k := 3) (xi68 3) rfl (by omega) ?_
  refine e_iload (k := 4) (xi68 4) rfl ?_
  refine e_putI (j := 4) (k := 5) (xi68 5) (ok_wh hS hw) rfl ?_
  have tl2 : y_TL 0 M (x_up ((x_up M (88 + w) 3 p)) (88 + w) 4 s) := tl_up tl1 (sl_wh4 hw (by omega)) (nf_wh4 hw)
  refine e_aload (k := 6) (xi68 6) rfl (by omega) ?_
  refine e_iload (k := 7) (xi68 7) rfl ?_
  refine e_putI (j := 5) (k := 8) (xi68 8) (ok_wh hS hw) rfl ?_
  have tl3 : y_TL 0 M (x_up ((x_up ((x_up M (88 + w) 3 p)) (88 + w) 4 s)) (88 + w) 5 d) := tl_up tl2 (sl_wh5 hw (by omega)) (nf_wh5 hw)
  refine e_vret (k := 9) (xi68 9) ?_
  exact y_fU (show u_moveTo w p s d M = (x_up ((x_up ((x_up M (88 + w) 3 p)) (88 + w) 4 s)) (88 + w) 5 d) from rfl) tl3
def u_wSetUp (w kd : Int) (M : Int → Int → Int) : Int → Int → Int := if ((x_up M (88 + w) 1 kd)) (88 + w) 1 = 1 ∨ ((x_up M (88 + w) 1 kd)) (88 + w) 1 = 2 then (u_moveTo w 3 ((-1)) ((-1)) ((x_up ((x_up ((x_up ((x_up ((x_up ((x_up M (88 + w) 1 kd)) (88 + w) 2 1000)) (88 + w) 6 0)) (88 + w) 7 0)) (88 + w) 8 0)) (88 + w) 9 ((-1))))) else (u_moveTo w 3 ((-1)) ((-1)) ((x_up ((x_up ((x_up ((x_up ((x_up ((x_up M (88 + w) 1 kd)) (88 + w) 2 0)) (88 + w) 6 0)) (88 + w) 7 0)) (88 + w) 8 0)) (88 + w) 9 ((-1)))))
theorem k_wSetUp {z : Int} {P M : Int → Int → Int} (hS : x_Sh z P) (hT : y_TC M) (w : Int) (kd : Int) (hw : 0 ≤ w ∧ w < 60) (hkd : 0 ≤ kd ∧ kd ≤ 3) : x_CallR 66 [.inr (88 + w), .inl (kd)] (z, P, M) (fun q => q = (none, (z, P, u_wSetUp w kd M)) ∧ y_TL 0 M (u_wSetUp w kd M)) := by
  have tl0 : y_TL 0 M M := tl_refl hT
  refine e_body (ls0 := [.inr (88 + w), .inl (kd)]) xm66 rfl ?_
  refine e_aload (k := 0) (xi66 0) rfl (by omega) ?_
  refine e_iload (k := 1) (xi66 1) rfl ?_
  refine e_putI (j := 1) (k := 2) (xi66 2) (ok_wh hS hw) rfl ?_
  have tl1 : y_TL 0 M (x_up M (88 + w) 1 kd) := tl_up tl0 (sl_wh1 hw (by omega)) (nf_wh1 hw)
  refine e_aload (k := 3) (xi66 3) rfl (by omega) ?_
  refine e_aload (k := 4) (xi66 4) rfl (by omega) ?_
  have t2 := ty_wh1 tl1.1 hw
  have t3 : ((x_up M (88 + w) 1 kd)) (88 + w) 1 = kd := x_up_self
  refine e_call (k := 5) (v := some (.inl (x_b (((x_up M (88 + w) 1 kd)) (88 + w) 1 = 1 ∨ ((x_up M (88 + w) 1 kd)) (88 + w) 1 = 2)))) (h1 := (z, P, (x_up M (88 + w) 1 kd))) (c1 := 0) (c2 := 0) (rest := [.inr (88 + w)]) (as := [.inr (88 + w)]) (xi66 5) (by decide) xm71 rfl ⟨rfl, Nat.le_of_ble_eq_true rfl, by decide⟩ (Or.inr (x_okt (ok_wh hS hw))) (k_hasCharge hS tl1.1 w hw ) ?_
  refine e_b_eq (k := 6) (xi66 6) (fun c0 => ?_) (fun c0 => ?_)
  · skip
    refine e_iconst (k := 7) (xi66 7) ?_
    refine e_goto (k := 8) (xi66 8) ?_
    refine e_putI (j := 2) (k := 10) (xi66 10) (ok_wh hS hw) rfl ?_
    have tl4 : y_TL 0 M (x_up ((x_up M (88 + w) 1 kd)) (88 + w) 2 1000) := tl_up tl1 (sl_wh2 hw (by omega)) (nf_wh2 hw)
    refine e_aload (k := 11) (xi66 11) rfl (by omega) ?_
    refine e_iconst (k := 12) (xi66 12) ?_
    refine e_putI (j := 6) (k := 13) (xi66 13) (ok_wh hS hw) rfl ?_
    have tl5 : y_TL 0 M (x_up ((x_up ((x_up M (88 + w) 1 kd)) (88 + w) 2 1000)) (88 + w) 6 0) := tl_up tl4 (sl_wh6 hw ) (nf_wh6 hw)
    refine e_aload (k := 14) (xi66 14) rfl (by omega) ?_
    refine e_iconst (k := 15) (xi66 15) ?_
    refine e_putZ (j := 7) (k := 16) (xi66 16) (ok_wh hS hw) rfl (by first | decide | omega) ?_
    have tl6 : y_TL 0 M (x_up ((x_up ((x_up ((x_up M (88 + w) 1 kd)) (88 + w) 2 1000)) (88 + w) 6 0)) (88 + w) 7 0) := tl_up tl5 (sl_wh7 hw (by omega)) (nf_wh7 hw)
    refine e_aload (k := 17) (xi66 17) rfl (by omega) ?_
    refine e_iconst (k := 18) (xi66 18) ?_
    refine e_putZ (j := 8) (k := 19) (xi66 19) (ok_wh hS hw) rfl (by first | decide | omega) ?_
    have tl7 : y_TL 0 M (x_up ((x_up ((x_up ((x_up ((x_up M (88 + w) 1 kd)) (88 + w) 2 1000)) (88 + w) 6 0)) (88 + w) 7 0)) (88 + w) 8 0) := tl_up tl6 (sl_wh8 hw (by omega)) (nf_wh8 hw)
    refine e_aload (k := 20) (xi66 20) rfl (by omega) ?_
    refine e_iconst (k := 21) (xi66 21) ?_
    refine e_putI (j := 9) (k := 22) (xi66 22) (ok_wh hS hw) rfl ?_
    have tl8 : y_TL 0 M (x_up ((x_up ((x_up ((x_up ((x_up ((x_up M (88 + w) 1 kd)) (88 + w) 2 1000)) (88 + w) 6 0)) (88 + w) 7 0)) (88 + w) 8 0)) (88 + w) 9 ((-1))) := tl_up tl7 (sl_wh9 hw (by omega)) (nf_wh9 hw)
    refine e_aload (k := 23) (xi66 23) rfl (by omega) ?_
    refine e_iconst (k := 24) (xi66 24) ?_
    refine e_iconst (k := 25) (xi66 25) ?_
    refine e_iconst (k := 26) (xi66 26) ?_
    refine e_callR (k := 27) (c1 := 0) (c2 := 0) (rest := []) (as := [.inr (88 + w), .inl 3, .inl ((-1)), .inl ((-1))]) (xi66 27) (by decide) xm68 rfl ⟨rfl, Nat.le_of_ble_eq_true rfl, by decide⟩ (Or.inr (x_okt (ok_wh hS hw))) (k_moveTo hS tl8.1 w 3 ((-1)) ((-1)) hw (by omega) (by omega) (by omega)) ?_
    rintro v_ h_ ⟨e9, tl10⟩
    cases e9
    have tl12 := tl_trans tl8 (tl10)
    have n13 := tl_n tl10
    show x_Ev 66 28 [.inr (88 + w), .inl (kd)] [] (0, 0) (z, P, (u_moveTo w 3 ((-1)) ((-1)) ((x_up ((x_up ((x_up ((x_up ((x_up ((x_up M (88 + w) 1 kd)) (88 + w) 2 1000)) (88 + w) 6 0)) (88 + w) 7 0)) (88 + w) 8 0)) (88 + w) 9 ((-1)))))) _
    refine e_vret (k := 28) (xi66 28) ?_
    exact y_fU (show u_wSetUp w kd M = (u_moveTo w 3 ((-1)) ((-1)) ((x_up ((x_up ((x_up ((x_up ((x_up ((x_up M (88 + w) 1 kd)) (88 + w) 2 1000)) (88 + w) 6 0)) (88 + w) 7 0)) (88 + w) 8 0)) (88 + w) 9 ((-1))))) from by rw [u_wSetUp, if_pos c0]) tl12
  · skip
    refine e_iconst (k := 9) (xi66 9) ?_
    refine e_putI (j := 2) (k := 10) (xi66 10) (ok_wh hS hw) rfl ?_
    have tl14 : y_TL 0 M (x_up ((x_up M (88 + w) 1 kd)) (88 + w) 2 0) := tl_up tl1 (sl_wh2 hw (by omega)) (nf_wh2 hw)
    refine e_aload (k := 11) (xi66 11) rfl (by omega) ?_
    refine e_iconst (k := 12) (xi66 12) ?_
    refine e_putI (j := 6) (k := 13) (xi66 13) (ok_wh hS hw) rfl ?_
    have tl15 : y_TL 0 M (x_up ((x_up ((x_up M (88 + w) 1 kd)) (88 + w) 2 0)) (88 + w) 6 0) := tl_up tl14 (sl_wh6 hw ) (nf_wh6 hw)
    refine e_aload (k := 14) (xi66 14) rfl (by omega) ?_
    refine e_iconst (k := 15) (xi66 15) ?_
    refine e_putZ (j := 7) (k := 16) (xi66 16) (ok_wh hS hw) rfl (by first | decide | omega) ?_
    have tl16 : y_TL 0 M (x_up ((x_up ((x_up ((x_up M (88 + w) 1 kd)) (88 + w) 2 0)) (88 + w) 6 0)) (88 + w) 7 0) := tl_up tl15 (sl_wh7 hw (by omega)) (nf_wh7 hw)
    refine e_aload (k := 17) (xi66 17) rfl (by omega) ?_
    refine e_iconst (k := 18) (xi66 18) ?_
    refine e_putZ (j := 8) (k := 19) (xi66 19) (ok_wh hS hw) rfl (by first | decide | omega) ?_
    have tl17 : y_TL 0 M (x_up ((x_up ((x_up ((x_up ((x_up M (88 + w) 1 kd)) (88 + w) 2 0)) (88 + w) 6 0)) (88 + w) 7 0)) (88 + w) 8 0) := tl_up tl16 (sl_wh8 hw (by omega)) (nf_wh8 hw)
    refine e_aload (k := 20) (xi66 20) rfl (by omega) ?_
    refine e_iconst (k := 21) (xi66 21) ?_
    refine e_putI (j := 9) (k := 22) (xi66 22) (ok_wh hS hw) rfl ?_
    have tl18 : y_TL 0 M (x_up ((x_up ((x_up ((x_up ((x_up ((x_up M (88 + w) 1 kd)) (88 + w) 2 0)) (88 + w) 6 0)) (88 + w) 7 0)) (88 + w) 8 0)) (88 + w) 9 ((-1))) := tl_up tl17 (sl_wh9 hw (by omega)) (nf_wh9 hw)
    refine e_aload (k := 23) (xi66 23) rfl (by omega) ?_
    refine e_iconst (k := 24) (xi66 24) ?_
    refine e_iconst (k := 25) (xi66 25) ?_
    refine e_iconst (k := 26) (xi66 26) ?_
    refine e_callR (k := 27) (c1 := 0) (c2 := 0) (rest := []) (as := [.inr (88 + w), .inl 3, .inl ((-1)), .inl ((-1))]) (xi66 27) (by decide) xm68 rfl ⟨rfl, Nat.le_of_ble_eq_true rfl, by decide⟩ (Or.inr (x_okt (ok_wh hS hw))) (k_moveTo hS tl18.1 w 3 ((-1)) ((-1)) hw (by omega) (by omega) (by omega)) ?_
    rintro v_ h_ ⟨e19, tl20⟩
    cases e19
    have tl22 := tl_trans tl18 (tl20)
    have n23 := tl_n tl20
    show x_Ev 66 28 [.inr (88 + w), .inl (kd)] [] (0, 0) (z, P, (u_moveTo w 3 ((-1)) ((-1)) ((x_up ((x_up ((x_up ((x_up ((x_up ((x_up M (88 + w) 1 kd)) (88 + w) 2 0)) (88 + w) 6 0)) (88 + w) 7 0)) (88 + w) 8 0)) (88 + w) 9 ((-1)))))) _
    refine e_vret (k := 28) (xi66 28) ?_
    exact y_fU (show u_wSetUp w kd M = (u_moveTo w 3 ((-1)) ((-1)) ((x_up ((x_up ((x_up ((x_up ((x_up ((x_up M (88 + w) 1 kd)) (88 + w) 2 0)) (88 + w) 6 0)) (88 + w) 7 0)) (88 + w) 8 0)) (88 + w) 9 ((-1))))) from by rw [u_wSetUp, if_neg c0]) tl22
theorem k_allows {z : Int} {P M : Int → Int → Int} (hS : x_Sh z P) (hT : y_TC M) (n : Int)   : x_Call 8 [.inl (n)] (z, P, M) (some (.inl (x_b (0 ≤ n ∧ n ≤ 99)))) (z, P, M) := by
  refine e_body (ls0 := [.inl (n)]) xm8 rfl ?_
  refine e_iload (k := 0) (xi8 0) rfl ?_
  refine e_z_lt (k := 1) (xi8 1) (fun c0 => ?_) (fun c0 => ?_)
  · skip
    refine e_iconst (k := 7) (xi8 7) ?_
    refine e_zret (k := 8) (xi8 8) (by first | decide | omega) ?_
    exact x_bF (by omega)
  · skip
    refine e_iload (k := 2) (xi8 2) rfl ?_
    refine e_iconst (k := 3) (xi8 3) ?_
    refine e_c_gt (k := 4) (xi8 4) (fun c1 => ?_) (fun c1 => ?_)
    · skip
      refine e_iconst (k := 7) (xi8 7) ?_
      refine e_zret (k := 8) (xi8 8) (by first | decide | omega) ?_
      exact x_bF (by omega)
    · skip
      refine e_iconst (k := 5) (xi8 5) ?_
      refine e_goto (k := 6) (xi8 6) ?_
      refine e_zret (k := 8) (xi8 8) (by first | decide | omega) ?_
      exact x_bT (by omega)
def l_forget_a (s : Int) : Nat → (Int → Int → Int) → Int → (Int → Int → Int) × Int
  | 0, M, h => (M, h)
  | k + 1, M, h => if 24 ≤ h then (M, h) else l_forget_a s k ((x_up ((x_up M (8 + 7 * s) h 0)) (9 + 7 * s) h 0)) (1 + h)
theorem kl_forget_a {z : Int} {P M0 : Int → Int → Int} {r : Option xV × xH → Prop} (hS : x_Sh z P) (s : Int) (hs : 0 ≤ s ∧ s < 12)   : ∀ k : Nat, ∀ M : (Int → Int → Int), ∀ h : Int, y_TL 4 M0 M → (0 ≤ h ∧ h ≤ 24) → 24 - h < (k : Int) → (y_TL 4 M0 ((l_forget_a s k M h).1) → True → x_Ev 9 20 [.inr (7 + 7 * s), .inl ((l_forget_a s k M h).2)] [] (0, 0) (z, P, (l_forget_a s k M h).1) r) → x_Ev 9 5 [.inr (7 + 7 * s), .inl (h)] [] (0, 0) (z, P, M) r := by
  intro k
  induction k with
  | zero => intro M h tl0 hi hm; omega
  | succ k ih =>
    intro M h tl0 hi hm kk
    refine e_iload (k := 5) (xi9 5) rfl ?_
    refine e_iconst (k := 6) (xi9 6) ?_
    refine e_c_ge (k := 7) (xi9 7) (fun c0 => ?_) (fun c0 => ?_)
    · skip
      rw [(show l_forget_a s (k + 1) M h = (M, h) from by rw [l_forget_a, if_pos c0])] at kk
      try dsimp only at kk
      exact kk tl0 (by first | exact trivial | omega)
    · skip
      refine e_aload (k := 8) (xi9 8) rfl (by omega) ?_
      refine e_getR (j := 1) (w := 8 + 7 * s) (k := 9) (xi9 9) (ok_dem hS hs) rfl (sh_br hS hs) ?_
      refine e_iload (k := 10) (xi9 10) rfl ?_
      refine e_iconst (k := 11) (xi9 11) ?_
      refine e_iast (k := 12) (xi9 12) (ok_br hS hs) (by rw [(ln_br hs)]; omega) ?_
      have tl1 : y_TL 4 M0 (x_up M (8 + 7 * s) h 0) := tl_up tl0 (sl_br (j := h) hs (by omega)) (nf4 (by omega))
      refine e_aload (k := 13) (xi9 13) rfl (by omega) ?_
      refine e_getR (j := 2) (w := 9 + 7 * s) (k := 14) (xi9 14) (ok_dem hS hs) rfl (sh_wa hS hs) ?_
      refine e_iload (k := 15) (xi9 15) rfl ?_
      refine e_iconst (k := 16) (xi9 16) ?_
      refine e_iast (k := 17) (xi9 17) (ok_wa hS hs) (by rw [(ln_wa hs)]; omega) ?_
      have tl2 : y_TL 4 M0 (x_up ((x_up M (8 + 7 * s) h 0)) (9 + 7 * s) h 0) := tl_up tl1 (sl_wa (j := h) hs (by omega)) (nf4 (by omega))
      refine e_iinc (w := 1 + h) (k := 18) (xi9 18) rfl (x_wn (by omega)) ?_
      show x_Ev 9 19 [.inr (7 + 7 * s), .inl (1 + h)] [] (0, 0) (z, P, (x_up ((x_up M (8 + 7 * s) h 0)) (9 + 7 * s) h 0)) _
      refine e_goto (k := 19) (xi9 19) ?_
      rw [(show l_forget_a s (k + 1) M h = l_forget_a s k ((x_up ((x_up M (8 + 7 * s) h 0)) (9 + 7 * s) h 0)) (1 + h) from by rw [l_forget_a, if_neg c0])] at kk
      exact ih ((x_up ((x_up M (8 + 7 * s) h 0)) (9 + 7 * s) h 0)) (1 + h) tl2 (by omega) (by omega) kk
def u_forget (s : Int) (M : Int → Int → Int) : Int → Int → Int := (l_forget_a s 25 ((x_up M (7 + 7 * s) 0 0)) 0).1
theorem k_forget {z : Int} {P M : Int → Int → Int} (hS : x_Sh z P) (hT : y_TC M) (s : Int) (hs : 0 ≤ s ∧ s < 12)  : x_CallR 9 [.inr (7 + 7 * s)] (z, P, M) (fun q => q = (none, (z, P, u_forget s M)) ∧ y_TL 4 M (u_forget s M)) := by
  have tl0 : y_TL 4 M M := tl_refl hT
  refine e_body (ls0 := [.inr (7 + 7 * s), x_un]) xm9 rfl ?_
  refine e_aload (k := 0) (xi9 0) rfl (by omega) ?_
  refine e_iconst (k := 1) (xi9 1) ?_
  refine e_putZ (j := 0) (k := 2) (xi9 2) (ok_dem hS hs) rfl (by first | decide | omega) ?_
  have tl1 : y_TL 4 M (x_up M (7 + 7 * s) 0 0) := tl_up tl0 (sl_dem0 hs (by omega)) (nf4 (by omega))
  refine e_iconst (k := 3) (xi9 3) ?_
  refine e_istore (k := 4) (xi9 4) (Nat.le_of_ble_eq_true rfl) ?_
  show x_Ev 9 5 [.inr (7 + 7 * s), .inl 0] [] (0, 0) (z, P, (x_up M (7 + 7 * s) 0 0)) _
  refine kl_forget_a hS s  hs   25 ((x_up M (7 + 7 * s) 0 0)) 0 tl1 (by omega) (by omega) ?_
  intro tl2 q3
  show x_Ev 9 20 [.inr (7 + 7 * s), .inl ((l_forget_a s 25 ((x_up M (7 + 7 * s) 0 0)) 0).2)] [] (0, 0) (z, P, (l_forget_a s 25 ((x_up M (7 + 7 * s) 0 0)) 0).1) _
  refine e_vret (k := 20) (xi9 20) ?_
  exact y_fU (show u_forget s M = (l_forget_a s 25 ((x_up M (7 + 7 * s) 0 0)) 0).1 from rfl) tl2
def v_tellHour (s h b w : Int) (M : Int → Int → Int) : Int := if h < 0 then 0 else if 24 ≤ h then 0 else if 0 ≤ b ∧ b ≤ 99 then (if 0 ≤ w ∧ w ≤ 99 then 1 else 0) else 0
def u_tellHour (s h b w : Int) (M : Int → Int → Int) : Int → Int → Int := if h < 0 then M else if 24 ≤ h then M else if 0 ≤ b ∧ b ≤ 99 then (if 0 ≤ w ∧ w ≤ 99 then (x_up ((x_up ((x_up M (7 + 7 * s) 0 1)) (8 + 7 * s) h b)) (9 + 7 * s) h w) else M) else M
theorem k_tellHour {z : Int} {P M : Int → Int → Int} (hS : x_Sh z P) (hT : y_TC M) (s : Int) (h : Int) (b : Int) (w : Int) (hs : 0 ≤ s ∧ s < 12)  : x_CallR 11 [.inr (7 + 7 * s), .inl (h), .inl (b), .inl (w)] (z, P, M) (fun q => q = (some (.inl (v_tellHour s h b w M)), (z, P, u_tellHour s h b w M)) ∧ y_TL 4 M (u_tellHour s h b w M) ∧ True) := by
  have tl0 : y_TL 4 M M := tl_refl hT
  refine e_body (ls0 := [.inr (7 + 7 * s), .inl (h), .inl (b), .inl (w)]) xm11 rfl ?_
  refine e_iload (k := 0) (xi11 0) rfl ?_
  refine e_z_lt (k := 1) (xi11 1) (fun c0 => ?_) (fun c0 => ?_)
  · skip
    refine e_iconst (k := 11) (xi11 11) ?_
    refine e_zret (k := 12) (xi11 12) (by first | decide | omega) ?_
    exact y_fW (Q := fun _ => True) (show v_tellHour s h b w M = 0 from by rw [v_tellHour, if_pos c0]) (show u_tellHour s h b w M = M from by rw [u_tellHour, if_pos c0]) tl0 trivial
  · skip
    refine e_iload (k := 2) (xi11 2) rfl ?_
    refine e_iconst (k := 3) (xi11 3) ?_
    refine e_c_ge (k := 4) (xi11 4) (fun c1 => ?_) (fun c1 => ?_)
    · skip
      refine e_iconst (k := 11) (xi11 11) ?_
      refine e_zret (k := 12) (xi11 12) (by first | decide | omega) ?_
      exact y_fW (Q := fun _ => True) (show v_tellHour s h b w M = 0 from by rw [v_tellHour, if_neg c0, if_pos c1]) (show u_tellHour s h b w M = M from by rw [u_tellHour, if_neg c0, if_pos c1]) tl0 trivial
    · skip
      refine e_iload (k := 5) (xi11 5) rfl ?_
      refine e_call (k := 6) (v := some (.inl (x_b (0 ≤ b ∧ b ≤ 99)))) (h1 := (z, P, M)) (c1 := 0) (c2 := 0) (rest := []) (as := [.inl (b)]) (xi11 6) (by decide) xm8 rfl ⟨rfl, Nat.le_of_ble_eq_true rfl, by decide⟩ (Or.inl rfl) (k_allows hS tl0.1 b  ) ?_
      refine e_b_eq (k := 7) (xi11 7) (fun c2 => ?_) (fun c2 => ?_)
      · skip
        refine e_iload (k := 8) (xi11 8) rfl ?_
        refine e_call (k := 9) (v := some (.inl (x_b (0 ≤ w ∧ w ≤ 99)))) (h1 := (z, P, M)) (c1 := 0) (c2 := 0) (rest := []) (as := [.inl (w)]) (xi11 9) (by decide) xm8 rfl ⟨rfl, Nat.le_of_ble_eq_true rfl, by decide⟩ (Or.inl rfl) (k_allows hS tl0.1 w  ) ?_
        refine e_b_ne (k := 10) (xi11 10) (fun c3 => ?_) (fun c3 => ?_)
        · skip
          refine e_aload (k := 13) (xi11 13) rfl (by omega) ?_
          refine e_iconst (k := 14) (xi11 14) ?_
          refine e_putZ (j := 0) (k := 15) (xi11 15) (ok_dem hS hs) rfl (by first | decide | omega) ?_
          have tl1 : y_TL 4 M (x_up M (7 + 7 * s) 0 1) := tl_up tl0 (sl_dem0 hs (by omega)) (nf4 (by omega))
          refine e_aload (k := 16) (xi11 16) rfl (by omega) ?_
          refine e_getR (j := 1) (w := 8 + 7 * s) (k := 17) (xi11 17) (ok_dem hS hs) rfl (sh_br hS hs) ?_
          refine e_iload (k := 18) (xi11 18) rfl ?_
          refine e_iload (k := 19) (xi11 19) rfl ?_
          refine e_iast (k := 20) (xi11 20) (ok_br hS hs) (by rw [(ln_br hs)]; omega) ?_
          have tl2 : y_TL 4 M (x_up ((x_up M (7 + 7 * s) 0 1)) (8 + 7 * s) h b) := tl_up tl1 (sl_br (j := h) hs (by omega)) (nf4 (by omega))
          refine e_aload (k := 21) (xi11 21) rfl (by omega) ?_
          refine e_getR (j := 2) (w := 9 + 7 * s) (k := 22) (xi11 22) (ok_dem hS hs) rfl (sh_wa hS hs) ?_
          refine e_iload (k := 23) (xi11 23) rfl ?_
          refine e_iload (k := 24) (xi11 24) rfl ?_
          refine e_iast (k := 25) (xi11 25) (ok_wa hS hs) (by rw [(ln_wa hs)]; omega) ?_
          have tl3 : y_TL 4 M (x_up ((x_up ((x_up M (7 + 7 * s) 0 1)) (8 + 7 * s) h b)) (9 + 7 * s) h w) := tl_up tl2 (sl_wa (j := h) hs (by omega)) (nf4 (by omega))
          refine e_iconst (k := 26) (xi11 26) ?_
          refine e_zret (k := 27) (xi11 27) (by first | decide | omega) ?_
          exact y_fW (Q := fun _ => True) (show v_tellHour s h b w M = 1 from by rw [v_tellHour, if_neg c0, if_neg c1, if_pos c2, if_pos c3]) (show u_tellHour s h b w M = (x_up ((x_up ((x_up M (7 + 7 * s) 0 1)) (8 + 7 * s) h b)) (9 + 7 * s) h w) from by rw [u_tellHour, if_neg c0, if_neg c1, if_pos c2, if_pos c3]) tl3 trivial
        · skip
          refine e_iconst (k := 11) (xi11 11) ?_
          refine e_zret (k := 12) (xi11 12) (by first | decide | omega) ?_
          exact y_fW (Q := fun _ => True) (show v_tellHour s h b w M = 0 from by rw [v_tellHour, if_neg c0, if_neg c1, if_pos c2, if_neg c3]) (show u_tellHour s h b w M = M from by rw [u_tellHour, if_neg c0, if_neg c1, if_pos c2, if_neg c3]) tl0 trivial
      · skip
        refine e_iconst (k := 11) (xi11 11) ?_
        refine e_zret (k := 12) (xi11 12) (by first | decide | omega) ?_
        exact y_fW (Q := fun _ => True) (show v_tellHour s h b w M = 0 from by rw [v_tellHour, if_neg c0, if_neg c1, if_neg c2]) (show u_tellHour s h b w M = M from by rw [u_tellHour, if_neg c0, if_neg c1, if_neg c2]) tl0 trivial
theorem k_hasDock {z : Int} {P M : Int → Int → Int} (hS : x_Sh z P) (hT : y_TC M) (s : Int) (d : Int) (hs : 0 ≤ s ∧ s < 12)  : x_Call 17 [.inr (3 + 7 * s), .inl (d)] (z, P, M) (some (.inl (x_b (0 ≤ d ∧ d < M (3 + 7 * s) 1)))) (z, P, M) := by
  refine e_body (ls0 := [.inr (3 + 7 * s), .inl (d)]) xm17 rfl ?_
  refine e_iload (k := 0) (xi17 0) rfl ?_
  refine e_z_lt (k := 1) (xi17 1) (fun c0 => ?_) (fun c0 => ?_)
  · skip
    refine e_iconst (k := 11) (xi17 11) ?_
    refine e_zret (k := 12) (xi17 12) (by first | decide | omega) ?_
    exact x_bF (by omega)
  · skip
    refine e_iload (k := 2) (xi17 2) rfl ?_
    refine e_aload (k := 3) (xi17 3) rfl (by omega) ?_
    have t1 := ty_st1 hT hs
    refine e_getI (j := 1) (w := M (3 + 7 * s) 1) (k := 4) (xi17 4) (ok_st hS hs) rfl rfl ?_
    refine e_c_ge (k := 5) (xi17 5) (fun c1 => ?_) (fun c1 => ?_)
    · skip
      refine e_iconst (k := 11) (xi17 11) ?_
      refine e_zret (k := 12) (xi17 12) (by first | decide | omega) ?_
      exact x_bF (by omega)
    · skip
      refine e_iload (k := 6) (xi17 6) rfl ?_
      refine e_iconst (k := 7) (xi17 7) ?_
      refine e_c_ge (k := 8) (xi17 8) (fun c2 => ?_) (fun c2 => ?_)
      · skip
        refine e_iconst (k := 11) (xi17 11) ?_
        refine e_zret (k := 12) (xi17 12) (by first | decide | omega) ?_
        exact x_bF (by omega)
      · skip
        refine e_iconst (k := 9) (xi17 9) ?_
        refine e_goto (k := 10) (xi17 10) ?_
        refine e_zret (k := 12) (xi17 12) (by first | decide | omega) ?_
        exact x_bT (by omega)
def v_addOther (s o : Int) (M : Int → Int → Int) : Int := if max 0 (M (3 + 7 * s) 5) < 8 then 1 + max 0 (M (3 + 7 * s) 5) else (-1)
def u_addOther (s o : Int) (M : Int → Int → Int) : Int → Int → Int := if max 0 (M (3 + 7 * s) 5) < 8 then (x_up ((x_up M (6 + 7 * s) (max 0 (M (3 + 7 * s) 5)) o)) (3 + 7 * s) 5 (1 + max 0 (M (3 + 7 * s) 5))) else M
theorem k_addOther {z : Int} {P M : Int → Int → Int} (hS : x_Sh z P) (hT : y_TC M) (s : Int) (o : Int) (hs : 0 ≤ s ∧ s < 12) (ho : 0 ≤ o ∧ o ≤ 11) : x_CallR 18 [.inr (3 + 7 * s), .inl (o)] (z, P, M) (fun q => q = (some (.inl (v_addOther s o M)), (z, P, u_addOther s o M)) ∧ y_TL 4 M (u_addOther s o M) ∧ True) := by
  have tl0 : y_TL 4 M M := tl_refl hT
  refine e_body (ls0 := [.inr (3 + 7 * s), .inl (o), x_un]) xm18 rfl ?_
  refine e_iconst (k := 0) (xi18 0) ?_
  refine e_aload (k := 1) (xi18 1) rfl (by omega) ?_
  have t1 := ty_st5 tl0.1 hs
  refine e_getI (j := 5) (w := M (3 + 7 * s) 5) (k := 2) (xi18 2) (ok_st hS hs) rfl rfl ?_
  refine e_max (k := 3) (xi18 3) (Nat.le_of_ble_eq_true rfl) ?_
  refine e_istore (k := 4) (xi18 4) (Nat.le_of_ble_eq_true rfl) ?_
  show x_Ev 18 5 [.inr (3 + 7 * s), .inl (o), .inl (max 0 (M (3 + 7 * s) 5))] [] (0, 0) (z, P, M) _
  refine e_iload (k := 5) (xi18 5) rfl ?_
  refine e_iconst (k := 6) (xi18 6) ?_
  refine e_c_lt (k := 7) (xi18 7) (fun c0 => ?_) (fun c0 => ?_)
  · skip
    refine e_aload (k := 10) (xi18 10) rfl (by omega) ?_
    refine e_getR (j := 4) (w := 6 + 7 * s) (k := 11) (xi18 11) (ok_st hS hs) rfl (sh_oth hS hs) ?_
    refine e_iload (k := 12) (xi18 12) rfl ?_
    refine e_iload (k := 13) (xi18 13) rfl ?_
    refine e_iast (k := 14) (xi18 14) (ok_oth hS hs) (by rw [(ln_oth hs)]; omega) ?_
    have tl2 : y_TL 4 M (x_up M (6 + 7 * s) (max 0 (M (3 + 7 * s) 5)) o) := tl_up tl0 (sl_oth (j := max 0 (M (3 + 7 * s) 5)) hs (by omega)) (nf4 (by omega))
    refine e_aload (k := 15) (xi18 15) rfl (by omega) ?_
    refine e_iload (k := 16) (xi18 16) rfl ?_
    refine e_iconst (k := 17) (xi18 17) ?_
    refine e_iadd (w := 1 + max 0 (M (3 + 7 * s) 5)) (k := 18) (xi18 18) (x_wn (by omega)) ?_
    refine e_putI (j := 5) (k := 19) (xi18 19) (ok_st hS hs) rfl ?_
    have tl3 : y_TL 4 M (x_up ((x_up M (6 + 7 * s) (max 0 (M (3 + 7 * s) 5)) o)) (3 + 7 * s) 5 (1 + max 0 (M (3 + 7 * s) 5))) := tl_up tl2 (sl_st5 hs (by omega)) (nf4 (by omega))
    refine e_aload (k := 20) (xi18 20) rfl (by omega) ?_
    refine e_getI (j := 5) (w := 1 + max 0 (M (3 + 7 * s) 5)) (k := 21) (xi18 21) (ok_st hS hs) rfl x_up_self ?_
    refine e_iret (k := 22) (xi18 22) ?_
    exact y_fW (Q := fun _ => True) (show v_addOther s o M = 1 + max 0 (M (3 + 7 * s) 5) from by rw [v_addOther, if_pos c0]) (show u_addOther s o M = (x_up ((x_up M (6 + 7 * s) (max 0 (M (3 + 7 * s) 5)) o)) (3 + 7 * s) 5 (1 + max 0 (M (3 + 7 * s) 5))) from by rw [u_addOther, if_pos c0]) tl3 trivial
  · skip
    refine e_iconst (k := 8) (xi18 8) ?_
    refine e_iret (k := 9) (xi18 9) ?_
    exact y_fW (Q := fun _ => True) (show v_addOther s o M = (-1) from by rw [v_addOther, if_neg c0]) (show u_addOther s o M = M from by rw [u_addOther, if_neg c0]) tl0 trivial
def v_otherAt (s k : Int) (M : Int → Int → Int) : Int := if k < 0 then (-1) else if M (3 + 7 * s) 5 ≤ k then (-1) else if 8 ≤ k then (-1) else M (6 + 7 * s) k
theorem k_otherAt {z : Int} {P M : Int → Int → Int} (hS : x_Sh z P) (hT : y_TC M) (s : Int) (k : Int) (hs : 0 ≤ s ∧ s < 12)  : x_CallR 19 [.inr (3 + 7 * s), .inl (k)] (z, P, M) (fun q => q = (some (.inl (v_otherAt s k M)), (z, P, M)) ∧ True) := by
  refine e_body (ls0 := [.inr (3 + 7 * s), .inl (k)]) xm19 rfl ?_
  refine e_iload (k := 0) (xi19 0) rfl ?_
  refine e_z_lt (k := 1) (xi19 1) (fun c0 => ?_) (fun c0 => ?_)
  · skip
    refine e_iconst (k := 14) (xi19 14) ?_
    refine e_iret (k := 15) (xi19 15) ?_
    exact y_fV (Q := fun _ => True) (show v_otherAt s k M = (-1) from by rw [v_otherAt, if_pos c0]) trivial
  · skip
    refine e_iload (k := 2) (xi19 2) rfl ?_
    refine e_aload (k := 3) (xi19 3) rfl (by omega) ?_
    have t1 := ty_st5 hT hs
    refine e_getI (j := 5) (w := M (3 + 7 * s) 5) (k := 4) (xi19 4) (ok_st hS hs) rfl rfl ?_
    refine e_c_ge (k := 5) (xi19 5) (fun c1 => ?_) (fun c1 => ?_)
    · skip
      refine e_iconst (k := 14) (xi19 14) ?_
      refine e_iret (k := 15) (xi19 15) ?_
      exact y_fV (Q := fun _ => True) (show v_otherAt s k M = (-1) from by rw [v_otherAt, if_neg c0, if_pos c1]) trivial
    · skip
      refine e_iload (k := 6) (xi19 6) rfl ?_
      refine e_iconst (k := 7) (xi19 7) ?_
      refine e_c_ge (k := 8) (xi19 8) (fun c2 => ?_) (fun c2 => ?_)
      · skip
        refine e_iconst (k := 14) (xi19 14) ?_
        refine e_iret (k := 15) (xi19 15) ?_
        exact y_fV (Q := fun _ => True) (show v_otherAt s k M = (-1) from by rw [v_otherAt, if_neg c0, if_neg c1, if_pos c2]) trivial
      · skip
        refine e_aload (k := 9) (xi19 9) rfl (by omega) ?_
        refine e_getR (j := 4) (w := 6 + 7 * s) (k := 10) (xi19 10) (ok_st hS hs) rfl (sh_oth hS hs) ?_
        refine e_iload (k := 11) (xi19 11) rfl ?_
        have t2 := ty_oth (j := k) hT hs (by omega)
        refine e_iald (w := M (6 + 7 * s) k) (k := 12) (xi19 12) (ok_oth hS hs) (by rw [(ln_oth hs)]; omega) rfl ?_
        refine e_goto (k := 13) (xi19 13) ?_
        refine e_iret (k := 15) (xi19 15) ?_
        exact y_fV (Q := fun _ => True) (show v_otherAt s k M = M (6 + 7 * s) k from by rw [v_otherAt, if_neg c0, if_neg c1, if_neg c2]) trivial
def v_lengthTo (s t : Int) (M : Int → Int → Int) : Int := if t < 0 then 999 else if 12 ≤ t then 999 else M (5 + 7 * s) t
theorem k_lengthTo {z : Int} {P M : Int → Int → Int} (hS : x_Sh z P) (hT : y_TC M) (s : Int) (t : Int) (hs : 0 ≤ s ∧ s < 12)  : x_CallR 20 [.inr (3 + 7 * s), .inl (t)] (z, P, M) (fun q => q = (some (.inl (v_lengthTo s t M)), (z, P, M)) ∧ (fun v => 0 ≤ v ∧ v ≤ 999) (v_lengthTo s t M)) := by
  refine e_body (ls0 := [.inr (3 + 7 * s), .inl (t)]) xm20 rfl ?_
  refine e_iload (k := 0) (xi20 0) rfl ?_
  refine e_z_lt (k := 1) (xi20 1) (fun c0 => ?_) (fun c0 => ?_)
  · skip
    refine e_iconst (k := 10) (xi20 10) ?_
    refine e_iret (k := 11) (xi20 11) ?_
    exact y_fV (Q := fun v => 0 ≤ v ∧ v ≤ 999) (show v_lengthTo s t M = 999 from by rw [v_lengthTo, if_pos c0]) (by omega)
  · skip
    refine e_iload (k := 2) (xi20 2) rfl ?_
    refine e_iconst (k := 3) (xi20 3) ?_
    refine e_c_ge (k := 4) (xi20 4) (fun c1 => ?_) (fun c1 => ?_)
    · skip
      refine e_iconst (k := 10) (xi20 10) ?_
      refine e_iret (k := 11) (xi20 11) ?_
      exact y_fV (Q := fun v => 0 ≤ v ∧ v ≤ 999) (show v_lengthTo s t M = 999 from by rw [v_lengthTo, if_neg c0, if_pos c1]) (by omega)
    · skip
      refine e_aload (k := 5) (xi20 5) rfl (by omega) ?_
      refine e_getR (j := 3) (w := 5 + 7 * s) (k := 6) (xi20 6) (ok_st hS hs) rfl (sh_len hS hs) ?_
      refine e_iload (k := 7) (xi20 7) rfl ?_
      have t1 := ty_len (j := t) hT hs (by omega)
      refine e_iald (w := M (5 + 7 * s) t) (k := 8) (xi20 8) (ok_len hS hs) (by rw [(ln_len hs)]; omega) rfl ?_
      refine e_goto (k := 9) (xi20 9) ?_
      refine e_iret (k := 11) (xi20 11) ?_
      exact y_fV (Q := fun v => 0 ≤ v ∧ v ≤ 999) (show v_lengthTo s t M = M (5 + 7 * s) t from by rw [v_lengthTo, if_neg c0, if_neg c1]) (by omega)
def l_docksWith_a (s x : Int) (M : Int → Int → Int) : Nat → Int → Int → Int × Int
  | 0, n, d => (n, d)
  | k + 1, n, d => if M (3 + 7 * s) 1 ≤ d then (n, d) else if ¬ M (4 + 7 * s) d = x then l_docksWith_a s x M k n (1 + d) else l_docksWith_a s x M k (1 + n) (1 + d)
theorem kl_docksWith_a {z : Int} {P M : Int → Int → Int} {r : Option xV × xH → Prop} (hS : x_Sh z P) (hT : y_TC M) (s : Int) (x : Int) (hs : 0 ≤ s ∧ s < 12)   : ∀ k : Nat, ∀ n : Int, ∀ d : Int, (0 ≤ n ∧ n ≤ d ∧ d ≤ M (3 + 7 * s) 1) → 12 - d < (k : Int) → (0 ≤ ((l_docksWith_a s x M k n d).1) ∧ ((l_docksWith_a s x M k n d).1) ≤ M (3 + 7 * s) 1 → x_Ev 21 17 [.inr (3 + 7 * s), .inl (x), .inl ((l_docksWith_a s x M k n d).1), .inl ((l_docksWith_a s x M k n d).2)] [] (0, 0) (z, P, M) r) → x_Ev 21 4 [.inr (3 + 7 * s), .inl (x), .inl (n), .inl (d)] [] (0, 0) (z, P, M) r := by
  have hk1 := ty_st1 hT hs
  intro k
  induction k with
  | zero => intro n d hi hm; omega
  | succ k ih =>
    intro n d hi hm kk
    refine e_iload (k := 4) (xi21 4) rfl ?_
    refine e_aload (k := 5) (xi21 5) rfl (by omega) ?_
    have t1 := ty_st1 hT hs
    refine e_getI (j := 1) (w := M (3 + 7 * s) 1) (k := 6) (xi21 6) (ok_st hS hs) rfl rfl ?_
    refine e_c_ge (k := 7) (xi21 7) (fun c0 => ?_) (fun c0 => ?_)
    · skip
      rw [(show l_docksWith_a s x M (k + 1) n d = (n, d) from by rw [l_docksWith_a, if_pos c0])] at kk
      try dsimp only at kk
      exact kk (by first | exact trivial | omega)
    · skip
      refine e_aload (k := 8) (xi21 8) rfl (by omega) ?_
      refine e_getR (j := 2) (w := 4 + 7 * s) (k := 9) (xi21 9) (ok_st hS hs) rfl (sh_con hS hs) ?_
      refine e_iload (k := 10) (xi21 10) rfl ?_
      have t2 := ty_con (j := d) hT hs (by omega)
      refine e_iald (w := M (4 + 7 * s) d) (k := 11) (xi21 11) (ok_con hS hs) (by rw [(ln_con hs)]; omega) rfl ?_
      refine e_iload (k := 12) (xi21 12) rfl ?_
      refine e_c_ne (k := 13) (xi21 13) (fun c1 => ?_) (fun c1 => ?_)
      · skip
        refine e_iinc (w := 1 + d) (k := 15) (xi21 15) rfl (x_wn (by omega)) ?_
        show x_Ev 21 16 [.inr (3 + 7 * s), .inl (x), .inl (n), .inl (1 + d)] [] (0, 0) (z, P, M) _
        refine e_goto (k := 16) (xi21 16) ?_
        rw [(show l_docksWith_a s x M (k + 1) n d = l_docksWith_a s x M k n (1 + d) from by rw [l_docksWith_a, if_neg c0, if_pos c1])] at kk
        exact ih n (1 + d) (by omega) (by omega) kk
      · skip
        refine e_iinc (w := 1 + n) (k := 14) (xi21 14) rfl (x_wn (by omega)) ?_
        show x_Ev 21 15 [.inr (3 + 7 * s), .inl (x), .inl (1 + n), .inl (d)] [] (0, 0) (z, P, M) _
        refine e_iinc (w := 1 + d) (k := 15) (xi21 15) rfl (x_wn (by omega)) ?_
        show x_Ev 21 16 [.inr (3 + 7 * s), .inl (x), .inl (1 + n), .inl (1 + d)] [] (0, 0) (z, P, M) _
        refine e_goto (k := 16) (xi21 16) ?_
        rw [(show l_docksWith_a s x M (k + 1) n d = l_docksWith_a s x M k (1 + n) (1 + d) from by rw [l_docksWith_a, if_neg c0, if_neg c1])] at kk
        exact ih (1 + n) (1 + d) (by omega) (by omega) kk
def v_docksWith (s x : Int) (M : Int → Int → Int) : Int := (l_docksWith_a s x M 13 0 0).1
theorem k_docksWith {z : Int} {P M : Int → Int → Int} (hS : x_Sh z P) (hT : y_TC M) (s : Int) (x : Int) (hs : 0 ≤ s ∧ s < 12)  : x_CallR 21 [.inr (3 + 7 * s), .inl (x)] (z, P, M) (fun q => q = (some (.inl (v_docksWith s x M)), (z, P, M)) ∧ (fun v => 0 ≤ v ∧ v ≤ M (3 + 7 * s) 1) (v_docksWith s x M)) := by
  have hk1 := ty_st1 hT hs
  refine e_body (ls0 := [.inr (3 + 7 * s), .inl (x), x_un, x_un]) xm21 rfl ?_
  refine e_iconst (k := 0) (xi21 0) ?_
  refine e_istore (k := 1) (xi21 1) (Nat.le_of_ble_eq_true rfl) ?_
  show x_Ev 21 2 [.inr (3 + 7 * s), .inl (x), .inl 0, x_un] [] (0, 0) (z, P, M) _
  refine e_iconst (k := 2) (xi21 2) ?_
  refine e_istore (k := 3) (xi21 3) (Nat.le_of_ble_eq_true rfl) ?_
  show x_Ev 21 4 [.inr (3 + 7 * s), .inl (x), .inl 0, .inl 0] [] (0, 0) (z, P, M) _
  refine kl_docksWith_a hS hT s x  hs   13 0 0 (by omega) (by omega) ?_
  intro q2
  show x_Ev 21 17 [.inr (3 + 7 * s), .inl (x), .inl ((l_docksWith_a s x M 13 0 0).1), .inl ((l_docksWith_a s x M 13 0 0).2)] [] (0, 0) (z, P, M) _
  refine e_iload (k := 17) (xi21 17) rfl ?_
  refine e_iret (k := 18) (xi21 18) ?_
  exact y_fV (Q := fun v => 0 ≤ v ∧ v ≤ M (3 + 7 * s) 1) (show v_docksWith s x M = (l_docksWith_a s x M 13 0 0).1 from rfl) (by omega)
def v_freeDocks (s : Int) (M : Int → Int → Int) : Int := v_docksWith s ((-1)) M
theorem k_freeDocks {z : Int} {P M : Int → Int → Int} (hS : x_Sh z P) (hT : y_TC M) (s : Int) (hs : 0 ≤ s ∧ s < 12)  : x_CallR 22 [.inr (3 + 7 * s)] (z, P, M) (fun q => q = (some (.inl (v_freeDocks s M)), (z, P, M)) ∧ (fun v => 0 ≤ v ∧ v ≤ 12) (v_freeDocks s M)) := by
  have hk1 := ty_st1 hT hs
  refine e_body (ls0 := [.inr (3 + 7 * s)]) xm22 rfl ?_
  refine e_aload (k := 0) (xi22 0) rfl (by omega) ?_
  refine e_iconst (k := 1) (xi22 1) ?_
  refine e_callR (k := 2) (c1 := 0) (c2 := 0) (rest := []) (as := [.inr (3 + 7 * s), .inl ((-1))]) (xi22 2) (by decide) xm21 rfl ⟨rfl, Nat.le_of_ble_eq_true rfl, by decide⟩ (Or.inr (x_okt (ok_st hS hs))) (k_docksWith hS hT s ((-1)) hs ) ?_
  rintro v_ h_ ⟨e1, q3⟩
  cases e1
  show x_Ev 22 3 [.inr (3 + 7 * s)] [.inl (v_docksWith s ((-1)) M)] (0, 0) (z, P, M) _
  refine e_iret (k := 3) (xi22 3) ?_
  exact y_fV (Q := fun v => 0 ≤ v ∧ v ≤ 12) (show v_freeDocks s M = v_docksWith s ((-1)) M from rfl) (by omega)
def v_usableDocks (s : Int) (M : Int → Int → Int) : Int := M (3 + 7 * s) 1 - v_docksWith s ((-2)) M
theorem k_usableDocks {z : Int} {P M : Int → Int → Int} (hS : x_Sh z P) (hT : y_TC M) (s : Int) (hs : 0 ≤ s ∧ s < 12)  : x_CallR 23 [.inr (3 + 7 * s)] (z, P, M) (fun q => q = (some (.inl (v_usableDocks s M)), (z, P, M)) ∧ (fun v => 0 ≤ v ∧ v ≤ 12) (v_usableDocks s M)) := by
  have hk1 := ty_st1 hT hs
  refine e_body (ls0 := [.inr (3 + 7 * s)]) xm23 rfl ?_
  refine e_aload (k := 0) (xi23 0) rfl (by omega) ?_
  have t1 := ty_st1 hT hs
  refine e_getI (j := 1) (w := M (3 + 7 * s) 1) (k := 1) (xi23 1) (ok_st hS hs) rfl rfl ?_
  refine e_aload (k := 2) (xi23 2) rfl (by omega) ?_
  refine e_iconst (k := 3) (xi23 3) ?_
  refine e_callR (k := 4) (c1 := 0) (c2 := 0) (rest := [.inl (M (3 + 7 * s) 1)]) (as := [.inr (3 + 7 * s), .inl ((-2))]) (xi23 4) (by decide) xm21 rfl ⟨rfl, Nat.le_of_ble_eq_true rfl, by decide⟩ (Or.inr (x_okt (ok_st hS hs))) (k_docksWith hS hT s ((-2)) hs ) ?_
  rintro v_ h_ ⟨e2, q4⟩
  cases e2
  show x_Ev 23 5 [.inr (3 + 7 * s)] [.inl (v_docksWith s ((-2)) M), .inl (M (3 + 7 * s) 1)] (0, 0) (z, P, M) _
  refine e_isub (w := M (3 + 7 * s) 1 - v_docksWith s ((-2)) M) (k := 5) (xi23 5) (x_wn (by omega)) ?_
  refine e_iret (k := 6) (xi23 6) ?_
  exact y_fV (Q := fun v => 0 ≤ v ∧ v ≤ 12) (show v_usableDocks s M = M (3 + 7 * s) 1 - v_docksWith s ((-2)) M from rfl) (by omega)
theorem k_isFree {z : Int} {P M : Int → Int → Int} (hS : x_Sh z P) (hT : y_TC M) (s : Int) (d : Int) (n : Int) (hs : 0 ≤ s ∧ s < 12) (hn : 1 ≤ n ∧ n ≤ 2) : x_Call 24 [.inr (3 + 7 * s), .inl (d), .inl (n)] (z, P, M) (some (.inl (x_b ((0 ≤ d ∧ (-1) + d + n < M (3 + 7 * s) 1) ∧ M (4 + 7 * s) d = -1 ∧ M (4 + 7 * s) ((-1) + d + n) = -1)))) (z, P, M) := by
  have hk1 := ty_st1 hT hs
  refine e_body (ls0 := [.inr (3 + 7 * s), .inl (d), .inl (n)]) xm24 rfl ?_
  refine e_aload (k := 0) (xi24 0) rfl (by omega) ?_
  refine e_iload (k := 1) (xi24 1) rfl ?_
  have t1 := ty_st1 hT hs
  refine e_call (k := 2) (v := some (.inl (x_b (0 ≤ d ∧ d < M (3 + 7 * s) 1)))) (h1 := (z, P, M)) (c1 := 0) (c2 := 0) (rest := []) (as := [.inr (3 + 7 * s), .inl (d)]) (xi24 2) (by decide) xm17 rfl ⟨rfl, Nat.le_of_ble_eq_true rfl, by decide⟩ (Or.inr (x_okt (ok_st hS hs))) (k_hasDock hS hT s d hs ) ?_
  refine e_b_eq (k := 3) (xi24 3) (fun c0 => ?_) (fun c0 => ?_)
  · skip
    refine e_aload (k := 4) (xi24 4) rfl (by omega) ?_
    refine e_iload (k := 5) (xi24 5) rfl ?_
    refine e_iload (k := 6) (xi24 6) rfl ?_
    refine e_iadd (w := d + n) (k := 7) (xi24 7) (x_wn (by omega)) ?_
    refine e_iconst (k := 8) (xi24 8) ?_
    refine e_isub (w := (-1) + d + n) (k := 9) (xi24 9) (x_wn (by omega)) ?_
    refine e_call (k := 10) (v := some (.inl (x_b (0 ≤ ((-1) + d + n) ∧ ((-1) + d + n) < M (3 + 7 * s) 1)))) (h1 := (z, P, M)) (c1 := 0) (c2 := 0) (rest := []) (as := [.inr (3 + 7 * s), .inl ((-1) + d + n)]) (xi24 10) (by decide) xm17 rfl ⟨rfl, Nat.le_of_ble_eq_true rfl, by decide⟩ (Or.inr (x_okt (ok_st hS hs))) (k_hasDock hS hT s ((-1) + d + n) hs ) ?_
    refine e_b_ne (k := 11) (xi24 11) (fun c1 => ?_) (fun c1 => ?_)
    · skip
      refine e_aload (k := 14) (xi24 14) rfl (by omega) ?_
      refine e_getR (j := 2) (w := 4 + 7 * s) (k := 15) (xi24 15) (ok_st hS hs) rfl (sh_con hS hs) ?_
      refine e_iload (k := 16) (xi24 16) rfl ?_
      have t2 := ty_con (j := d) hT hs (by omega)
      refine e_iald (w := M (4 + 7 * s) d) (k := 17) (xi24 17) (ok_con hS hs) (by rw [(ln_con hs)]; omega) rfl ?_
      refine e_iconst (k := 18) (xi24 18) ?_
      refine e_c_ne (k := 19) (xi24 19) (fun c2 => ?_) (fun c2 => ?_)
      · skip
        refine e_iconst (k := 32) (xi24 32) ?_
        refine e_zret (k := 33) (xi24 33) (by first | decide | omega) ?_
        exact x_bF (by omega)
      · skip
        refine e_aload (k := 20) (xi24 20) rfl (by omega) ?_
        refine e_getR (j := 2) (w := 4 + 7 * s) (k := 21) (xi24 21) (ok_st hS hs) rfl (sh_con hS hs) ?_
        refine e_iload (k := 22) (xi24 22) rfl ?_
        refine e_iload (k := 23) (xi24 23) rfl ?_
        refine e_iadd (w := d + n) (k := 24) (xi24 24) (x_wn (by omega)) ?_
        refine e_iconst (k := 25) (xi24 25) ?_
        refine e_isub (w := (-1) + d + n) (k := 26) (xi24 26) (x_wn (by omega)) ?_
        have t3 := ty_con (j := (-1) + d + n) hT hs (by omega)
        refine e_iald (w := M (4 + 7 * s) ((-1) + d + n)) (k := 27) (xi24 27) (ok_con hS hs) (by rw [(ln_con hs)]; omega) rfl ?_
        refine e_iconst (k := 28) (xi24 28) ?_
        refine e_c_ne (k := 29) (xi24 29) (fun c3 => ?_) (fun c3 => ?_)
        · skip
          refine e_iconst (k := 32) (xi24 32) ?_
          refine e_zret (k := 33) (xi24 33) (by first | decide | omega) ?_
          exact x_bF (by omega)
        · skip
          refine e_iconst (k := 30) (xi24 30) ?_
          refine e_goto (k := 31) (xi24 31) ?_
          refine e_zret (k := 33) (xi24 33) (by first | decide | omega) ?_
          exact x_bT (by omega)
    · skip
      refine e_iconst (k := 12) (xi24 12) ?_
      refine e_zret (k := 13) (xi24 13) (by first | decide | omega) ?_
      exact x_bF (by omega)
  · skip
    refine e_iconst (k := 12) (xi24 12) ?_
    refine e_zret (k := 13) (xi24 13) (by first | decide | omega) ?_
    exact x_bF (by omega)
def w_roomFor_a (s n : Int) (M : Int → Int → Int) : Nat → Int → Int
  | 0, d => 0
  | k + 1, d => if M (3 + 7 * s) 1 ≤ d then (-1) else if (0 ≤ d ∧ (-1) + d + n < M (3 + 7 * s) 1) ∧ M (4 + 7 * s) d = -1 ∧ M (4 + 7 * s) ((-1) + d + n) = -1 then d else w_roomFor_a s n M k (1 + d)
theorem kw_roomFor_a {z : Int} {P M : Int → Int → Int} (hS : x_Sh z P) (hT : y_TC M) (s : Int) (n : Int) (hs : 0 ≤ s ∧ s < 12)  (hn : 1 ≤ n ∧ n ≤ 2) : ∀ k : Nat, ∀ d : Int, (0 ≤ d ∧ d ≤ M (3 + 7 * s) 1) → 12 - d < (k : Int) → x_Ev 25 2 [.inr (3 + 7 * s), .inl (n), .inl (d)] [] (0, 0) (z, P, M) (fun q => q = (some (.inl (w_roomFor_a s n M k d)), (z, P, M)) ∧ (fun v => -1 ≤ v ∧ v ≤ 12 - n) (w_roomFor_a s n M k d)) := by
  have hk1 := ty_st1 hT hs
  intro k
  induction k with
  | zero => intro d hi hm; omega
  | succ k ih =>
    intro d hi hm
    refine e_iload (k := 2) (xi25 2) rfl ?_
    refine e_aload (k := 3) (xi25 3) rfl (by omega) ?_
    have t1 := ty_st1 hT hs
    refine e_getI (j := 1) (w := M (3 + 7 * s) 1) (k := 4) (xi25 4) (ok_st hS hs) rfl rfl ?_
    refine e_c_ge (k := 5) (xi25 5) (fun c0 => ?_) (fun c0 => ?_)
    · skip
      refine e_iconst (k := 15) (xi25 15) ?_
      refine e_iret (k := 16) (xi25 16) ?_
      exact y_fV (Q := fun v => -1 ≤ v ∧ v ≤ 12 - n) (show w_roomFor_a s n M (k + 1) d = (-1) from by rw [w_roomFor_a, if_pos c0]) (by omega)
    · skip
      refine e_aload (k := 6) (xi25 6) rfl (by omega) ?_
      refine e_iload (k := 7) (xi25 7) rfl ?_
      refine e_iload (k := 8) (xi25 8) rfl ?_
      refine e_call (k := 9) (v := some (.inl (x_b ((0 ≤ d ∧ (-1) + d + n < M (3 + 7 * s) 1) ∧ M (4 + 7 * s) d = -1 ∧ M (4 + 7 * s) ((-1) + d + n) = -1)))) (h1 := (z, P, M)) (c1 := 0) (c2 := 0) (rest := []) (as := [.inr (3 + 7 * s), .inl (d), .inl (n)]) (xi25 9) (by decide) xm24 rfl ⟨rfl, Nat.le_of_ble_eq_true rfl, by decide⟩ (Or.inr (x_okt (ok_st hS hs))) (k_isFree hS hT s d n hs (by omega)) ?_
      refine e_b_eq (k := 10) (xi25 10) (fun c1 => ?_) (fun c1 => ?_)
      · skip
        refine e_iload (k := 11) (xi25 11) rfl ?_
        refine e_iret (k := 12) (xi25 12) ?_
        exact y_fV (Q := fun v => -1 ≤ v ∧ v ≤ 12 - n) (show w_roomFor_a s n M (k + 1) d = d from by rw [w_roomFor_a, if_neg c0, if_pos c1]) (by omega)
      · skip
        refine e_iinc (w := 1 + d) (k := 13) (xi25 13) rfl (x_wn (by omega)) ?_
        show x_Ev 25 14 [.inr (3 + 7 * s), .inl (n), .inl (1 + d)] [] (0, 0) (z, P, M) _
        refine e_goto (k := 14) (xi25 14) ?_
        rw [(show w_roomFor_a s n M (k + 1) d = w_roomFor_a s n M k (1 + d) from by rw [w_roomFor_a, if_neg c0, if_neg c1])]
        exact ih (1 + d) (by omega) (by omega)
def v_roomFor (s n : Int) (M : Int → Int → Int) : Int := w_roomFor_a s n M 13 0
theorem k_roomFor {z : Int} {P M : Int → Int → Int} (hS : x_Sh z P) (hT : y_TC M) (s : Int) (n : Int) (hs : 0 ≤ s ∧ s < 12) (hn : 1 ≤ n ∧ n ≤ 2) : x_CallR 25 [.inr (3 + 7 * s), .inl (n)] (z, P, M) (fun q => q = (some (.inl (v_roomFor s n M)), (z, P, M)) ∧ (fun v => -1 ≤ v ∧ v ≤ 12 - n) (v_roomFor s n M)) := by
  have hk1 := ty_st1 hT hs
  refine e_body (ls0 := [.inr (3 + 7 * s), .inl (n), x_un]) xm25 rfl ?_
  refine e_iconst (k := 0) (xi25 0) ?_
  refine e_istore (k := 1) (xi25 1) (Nat.le_of_ble_eq_true rfl) ?_
  show x_Ev 25 2 [.inr (3 + 7 * s), .inl (n), .inl 0] [] (0, 0) (z, P, M) _
  refine x_ev_mono (kw_roomFor_a hS hT s n  hs  (by omega) 13 0 (by omega) (by omega)) ?_
  rintro _ ⟨e1, q3⟩
  cases e1
  exact y_fV (Q := fun v => -1 ≤ v ∧ v ≤ 12 - n) (show v_roomFor s n M = w_roomFor_a s n M 13 0 from rfl) (by omega)
def l_fill_a (s d n x : Int) : Nat → (Int → Int → Int) → Int → (Int → Int → Int) × Int
  | 0, M, i => (M, i)
  | k + 1, M, i => if n ≤ i then (M, i) else if 0 ≤ (d + i) ∧ (d + i) < M (3 + 7 * s) 1 then l_fill_a s d n x k ((x_up M (4 + 7 * s) (d + i) x)) (1 + i) else l_fill_a s d n x k M (1 + i)
theorem kl_fill_a {z : Int} {P M0 : Int → Int → Int} {r : Option xV × xH → Prop} (hS : x_Sh z P) (s : Int) (d : Int) (n : Int) (x : Int) (hs : 0 ≤ s ∧ s < 12)  (hd : -1 ≤ d ∧ d ≤ 12) (hn : 1 ≤ n ∧ n ≤ 2) (hx : -2 ≤ x ∧ x ≤ 59) : ∀ k : Nat, ∀ M : (Int → Int → Int), ∀ i : Int, y_TL 0 M0 M → (0 ≤ i ∧ i ≤ 2) → 2 - i < (k : Int) → (y_TL 0 M0 ((l_fill_a s d n x k M i).1) → True → x_Ev 26 20 [.inr (3 + 7 * s), .inl (d), .inl (n), .inl (x), .inl ((l_fill_a s d n x k M i).2)] [] (0, 0) (z, P, (l_fill_a s d n x k M i).1) r) → x_Ev 26 2 [.inr (3 + 7 * s), .inl (d), .inl (n), .inl (x), .inl (i)] [] (0, 0) (z, P, M) r := by
  intro k
  induction k with
  | zero => intro M i tl0 hi hm; omega
  | succ k ih =>
    intro M i tl0 hi hm kk
    refine e_iload (k := 2) (xi26 2) rfl ?_
    refine e_iload (k := 3) (xi26 3) rfl ?_
    refine e_c_ge (k := 4) (xi26 4) (fun c0 => ?_) (fun c0 => ?_)
    · skip
      rw [(show l_fill_a s d n x (k + 1) M i = (M, i) from by rw [l_fill_a, if_pos c0])] at kk
      try dsimp only at kk
      exact kk tl0 (by first | exact trivial | omega)
    · skip
      refine e_aload (k := 5) (xi26 5) rfl (by omega) ?_
      refine e_iload (k := 6) (xi26 6) rfl ?_
      refine e_iload (k := 7) (xi26 7) rfl ?_
      refine e_iadd (w := d + i) (k := 8) (xi26 8) (x_wn (by omega)) ?_
      have t1 := ty_st1 tl0.1 hs
      refine e_call (k := 9) (v := some (.inl (x_b (0 ≤ (d + i) ∧ (d + i) < M (3 + 7 * s) 1)))) (h1 := (z, P, M)) (c1 := 0) (c2 := 0) (rest := []) (as := [.inr (3 + 7 * s), .inl (d + i)]) (xi26 9) (by decide) xm17 rfl ⟨rfl, Nat.le_of_ble_eq_true rfl, by decide⟩ (Or.inr (x_okt (ok_st hS hs))) (k_hasDock hS tl0.1 s (d + i) hs ) ?_
      refine e_b_eq (k := 10) (xi26 10) (fun c1 => ?_) (fun c1 => ?_)
      · skip
        refine e_aload (k := 11) (xi26 11) rfl (by omega) ?_
        refine e_getR (j := 2) (w := 4 + 7 * s) (k := 12) (xi26 12) (ok_st hS hs) rfl (sh_con hS hs) ?_
        refine e_iload (k := 13) (xi26 13) rfl ?_
        refine e_iload (k := 14) (xi26 14) rfl ?_
        refine e_iadd (w := d + i) (k := 15) (xi26 15) (x_wn (by omega)) ?_
        refine e_iload (k := 16) (xi26 16) rfl ?_
        refine e_iast (k := 17) (xi26 17) (ok_con hS hs) (by rw [(ln_con hs)]; omega) ?_
        have tl2 : y_TL 0 M0 (x_up M (4 + 7 * s) (d + i) x) := tl_up tl0 (sl_con (j := d + i) hs (by omega)) (nf_con (j := d + i) hs)
        refine e_iinc (w := 1 + i) (k := 18) (xi26 18) rfl (x_wn (by omega)) ?_
        show x_Ev 26 19 [.inr (3 + 7 * s), .inl (d), .inl (n), .inl (x), .inl (1 + i)] [] (0, 0) (z, P, (x_up M (4 + 7 * s) (d + i) x)) _
        refine e_goto (k := 19) (xi26 19) ?_
        rw [(show l_fill_a s d n x (k + 1) M i = l_fill_a s d n x k ((x_up M (4 + 7 * s) (d + i) x)) (1 + i) from by rw [l_fill_a, if_neg c0, if_pos c1])] at kk
        exact ih ((x_up M (4 + 7 * s) (d + i) x)) (1 + i) tl2 (by omega) (by omega) kk
      · skip
        refine e_iinc (w := 1 + i) (k := 18) (xi26 18) rfl (x_wn (by omega)) ?_
        show x_Ev 26 19 [.inr (3 + 7 * s), .inl (d), .inl (n), .inl (x), .inl (1 + i)] [] (0, 0) (z, P, M) _
        refine e_goto (k := 19) (xi26 19) ?_
        rw [(show l_fill_a s d n x (k + 1) M i = l_fill_a s d n x k M (1 + i) from by rw [l_fill_a, if_neg c0, if_neg c1])] at kk
        exact ih M (1 + i) tl0 (by omega) (by omega) kk
def u_fill (s d n x : Int) (M : Int → Int → Int) : Int → Int → Int := (l_fill_a s d n x 3 M 0).1
theorem k_fill {z : Int} {P M : Int → Int → Int} (hS : x_Sh z P) (hT : y_TC M) (s : Int) (d : Int) (n : Int) (x : Int) (hs : 0 ≤ s ∧ s < 12) (hd : -1 ≤ d ∧ d ≤ 12) (hn : 1 ≤ n ∧ n ≤ 2) (hx : -2 ≤ x ∧ x ≤ 59) : x_CallR 26 [.inr (3 + 7 * s), .inl (d), .inl (n), .inl (x)] (z, P, M) (fun q => q = (none, (z, P, u_fill s d n x M)) ∧ y_TL 0 M (u_fill s d n x M)) := by
  have tl0 : y_TL 0 M M := tl_refl hT
  refine e_body (ls0 := [.inr (3 + 7 * s), .inl (d), .inl (n), .inl (x), x_un]) xm26 rfl ?_
  refine e_iconst (k := 0) (xi26 0) ?_
  refine e_istore (k := 1) (xi26 1) (Nat.le_of_ble_eq_true rfl) ?_
  show x_Ev 26 2 [.inr (3 + 7 * s), .inl (d), .inl (n), .inl (x), .inl 0] [] (0, 0) (z, P, M) _
  refine kl_fill_a hS s d n x  hs  (by omega) (by omega) (by omega) 3 M 0 tl0 (by omega) (by omega) ?_
  intro tl1 q2
  show x_Ev 26 20 [.inr (3 + 7 * s), .inl (d), .inl (n), .inl (x), .inl ((l_fill_a s d n x 3 M 0).2)] [] (0, 0) (z, P, (l_fill_a s d n x 3 M 0).1) _
  refine e_vret (k := 20) (xi26 20) ?_
  exact y_fU (show u_fill s d n x M = (l_fill_a s d n x 3 M 0).1 from rfl) tl1
def l_sSetUp_a (s n : Int) : Nat → (Int → Int → Int) → Int → (Int → Int → Int) × Int
  | 0, M, i => (M, i)
  | k + 1, M, i => if 12 ≤ i then (M, i) else l_sSetUp_a s n k ((x_up M (4 + 7 * s) i ((-1)))) (1 + i)
theorem kl_sSetUp_a {z : Int} {P M0 : Int → Int → Int} {r : Option xV × xH → Prop} (hS : x_Sh z P) (s : Int) (n : Int) (hs : 0 ≤ s ∧ s < 12)  (hn : 2 ≤ n ∧ n ≤ 12) : ∀ k : Nat, ∀ M : (Int → Int → Int), ∀ i : Int, y_TL 4 M0 M → (0 ≤ i ∧ i ≤ 12) → 12 - i < (k : Int) → (y_TL 4 M0 ((l_sSetUp_a s n k M i).1) → True → x_Ev 15 24 [.inr (3 + 7 * s), .inl (n), .inl ((l_sSetUp_a s n k M i).2)] [] (0, 0) (z, P, (l_sSetUp_a s n k M i).1) r) → x_Ev 15 14 [.inr (3 + 7 * s), .inl (n), .inl (i)] [] (0, 0) (z, P, M) r := by
  intro k
  induction k with
  | zero => intro M i tl0 hi hm; omega
  | succ k ih =>
    intro M i tl0 hi hm kk
    refine e_iload (k := 14) (xi15 14) rfl ?_
    refine e_iconst (k := 15) (xi15 15) ?_
    refine e_c_ge (k := 16) (xi15 16) (fun c0 => ?_) (fun c0 => ?_)
    · skip
      rw [(show l_sSetUp_a s n (k + 1) M i = (M, i) from by rw [l_sSetUp_a, if_pos c0])] at kk
      try dsimp only at kk
      exact kk tl0 (by first | exact trivial | omega)
    · skip
      refine e_aload (k := 17) (xi15 17) rfl (by omega) ?_
      refine e_getR (j := 2) (w := 4 + 7 * s) (k := 18) (xi15 18) (ok_st hS hs) rfl (sh_con hS hs) ?_
      refine e_iload (k := 19) (xi15 19) rfl ?_
      refine e_iconst (k := 20) (xi15 20) ?_
      refine e_iast (k := 21) (xi15 21) (ok_con hS hs) (by rw [(ln_con hs)]; omega) ?_
      have tl1 : y_TL 4 M0 (x_up M (4 + 7 * s) i ((-1))) := tl_up tl0 (sl_con (j := i) hs (by omega)) (nf4 (by omega))
      refine e_iinc (w := 1 + i) (k := 22) (xi15 22) rfl (x_wn (by omega)) ?_
      show x_Ev 15 23 [.inr (3 + 7 * s), .inl (n), .inl (1 + i)] [] (0, 0) (z, P, (x_up M (4 + 7 * s) i ((-1)))) _
      refine e_goto (k := 23) (xi15 23) ?_
      rw [(show l_sSetUp_a s n (k + 1) M i = l_sSetUp_a s n k ((x_up M (4 + 7 * s) i ((-1)))) (1 + i) from by rw [l_sSetUp_a, if_neg c0])] at kk
      exact ih ((x_up M (4 + 7 * s) i ((-1)))) (1 + i) tl1 (by omega) (by omega) kk
def l_sSetUp_b (s n : Int) : Nat → (Int → Int → Int) → Int → (Int → Int → Int) × Int
  | 0, M, i => (M, i)
  | k + 1, M, i => if 12 ≤ i then (M, i) else if ¬ i = s then l_sSetUp_b s n k ((x_up M (5 + 7 * s) i 999)) (1 + i) else l_sSetUp_b s n k ((x_up M (5 + 7 * s) i 0)) (1 + i)
theorem kl_sSetUp_b {z : Int} {P M0 : Int → Int → Int} {r : Option xV × xH → Prop} (hS : x_Sh z P) (s : Int) (n : Int) (hs : 0 ≤ s ∧ s < 12)  (hn : 2 ≤ n ∧ n ≤ 12) : ∀ k : Nat, ∀ M : (Int → Int → Int), ∀ i : Int, y_TL 4 M0 M → (0 ≤ i ∧ i ≤ 12) → 12 - i < (k : Int) → (y_TL 4 M0 ((l_sSetUp_b s n k M i).1) → True → x_Ev 15 42 [.inr (3 + 7 * s), .inl (n), .inl ((l_sSetUp_b s n k M i).2)] [] (0, 0) (z, P, (l_sSetUp_b s n k M i).1) r) → x_Ev 15 26 [.inr (3 + 7 * s), .inl (n), .inl (i)] [] (0, 0) (z, P, M) r := by
  intro k
  induction k with
  | zero => intro M i tl0 hi hm; omega
  | succ k ih =>
    intro M i tl0 hi hm kk
    refine e_iload (k := 26) (xi15 26) rfl ?_
    refine e_iconst (k := 27) (xi15 27) ?_
    refine e_c_ge (k := 28) (xi15 28) (fun c0 => ?_) (fun c0 => ?_)
    · skip
      rw [(show l_sSetUp_b s n (k + 1) M i = (M, i) from by rw [l_sSetUp_b, if_pos c0])] at kk
      try dsimp only at kk
      exact kk tl0 (by first | exact trivial | omega)
    · skip
      refine e_aload (k := 29) (xi15 29) rfl (by omega) ?_
      refine e_getR (j := 3) (w := 5 + 7 * s) (k := 30) (xi15 30) (ok_st hS hs) rfl (sh_len hS hs) ?_
      refine e_iload (k := 31) (xi15 31) rfl ?_
      refine e_iload (k := 32) (xi15 32) rfl ?_
      refine e_aload (k := 33) (xi15 33) rfl (by omega) ?_
      refine e_getI (j := 0) (w := s) (k := 34) (xi15 34) (ok_st hS hs) rfl ((nu_st tl0.1 hs)) ?_
      refine e_c_ne (k := 35) (xi15 35) (fun c1 => ?_) (fun c1 => ?_)
      · skip
        refine e_iconst (k := 38) (xi15 38) ?_
        refine e_iast (k := 39) (xi15 39) (ok_len hS hs) (by rw [(ln_len hs)]; omega) ?_
        have tl1 : y_TL 4 M0 (x_up M (5 + 7 * s) i 999) := tl_up tl0 (sl_len (j := i) hs (by omega)) (nf4 (by omega))
        refine e_iinc (w := 1 + i) (k := 40) (xi15 40) rfl (x_wn (by omega)) ?_
        show x_Ev 15 41 [.inr (3 + 7 * s), .inl (n), .inl (1 + i)] [] (0, 0) (z, P, (x_up M (5 + 7 * s) i 999)) _
        refine e_goto (k := 41) (xi15 41) ?_
        rw [(show l_sSetUp_b s n (k + 1) M i = l_sSetUp_b s n k ((x_up M (5 + 7 * s) i 999)) (1 + i) from by rw [l_sSetUp_b, if_neg c0, if_pos c1])] at kk
        exact ih ((x_up M (5 + 7 * s) i 999)) (1 + i) tl1 (by omega) (by omega) kk
      · skip
        refine e_iconst (k := 36) (xi15 36) ?_
        refine e_goto (k := 37) (xi15 37) ?_
        refine e_iast (k := 39) (xi15 39) (ok_len hS hs) (by rw [(ln_len hs)]; omega) ?_
        have tl2 : y_TL 4 M0 (x_up M (5 + 7 * s) i 0) := tl_up tl0 (sl_len (j := i) hs (by omega)) (nf4 (by omega))
        refine e_iinc (w := 1 + i) (k := 40) (xi15 40) rfl (x_wn (by omega)) ?_
        show x_Ev 15 41 [.inr (3 + 7 * s), .inl (n), .inl (1 + i)] [] (0, 0) (z, P, (x_up M (5 + 7 * s) i 0)) _
        refine e_goto (k := 41) (xi15 41) ?_
        rw [(show l_sSetUp_b s n (k + 1) M i = l_sSetUp_b s n k ((x_up M (5 + 7 * s) i 0)) (1 + i) from by rw [l_sSetUp_b, if_neg c0, if_neg c1])] at kk
        exact ih ((x_up M (5 + 7 * s) i 0)) (1 + i) tl2 (by omega) (by omega) kk
def u_sSetUp (s n : Int) (M : Int → Int → Int) : Int → Int → Int := (u_forget s ((l_sSetUp_b s n 13 ((l_sSetUp_a s n 13 ((x_up ((x_up ((x_up ((x_up M (3 + 7 * s) 1 n)) (3 + 7 * s) 5 ((-1)))) (3 + 7 * s) 6 ((-1)))) (3 + 7 * s) 7 0)) 0).1) 0).1))
theorem k_sSetUp {z : Int} {P M : Int → Int → Int} (hS : x_Sh z P) (hT : y_TC M) (s : Int) (n : Int) (hs : 0 ≤ s ∧ s < 12) (hn : 2 ≤ n ∧ n ≤ 12) : x_CallR 15 [.inr (3 + 7 * s), .inl (n)] (z, P, M) (fun q => q = (none, (z, P, u_sSetUp s n M)) ∧ y_TL 4 M (u_sSetUp s n M)) := by
  have tl0 : y_TL 4 M M := tl_refl hT
  refine e_body (ls0 := [.inr (3 + 7 * s), .inl (n), x_un]) xm15 rfl ?_
  refine e_aload (k := 0) (xi15 0) rfl (by omega) ?_
  refine e_iload (k := 1) (xi15 1) rfl ?_
  refine e_putI (j := 1) (k := 2) (xi15 2) (ok_st hS hs) rfl ?_
  have tl1 : y_TL 4 M (x_up M (3 + 7 * s) 1 n) := tl_up tl0 (sl_st1 hs (by omega)) (nf4 (by omega))
  refine e_aload (k := 3) (xi15 3) rfl (by omega) ?_
  refine e_iconst (k := 4) (xi15 4) ?_
  refine e_putI (j := 5) (k := 5) (xi15 5) (ok_st hS hs) rfl ?_
  have tl2 : y_TL 4 M (x_up ((x_up M (3 + 7 * s) 1 n)) (3 + 7 * s) 5 ((-1))) := tl_up tl1 (sl_st5 hs (by omega)) (nf4 (by omega))
  refine e_aload (k := 6) (xi15 6) rfl (by omega) ?_
  refine e_iconst (k := 7) (xi15 7) ?_
  refine e_putI (j := 6) (k := 8) (xi15 8) (ok_st hS hs) rfl ?_
  have tl3 : y_TL 4 M (x_up ((x_up ((x_up M (3 + 7 * s) 1 n)) (3 + 7 * s) 5 ((-1)))) (3 + 7 * s) 6 ((-1))) := tl_up tl2 (sl_st6 hs (by omega)) (nf4 (by omega))
  refine e_aload (k := 9) (xi15 9) rfl (by omega) ?_
  refine e_iconst (k := 10) (xi15 10) ?_
  refine e_putI (j := 7) (k := 11) (xi15 11) (ok_st hS hs) rfl ?_
  have tl4 : y_TL 4 M (x_up ((x_up ((x_up ((x_up M (3 + 7 * s) 1 n)) (3 + 7 * s) 5 ((-1)))) (3 + 7 * s) 6 ((-1)))) (3 + 7 * s) 7 0) := tl_up tl3 (sl_st7 hs ) (nf4 (by omega))
  refine e_iconst (k := 12) (xi15 12) ?_
  refine e_istore (k := 13) (xi15 13) (Nat.le_of_ble_eq_true rfl) ?_
  show x_Ev 15 14 [.inr (3 + 7 * s), .inl (n), .inl 0] [] (0, 0) (z, P, (x_up ((x_up ((x_up ((x_up M (3 + 7 * s) 1 n)) (3 + 7 * s) 5 ((-1)))) (3 + 7 * s) 6 ((-1)))) (3 + 7 * s) 7 0)) _
  refine kl_sSetUp_a hS s n  hs  (by omega) 13 ((x_up ((x_up ((x_up ((x_up M (3 + 7 * s) 1 n)) (3 + 7 * s) 5 ((-1)))) (3 + 7 * s) 6 ((-1)))) (3 + 7 * s) 7 0)) 0 tl4 (by omega) (by omega) ?_
  intro tl5 q6
  show x_Ev 15 24 [.inr (3 + 7 * s), .inl (n), .inl ((l_sSetUp_a s n 13 ((x_up ((x_up ((x_up ((x_up M (3 + 7 * s) 1 n)) (3 + 7 * s) 5 ((-1)))) (3 + 7 * s) 6 ((-1)))) (3 + 7 * s) 7 0)) 0).2)] [] (0, 0) (z, P, (l_sSetUp_a s n 13 ((x_up ((x_up ((x_up ((x_up M (3 + 7 * s) 1 n)) (3 + 7 * s) 5 ((-1)))) (3 + 7 * s) 6 ((-1)))) (3 + 7 * s) 7 0)) 0).1) _
  refine e_iconst (k := 24) (xi15 24) ?_
  refine e_istore (k := 25) (xi15 25) (Nat.le_of_ble_eq_true rfl) ?_
  show x_Ev 15 26 [.inr (3 + 7 * s), .inl (n), .inl 0] [] (0, 0) (z, P, (l_sSetUp_a s n 13 ((x_up ((x_up ((x_up ((x_up M (3 + 7 * s) 1 n)) (3 + 7 * s) 5 ((-1)))) (3 + 7 * s) 6 ((-1)))) (3 + 7 * s) 7 0)) 0).1) _
  refine kl_sSetUp_b hS s n  hs  (by omega) 13 ((l_sSetUp_a s n 13 ((x_up ((x_up ((x_up ((x_up M (3 + 7 * s) 1 n)) (3 + 7 * s) 5 ((-1)))) (3 + 7 * s) 6 ((-1)))) (3 + 7 * s) 7 0)) 0).1) 0 tl5 (by omega) (by omega) ?_
  intro tl7 q8
  show x_Ev 15 42 [.inr (3 + 7 * s), .inl (n), .inl ((l_sSetUp_b s n 13 ((l_sSetUp_a s n 13 ((x_up ((x_up ((x_up ((x_up M (3 + 7 * s) 1 n)) (3 + 7 * s) 5 ((-1)))) (3 + 7 * s) 6 ((-1)))) (3 + 7 * s) 7 0)) 0).1) 0).2)] [] (0, 0) (z, P, (l_sSetUp_b s n 13 ((l_sSetUp_a s n 13 ((x_up ((x_up ((x_up ((x_up M (3 + 7 * s) 1 n)) (3 + 7 * s) 5 ((-1)))) (3 + 7 * s) 6 ((-1)))) (3 + 7 * s) 7 0)) 0).1) 0).1) _
  refine e_aload (k := 42) (xi15 42) rfl (by omega) ?_
  refine e_getR (j := 8) (w := 7 + 7 * s) (k := 43) (xi15 43) (ok_st hS hs) rfl (sh_dem hS hs) ?_
  refine e_callR (k := 44) (c1 := 0) (c2 := 0) (rest := []) (as := [.inr (7 + 7 * s)]) (xi15 44) (by decide) xm9 rfl ⟨rfl, Nat.le_of_ble_eq_true rfl, by decide⟩ (Or.inr (x_okt (ok_dem hS hs))) (k_forget hS tl7.1 s hs ) ?_
  rintro v_ h_ ⟨e9, tl10⟩
  cases e9
  have tl12 := tl_trans tl7 (tl10)
  have n13 := tl_n4 tl10
  show x_Ev 15 45 [.inr (3 + 7 * s), .inl (n), .inl ((l_sSetUp_b s n 13 ((l_sSetUp_a s n 13 ((x_up ((x_up ((x_up ((x_up M (3 + 7 * s) 1 n)) (3 + 7 * s) 5 ((-1)))) (3 + 7 * s) 6 ((-1)))) (3 + 7 * s) 7 0)) 0).1) 0).2)] [] (0, 0) (z, P, (u_forget s ((l_sSetUp_b s n 13 ((l_sSetUp_a s n 13 ((x_up ((x_up ((x_up ((x_up M (3 + 7 * s) 1 n)) (3 + 7 * s) 5 ((-1)))) (3 + 7 * s) 6 ((-1)))) (3 + 7 * s) 7 0)) 0).1) 0).1))) _
  refine e_vret (k := 45) (xi15 45) ?_
  exact y_fU (show u_sSetUp s n M = (u_forget s ((l_sSetUp_b s n 13 ((l_sSetUp_a s n 13 ((x_up ((x_up ((x_up ((x_up M (3 + 7 * s) 1 n)) (3 + 7 * s) 5 ((-1)))) (3 + 7 * s) 6 ((-1)))) (3 + 7 * s) 7 0)) 0).1) 0).1)) from rfl) tl12
def u_cSetUp (c l s : Int) (M : Int → Int → Int) : Int → Int → Int := (x_up ((x_up ((x_up ((x_up ((x_up M (149 + 2 * c) 1 l)) (149 + 2 * c) 2 s)) (149 + 2 * c) 3 0)) (149 + 2 * c) 4 0)) (149 + 2 * c) 6 0)
theorem k_cSetUp {z : Int} {P M : Int → Int → Int} (hS : x_Sh z P) (hT : y_TC M) (c : Int) (l : Int) (s : Int) (hc : 0 ≤ c ∧ c < 3) (hl : 1 ≤ l ∧ l ≤ 8) (hs : 0 ≤ s ∧ s ≤ 11) : x_CallR 1 [.inr (149 + 2 * c), .inl (l), .inl (s)] (z, P, M) (fun q => q = (none, (z, P, u_cSetUp c l s M)) ∧ y_TL 0 M (u_cSetUp c l s M)) := by
  have tl0 : y_TL 0 M M := tl_refl hT
  refine e_body (ls0 := [.inr (149 + 2 * c), .inl (l), .inl (s)]) xm1 rfl ?_
  refine e_aload (k := 0) (xi1 0) rfl (by omega) ?_
  refine e_iload (k := 1) (xi1 1) rfl ?_
  refine e_putI (j := 1) (k := 2) (xi1 2) (ok_ca hS hc) rfl ?_
  have tl1 : y_TL 0 M (x_up M (149 + 2 * c) 1 l) := tl_up tl0 (sl_ca1 hc (by omega)) (nf_ca1 hc)
  refine e_aload (k := 3) (xi1 3) rfl (by omega) ?_
  refine e_iload (k := 4) (xi1 4) rfl ?_
  refine e_putI (j := 2) (k := 5) (xi1 5) (ok_ca hS hc) rfl ?_
  have tl2 : y_TL 0 M (x_up ((x_up M (149 + 2 * c) 1 l)) (149 + 2 * c) 2 s) := tl_up tl1 (sl_ca2 hc (by omega)) (nf_ca2 hc)
  refine e_aload (k := 6) (xi1 6) rfl (by omega) ?_
  refine e_iconst (k := 7) (xi1 7) ?_
  refine e_putI (j := 3) (k := 8) (xi1 8) (ok_ca hS hc) rfl ?_
  have tl3 : y_TL 0 M (x_up ((x_up ((x_up M (149 + 2 * c) 1 l)) (149 + 2 * c) 2 s)) (149 + 2 * c) 3 0) := tl_up tl2 (sl_ca3 hc ) (nf_ca3 hc)
  refine e_aload (k := 9) (xi1 9) rfl (by omega) ?_
  refine e_iconst (k := 10) (xi1 10) ?_
  refine e_putI (j := 4) (k := 11) (xi1 11) (ok_ca hS hc) rfl ?_
  have tl4 : y_TL 0 M (x_up ((x_up ((x_up ((x_up M (149 + 2 * c) 1 l)) (149 + 2 * c) 2 s)) (149 + 2 * c) 3 0)) (149 + 2 * c) 4 0) := tl_up tl3 (sl_ca4 hc ) (nf_ca4 hc)
  refine e_aload (k := 12) (xi1 12) rfl (by omega) ?_
  refine e_iconst (k := 13) (xi1 13) ?_
  refine e_putI (j := 6) (k := 14) (xi1 14) (ok_ca hS hc) rfl ?_
  have tl5 : y_TL 0 M (x_up ((x_up ((x_up ((x_up ((x_up M (149 + 2 * c) 1 l)) (149 + 2 * c) 2 s)) (149 + 2 * c) 3 0)) (149 + 2 * c) 4 0)) (149 + 2 * c) 6 0) := tl_up tl4 (sl_ca6 hc (by omega)) (nf_ca6 hc)
  refine e_vret (k := 15) (xi1 15) ?_
  exact y_fU (show u_cSetUp c l s M = (x_up ((x_up ((x_up ((x_up ((x_up M (149 + 2 * c) 1 l)) (149 + 2 * c) 2 s)) (149 + 2 * c) 3 0)) (149 + 2 * c) 4 0)) (149 + 2 * c) 6 0) from rfl) tl5
theorem k_hasRoomFor {z : Int} {P M : Int → Int → Int} (hS : x_Sh z P) (hT : y_TC M) (c : Int) (w : Int) (hc : 0 ≤ c ∧ c < 3) (hw : 0 ≤ w ∧ w < 60)  : x_Call 3 [.inr (149 + 2 * c), .inr (88 + w)] (z, P, M) (some (.inl (x_b (x_w (M (149 + 2 * c) 3 + y_sz (M (88 + w) 1)) ≤ M (149 + 2 * c) 1 ∧ M (149 + 2 * c) 6 < 8)))) (z, P, M) := by
  refine e_body (ls0 := [.inr (149 + 2 * c), .inr (88 + w)]) xm3 rfl ?_
  refine e_aload (k := 0) (xi3 0) rfl (by omega) ?_
  refine e_getI (j := 3) (w := M (149 + 2 * c) 3) (k := 1) (xi3 1) (ok_ca hS hc) rfl rfl ?_
  refine e_aload (k := 2) (xi3 2) rfl (by omega) ?_
  refine e_call (k := 3) (v := some (.inl (y_sz (M (88 + w) 1)))) (h1 := (z, P, M)) (c1 := 0) (c2 := 0) (rest := [.inl (M (149 + 2 * c) 3)]) (as := [.inr (88 + w)]) (xi3 3) (by decide) xm70 rfl ⟨rfl, Nat.le_of_ble_eq_true rfl, by decide⟩ (Or.inr (x_okt (ok_wh hS hw))) (k_size hS hT w hw ) ?_
  refine e_iadd (w := x_w (M (149 + 2 * c) 3 + y_sz (M (88 + w) 1))) (k := 4) (xi3 4) (x_wr (by omega)) ?_
  refine e_aload (k := 5) (xi3 5) rfl (by omega) ?_
  have t1 := ty_ca1 hT hc
  refine e_getI (j := 1) (w := M (149 + 2 * c) 1) (k := 6) (xi3 6) (ok_ca hS hc) rfl rfl ?_
  refine e_c_gt (k := 7) (xi3 7) (fun c0 => ?_) (fun c0 => ?_)
  · skip
    refine e_iconst (k := 14) (xi3 14) ?_
    refine e_zret (k := 15) (xi3 15) (by first | decide | omega) ?_
    exact x_bF (by omega)
  · skip
    refine e_aload (k := 8) (xi3 8) rfl (by omega) ?_
    have t2 := ty_ca6 hT hc
    refine e_getI (j := 6) (w := M (149 + 2 * c) 6) (k := 9) (xi3 9) (ok_ca hS hc) rfl rfl ?_
    refine e_iconst (k := 10) (xi3 10) ?_
    refine e_c_ge (k := 11) (xi3 11) (fun c1 => ?_) (fun c1 => ?_)
    · skip
      refine e_iconst (k := 14) (xi3 14) ?_
      refine e_zret (k := 15) (xi3 15) (by first | decide | omega) ?_
      exact x_bF (by omega)
    · skip
      refine e_iconst (k := 12) (xi3 12) ?_
      refine e_goto (k := 13) (xi3 13) ?_
      refine e_zret (k := 15) (xi3 15) (by first | decide | omega) ?_
      exact x_bT (by omega)
def v_wheelOn (c k : Int) (M : Int → Int → Int) : Int := if k < 0 then (-1) else if M (149 + 2 * c) 6 ≤ k then (-1) else if 8 ≤ k then (-1) else M (150 + 2 * c) k
theorem k_wheelOn {z : Int} {P M : Int → Int → Int} (hS : x_Sh z P) (hT : y_TC M) (c : Int) (k : Int) (hc : 0 ≤ c ∧ c < 3)  : x_CallR 4 [.inr (149 + 2 * c), .inl (k)] (z, P, M) (fun q => q = (some (.inl (v_wheelOn c k M)), (z, P, M)) ∧ (fun v => (-1 ≤ v ∧ v ≤ 59) ∧ (0 ≤ v → k < M (149 + 2 * c) 6)) (v_wheelOn c k M)) := by
  refine e_body (ls0 := [.inr (149 + 2 * c), .inl (k)]) xm4 rfl ?_
  refine e_iload (k := 0) (xi4 0) rfl ?_
  refine e_z_lt (k := 1) (xi4 1) (fun c0 => ?_) (fun c0 => ?_)
  · skip
    refine e_iconst (k := 14) (xi4 14) ?_
    refine e_iret (k := 15) (xi4 15) ?_
    exact y_fV (Q := fun v => (-1 ≤ v ∧ v ≤ 59) ∧ (0 ≤ v → k < M (149 + 2 * c) 6)) (show v_wheelOn c k M = (-1) from by rw [v_wheelOn, if_pos c0]) (by omega)
  · skip
    refine e_iload (k := 2) (xi4 2) rfl ?_
    refine e_aload (k := 3) (xi4 3) rfl (by omega) ?_
    have t1 := ty_ca6 hT hc
    refine e_getI (j := 6) (w := M (149 + 2 * c) 6) (k := 4) (xi4 4) (ok_ca hS hc) rfl rfl ?_
    refine e_c_ge (k := 5) (xi4 5) (fun c1 => ?_) (fun c1 => ?_)
    · skip
      refine e_iconst (k := 14) (xi4 14) ?_
      refine e_iret (k := 15) (xi4 15) ?_
      exact y_fV (Q := fun v => (-1 ≤ v ∧ v ≤ 59) ∧ (0 ≤ v → k < M (149 + 2 * c) 6)) (show v_wheelOn c k M = (-1) from by rw [v_wheelOn, if_neg c0, if_pos c1]) (by omega)
    · skip
      refine e_iload (k := 6) (xi4 6) rfl ?_
      refine e_iconst (k := 7) (xi4 7) ?_
      refine e_c_ge (k := 8) (xi4 8) (fun c2 => ?_) (fun c2 => ?_)
      · skip
        refine e_iconst (k := 14) (xi4 14) ?_
        refine e_iret (k := 15) (xi4 15) ?_
        exact y_fV (Q := fun v => (-1 ≤ v ∧ v ≤ 59) ∧ (0 ≤ v → k < M (149 + 2 * c) 6)) (show v_wheelOn c k M = (-1) from by rw [v_wheelOn, if_neg c0, if_neg c1, if_pos c2]) (by omega)
      · skip
        refine e_aload (k := 9) (xi4 9) rfl (by omega) ?_
        refine e_getR (j := 5) (w := 150 + 2 * c) (k := 10) (xi4 10) (ok_ca hS hc) rfl (sh_row hS hc) ?_
        refine e_iload (k := 11) (xi4 11) rfl ?_
        have t2 := ty_row (j := k) hT hc (by omega)
        refine e_iald (w := M (150 + 2 * c) k) (k := 12) (xi4 12) (ok_row hS hc) (by rw [(ln_row hc)]; omega) rfl ?_
        refine e_goto (k := 13) (xi4 13) ?_
        refine e_iret (k := 15) (xi4 15) ?_
        exact y_fV (Q := fun v => (-1 ≤ v ∧ v ≤ 59) ∧ (0 ≤ v → k < M (149 + 2 * c) 6)) (show v_wheelOn c k M = M (150 + 2 * c) k from by rw [v_wheelOn, if_neg c0, if_neg c1, if_neg c2]) (by omega)
def u_takeOn (c w : Int) (M : Int → Int → Int) : Int → Int → Int := if x_w (M (149 + 2 * c) 3 + y_sz (M (88 + w) 1)) ≤ M (149 + 2 * c) 1 ∧ M (149 + 2 * c) 6 < 8 then (u_moveTo w 1 ((-1)) c ((x_up ((x_up ((x_up M (150 + 2 * c) (M (149 + 2 * c) 6) w)) (149 + 2 * c) 6 (1 + M (149 + 2 * c) 6))) (149 + 2 * c) 3 (x_w (M (149 + 2 * c) 3 + y_sz (((x_up ((x_up M (150 + 2 * c) (M (149 + 2 * c) 6) w)) (149 + 2 * c) 6 (1 + M (149 + 2 * c) 6))) (88 + w) 1)))))) else M
theorem k_takeOn {z : Int} {P M : Int → Int → Int} (hS : x_Sh z P) (hT : y_TC M) (c : Int) (w : Int) (hc : 0 ≤ c ∧ c < 3) (hw : 0 ≤ w ∧ w < 60)  : x_CallR 5 [.inr (149 + 2 * c), .inr (88 + w)] (z, P, M) (fun q => q = (none, (z, P, u_takeOn c w M)) ∧ y_TL 0 M (u_takeOn c w M)) := by
  have tl0 : y_TL 0 M M := tl_refl hT
  refine e_body (ls0 := [.inr (149 + 2 * c), .inr (88 + w)]) xm5 rfl ?_
  refine e_aload (k := 0) (xi5 0) rfl (by omega) ?_
  refine e_aload (k := 1) (xi5 1) rfl (by omega) ?_
  have t1 := ty_ca6 tl0.1 hc
  refine e_call (k := 2) (v := some (.inl (x_b (x_w (M (149 + 2 * c) 3 + y_sz (M (88 + w) 1)) ≤ M (149 + 2 * c) 1 ∧ M (149 + 2 * c) 6 < 8)))) (h1 := (z, P, M)) (c1 := 0) (c2 := 0) (rest := []) (as := [.inr (149 + 2 * c), .inr (88 + w)]) (xi5 2) (by decide) xm3 rfl ⟨rfl, Nat.le_of_ble_eq_true rfl, by decide⟩ (Or.inr (x_okt (ok_ca hS hc))) (k_hasRoomFor hS tl0.1 c w hc hw ) ?_
  refine e_b_eq (k := 3) (xi5 3) (fun c0 => ?_) (fun c0 => ?_)
  · skip
    refine e_aload (k := 4) (xi5 4) rfl (by omega) ?_
    refine e_getR (j := 5) (w := 150 + 2 * c) (k := 5) (xi5 5) (ok_ca hS hc) rfl (sh_row hS hc) ?_
    refine e_aload (k := 6) (xi5 6) rfl (by omega) ?_
    refine e_getI (j := 6) (w := M (149 + 2 * c) 6) (k := 7) (xi5 7) (ok_ca hS hc) rfl rfl ?_
    refine e_aload (k := 8) (xi5 8) rfl (by omega) ?_
    refine e_getI (j := 0) (w := w) (k := 9) (xi5 9) (ok_wh hS hw) rfl ((nu_wh tl0.1 hw)) ?_
    refine e_iast (k := 10) (xi5 10) (ok_row hS hc) (by rw [(ln_row hc)]; omega) ?_
    have tl2 : y_TL 0 M (x_up M (150 + 2 * c) (M (149 + 2 * c) 6) w) := tl_up tl0 (sl_row (j := M (149 + 2 * c) 6) hc (by omega)) (nf_row (j := M (149 + 2 * c) 6) hc)
    refine e_aload (k := 11) (xi5 11) rfl (by omega) ?_
    refine e_dup (k := 12) (xi5 12) ?_
    refine e_getI (j := 6) (w := M (149 + 2 * c) 6) (k := 13) (xi5 13) (ok_ca hS hc) rfl (((x_up_ne (by omega)).trans rfl)) ?_
    refine e_iconst (k := 14) (xi5 14) ?_
    refine e_iadd (w := 1 + M (149 + 2 * c) 6) (k := 15) (xi5 15) (x_wn (by omega)) ?_
    refine e_putI (j := 6) (k := 16) (xi5 16) (ok_ca hS hc) rfl ?_
    have tl3 : y_TL 0 M (x_up ((x_up M (150 + 2 * c) (M (149 + 2 * c) 6) w)) (149 + 2 * c) 6 (1 + M (149 + 2 * c) 6)) := tl_up tl2 (sl_ca6 hc (by omega)) (nf_ca6 hc)
    refine e_aload (k := 17) (xi5 17) rfl (by omega) ?_
    refine e_dup (k := 18) (xi5 18) ?_
    refine e_getI (j := 3) (w := M (149 + 2 * c) 3) (k := 19) (xi5 19) (ok_ca hS hc) rfl (((x_up_nk (by omega)).trans (((x_up_ne (by omega)).trans rfl)))) ?_
    refine e_aload (k := 20) (xi5 20) rfl (by omega) ?_
    refine e_call (k := 21) (v := some (.inl (y_sz (((x_up ((x_up M (150 + 2 * c) (M (149 + 2 * c) 6) w)) (149 + 2 * c) 6 (1 + M (149 + 2 * c) 6))) (88 + w) 1)))) (h1 := (z, P, (x_up ((x_up M (150 + 2 * c) (M (149 + 2 * c) 6) w)) (149 + 2 * c) 6 (1 + M (149 + 2 * c) 6)))) (c1 := 0) (c2 := 0) (rest := [.inl (M (149 + 2 * c) 3), .inr (149 + 2 * c)]) (as := [.inr (88 + w)]) (xi5 21) (by decide) xm70 rfl ⟨rfl, Nat.le_of_ble_eq_true rfl, by decide⟩ (Or.inr (x_okt (ok_wh hS hw))) (k_size hS tl3.1 w hw ) ?_
    refine e_iadd (w := x_w (M (149 + 2 * c) 3 + y_sz (((x_up ((x_up M (150 + 2 * c) (M (149 + 2 * c) 6) w)) (149 + 2 * c) 6 (1 + M (149 + 2 * c) 6))) (88 + w) 1))) (k := 22) (xi5 22) (x_wr (by omega)) ?_
    refine e_putI (j := 3) (k := 23) (xi5 23) (ok_ca hS hc) rfl ?_
    have tl4 : y_TL 0 M (x_up ((x_up ((x_up M (150 + 2 * c) (M (149 + 2 * c) 6) w)) (149 + 2 * c) 6 (1 + M (149 + 2 * c) 6))) (149 + 2 * c) 3 (x_w (M (149 + 2 * c) 3 + y_sz (((x_up ((x_up M (150 + 2 * c) (M (149 + 2 * c) 6) w)) (149 + 2 * c) 6 (1 + M (149 + 2 * c) 6))) (88 + w) 1)))) := tl_up tl3 (sl_ca3 hc ) (nf_ca3 hc)
    refine e_aload (k := 24) (xi5 24) rfl (by omega) ?_
    refine e_iconst (k := 25) (xi5 25) ?_
    refine e_iconst (k := 26) (xi5 26) ?_
    refine e_aload (k := 27) (xi5 27) rfl (by omega) ?_
    refine e_getI (j := 0) (w := c) (k := 28) (xi5 28) (ok_ca hS hc) rfl (((x_up_nk (by omega)).trans (((x_up_nk (by omega)).trans (((x_up_ne (by omega)).trans ((nu_ca tl0.1 hc)))))))) ?_
    refine e_callR (k := 29) (c1 := 0) (c2 := 0) (rest := []) (as := [.inr (88 + w), .inl 1, .inl ((-1)), .inl (c)]) (xi5 29) (by decide) xm68 rfl ⟨rfl, Nat.le_of_ble_eq_true rfl, by decide⟩ (Or.inr (x_okt (ok_wh hS hw))) (k_moveTo hS tl4.1 w 1 ((-1)) c hw (by omega) (by omega) (by omega)) ?_
    rintro v_ h_ ⟨e5, tl6⟩
    cases e5
    have tl8 := tl_trans tl4 (tl6)
    have n9 := tl_n tl6
    show x_Ev 5 30 [.inr (149 + 2 * c), .inr (88 + w)] [] (0, 0) (z, P, (u_moveTo w 1 ((-1)) c ((x_up ((x_up ((x_up M (150 + 2 * c) (M (149 + 2 * c) 6) w)) (149 + 2 * c) 6 (1 + M (149 + 2 * c) 6))) (149 + 2 * c) 3 (x_w (M (149 + 2 * c) 3 + y_sz (((x_up ((x_up M (150 + 2 * c) (M (149 + 2 * c) 6) w)) (149 + 2 * c) 6 (1 + M (149 + 2 * c) 6))) (88 + w) 1))))))) _
    refine e_vret (k := 30) (xi5 30) ?_
    exact y_fU (show u_takeOn c w M = (u_moveTo w 1 ((-1)) c ((x_up ((x_up ((x_up M (150 + 2 * c) (M (149 + 2 * c) 6) w)) (149 + 2 * c) 6 (1 + M (149 + 2 * c) 6))) (149 + 2 * c) 3 (x_w (M (149 + 2 * c) 3 + y_sz (((x_up ((x_up M (150 + 2 * c) (M (149 + 2 * c) 6) w)) (149 + 2 * c) 6 (1 + M (149 + 2 * c) 6))) (88 + w) 1)))))) from by rw [u_takeOn, if_pos c0]) tl8
  · skip
    refine e_vret (k := 30) (xi5 30) ?_
    exact y_fU (show u_takeOn c w M = M from by rw [u_takeOn, if_neg c0]) tl0
def l_letFirstGo_a (c w : Int) : Nat → (Int → Int → Int) → Int → (Int → Int → Int) × Int
  | 0, M, i => (M, i)
  | k + 1, M, i => if M (149 + 2 * c) 6 ≤ i then (M, i) else l_letFirstGo_a c w k ((x_up M (150 + 2 * c) ((-1) + i) (M (150 + 2 * c) i))) (1 + i)
theorem kl_letFirstGo_a {z : Int} {P M0 : Int → Int → Int} {r : Option xV × xH → Prop} (hS : x_Sh z P) (c : Int) (w : Int) (hc : 0 ≤ c ∧ c < 3) (hw : 0 ≤ w ∧ w < 60)   : ∀ k : Nat, ∀ M : (Int → Int → Int), ∀ i : Int, y_TL 0 M0 M → ((1 ≤ i ∧ i ≤ 8) ∧ 1 ≤ M (149 + 2 * c) 6) → 8 - i < (k : Int) → (y_TL 0 M0 ((l_letFirstGo_a c w k M i).1) → 1 ≤ ((l_letFirstGo_a c w k M i).1) (149 + 2 * c) 6 → x_Ev 6 18 [.inr (149 + 2 * c), .inr (88 + w), .inl ((l_letFirstGo_a c w k M i).2)] [] (0, 0) (z, P, (l_letFirstGo_a c w k M i).1) r) → x_Ev 6 2 [.inr (149 + 2 * c), .inr (88 + w), .inl (i)] [] (0, 0) (z, P, M) r := by
  intro k
  induction k with
  | zero => intro M i tl0 hi hm; omega
  | succ k ih =>
    intro M i tl0 hi hm kk
    refine e_iload (k := 2) (xi6 2) rfl ?_
    refine e_aload (k := 3) (xi6 3) rfl (by omega) ?_
    have t1 := ty_ca6 tl0.1 hc
    refine e_getI (j := 6) (w := M (149 + 2 * c) 6) (k := 4) (xi6 4) (ok_ca hS hc) rfl rfl ?_
    refine e_c_ge (k := 5) (xi6 5) (fun c0 => ?_) (fun c0 => ?_)
    · skip
      rw [(show l_letFirstGo_a c w (k + 1) M i = (M, i) from by rw [l_letFirstGo_a, if_pos c0])] at kk
      try dsimp only at kk
      exact kk tl0 (by first | exact trivial | omega)
    · skip
      refine e_aload (k := 6) (xi6 6) rfl (by omega) ?_
      refine e_getR (j := 5) (w := 150 + 2 * c) (k := 7) (xi6 7) (ok_ca hS hc) rfl (sh_row hS hc) ?_
      refine e_iload (k := 8) (xi6 8) rfl ?_
      refine e_iconst (k := 9) (xi6 9) ?_
      refine e_isub (w := (-1) + i) (k := 10) (xi6 10) (x_wn (by omega)) ?_
      refine e_aload (k := 11) (xi6 11) rfl (by omega) ?_
      refine e_getR (j := 5) (w := 150 + 2 * c) (k := 12) (xi6 12) (ok_ca hS hc) rfl (sh_row hS hc) ?_
      refine e_iload (k := 13) (xi6 13) rfl ?_
      have t2 := ty_row (j := i) tl0.1 hc (by omega)
      refine e_iald (w := M (150 + 2 * c) i) (k := 14) (xi6 14) (ok_row hS hc) (by rw [(ln_row hc)]; omega) rfl ?_
      refine e_iast (k := 15) (xi6 15) (ok_row hS hc) (by rw [(ln_row hc)]; omega) ?_
      have tl3 : y_TL 0 M0 (x_up M (150 + 2 * c) ((-1) + i) (M (150 + 2 * c) i)) := tl_up tl0 (sl_row (j := (-1) + i) hc (by omega)) (nf_row (j := (-1) + i) hc)
      refine e_iinc (w := 1 + i) (k := 16) (xi6 16) rfl (x_wn (by omega)) ?_
      show x_Ev 6 17 [.inr (149 + 2 * c), .inr (88 + w), .inl (1 + i)] [] (0, 0) (z, P, (x_up M (150 + 2 * c) ((-1) + i) (M (150 + 2 * c) i))) _
      refine e_goto (k := 17) (xi6 17) ?_
      have t4 := ty_ca6 tl3.1 hc
      have t5 : ((x_up M (150 + 2 * c) ((-1) + i) (M (150 + 2 * c) i))) (149 + 2 * c) 6 = M (149 + 2 * c) 6 := ((x_up_ne (by omega)).trans rfl)
      rw [(show l_letFirstGo_a c w (k + 1) M i = l_letFirstGo_a c w k ((x_up M (150 + 2 * c) ((-1) + i) (M (150 + 2 * c) i))) (1 + i) from by rw [l_letFirstGo_a, if_neg c0])] at kk
      exact ih ((x_up M (150 + 2 * c) ((-1) + i) (M (150 + 2 * c) i))) (1 + i) tl3 (by omega) (by omega) kk
def u_letFirstGo (c w : Int) (M : Int → Int → Int) : Int → Int → Int := (x_up ((x_up ((l_letFirstGo_a c w 9 M 1).1) (149 + 2 * c) 6 ((-1) + ((l_letFirstGo_a c w 9 M 1).1) (149 + 2 * c) 6))) (149 + 2 * c) 3 (x_w (((l_letFirstGo_a c w 9 M 1).1) (149 + 2 * c) 3 - y_sz (((x_up ((l_letFirstGo_a c w 9 M 1).1) (149 + 2 * c) 6 ((-1) + ((l_letFirstGo_a c w 9 M 1).1) (149 + 2 * c) 6))) (88 + w) 1))))
theorem k_letFirstGo {z : Int} {P M : Int → Int → Int} (hS : x_Sh z P) (hT : y_TC M) (c : Int) (w : Int) (hc : 0 ≤ c ∧ c < 3) (hw : 0 ≤ w ∧ w < 60) (hc1 : 1 ≤ M (149 + 2 * c) 6) : x_CallR 6 [.inr (149 + 2 * c), .inr (88 + w)] (z, P, M) (fun q => q = (none, (z, P, u_letFirstGo c w M)) ∧ y_TL 0 M (u_letFirstGo c w M)) := by
  have tl0 : y_TL 0 M M := tl_refl hT
  refine e_body (ls0 := [.inr (149 + 2 * c), .inr (88 + w), x_un]) xm6 rfl ?_
  refine e_iconst (k := 0) (xi6 0) ?_
  refine e_istore (k := 1) (xi6 1) (Nat.le_of_ble_eq_true rfl) ?_
  show x_Ev 6 2 [.inr (149 + 2 * c), .inr (88 + w), .inl 1] [] (0, 0) (z, P, M) _
  have t1 := ty_ca6 tl0.1 hc
  refine kl_letFirstGo_a hS c w  hc hw   9 M 1 tl0 (by omega) (by omega) ?_
  intro tl2 q3
  show x_Ev 6 18 [.inr (149 + 2 * c), .inr (88 + w), .inl ((l_letFirstGo_a c w 9 M 1).2)] [] (0, 0) (z, P, (l_letFirstGo_a c w 9 M 1).1) _
  refine e_aload (k := 18) (xi6 18) rfl (by omega) ?_
  refine e_dup (k := 19) (xi6 19) ?_
  have t4 := ty_ca6 tl2.1 hc
  refine e_getI (j := 6) (w := ((l_letFirstGo_a c w 9 M 1).1) (149 + 2 * c) 6) (k := 20) (xi6 20) (ok_ca hS hc) rfl rfl ?_
  refine e_iconst (k := 21) (xi6 21) ?_
  refine e_isub (w := (-1) + ((l_letFirstGo_a c w 9 M 1).1) (149 + 2 * c) 6) (k := 22) (xi6 22) (x_wn (by omega)) ?_
  refine e_putI (j := 6) (k := 23) (xi6 23) (ok_ca hS hc) rfl ?_
  have tl5 : y_TL 0 M (x_up ((l_letFirstGo_a c w 9 M 1).1) (149 + 2 * c) 6 ((-1) + ((l_letFirstGo_a c w 9 M 1).1) (149 + 2 * c) 6)) := tl_up tl2 (sl_ca6 hc (by omega)) (nf_ca6 hc)
  refine e_aload (k := 24) (xi6 24) rfl (by omega) ?_
  refine e_dup (k := 25) (xi6 25) ?_
  refine e_getI (j := 3) (w := ((l_letFirstGo_a c w 9 M 1).1) (149 + 2 * c) 3) (k := 26) (xi6 26) (ok_ca hS hc) rfl (((x_up_nk (by omega)).trans rfl)) ?_
  refine e_aload (k := 27) (xi6 27) rfl (by omega) ?_
  refine e_call (k := 28) (v := some (.inl (y_sz (((x_up ((l_letFirstGo_a c w 9 M 1).1) (149 + 2 * c) 6 ((-1) + ((l_letFirstGo_a c w 9 M 1).1) (149 + 2 * c) 6))) (88 + w) 1)))) (h1 := (z, P, (x_up ((l_letFirstGo_a c w 9 M 1).1) (149 + 2 * c) 6 ((-1) + ((l_letFirstGo_a c w 9 M 1).1) (149 + 2 * c) 6)))) (c1 := 0) (c2 := 0) (rest := [.inl (((l_letFirstGo_a c w 9 M 1).1) (149 + 2 * c) 3), .inr (149 + 2 * c)]) (as := [.inr (88 + w)]) (xi6 28) (by decide) xm70 rfl ⟨rfl, Nat.le_of_ble_eq_true rfl, by decide⟩ (Or.inr (x_okt (ok_wh hS hw))) (k_size hS tl5.1 w hw ) ?_
  refine e_isub (w := x_w (((l_letFirstGo_a c w 9 M 1).1) (149 + 2 * c) 3 - y_sz (((x_up ((l_letFirstGo_a c w 9 M 1).1) (149 + 2 * c) 6 ((-1) + ((l_letFirstGo_a c w 9 M 1).1) (149 + 2 * c) 6))) (88 + w) 1))) (k := 29) (xi6 29) (x_wr (by omega)) ?_
  refine e_putI (j := 3) (k := 30) (xi6 30) (ok_ca hS hc) rfl ?_
  have tl6 : y_TL 0 M (x_up ((x_up ((l_letFirstGo_a c w 9 M 1).1) (149 + 2 * c) 6 ((-1) + ((l_letFirstGo_a c w 9 M 1).1) (149 + 2 * c) 6))) (149 + 2 * c) 3 (x_w (((l_letFirstGo_a c w 9 M 1).1) (149 + 2 * c) 3 - y_sz (((x_up ((l_letFirstGo_a c w 9 M 1).1) (149 + 2 * c) 6 ((-1) + ((l_letFirstGo_a c w 9 M 1).1) (149 + 2 * c) 6))) (88 + w) 1)))) := tl_up tl5 (sl_ca3 hc ) (nf_ca3 hc)
  refine e_vret (k := 31) (xi6 31) ?_
  exact y_fU (show u_letFirstGo c w M = (x_up ((x_up ((l_letFirstGo_a c w 9 M 1).1) (149 + 2 * c) 6 ((-1) + ((l_letFirstGo_a c w 9 M 1).1) (149 + 2 * c) 6))) (149 + 2 * c) 3 (x_w (((l_letFirstGo_a c w 9 M 1).1) (149 + 2 * c) 3 - y_sz (((x_up ((l_letFirstGo_a c w 9 M 1).1) (149 + 2 * c) 6 ((-1) + ((l_letFirstGo_a c w 9 M 1).1) (149 + 2 * c) 6))) (88 + w) 1)))) from rfl) tl6
