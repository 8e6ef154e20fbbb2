/-! THE MODEL'S ROUNDS -/
def y_phi (M : Int → Int → Int) : Int := M 167 0 * 262144 + M 167 1 * 32768 + M 167 2 * 4096 + M 167 3 * 512 + M 167 4 * 64 + M 167 5 * 8 + M 167 6
def y_inj (M : Int → Int → Int) : Prop := ∀ i j, 0 ≤ i → i < j → j < M 162 7 → ¬ M 167 i = M 167 j
theorem y_phi_in {M : Int → Int → Int} (hT : y_TC M) : 0 ≤ y_phi M ∧ y_phi M ≤ 2097151 := by
  have h0 := ty_tried (j := 0) hT
  have h1 := ty_tried (j := 1) hT
  have h2 := ty_tried (j := 2) hT
  have h3 := ty_tried (j := 3) hT
  have h4 := ty_tried (j := 4) hT
  have h5 := ty_tried (j := 5) hT
  have h6 := ty_tried (j := 6) hT
  unfold y_phi
  omega
theorem y_phi_fr {M M' : Int → Int → Int} (h : ∀ i, M' 167 i = M 167 i) : y_phi M' = y_phi M := by
  unfold y_phi
  rw [h, h, h, h, h, h, h]
theorem y_inj_fr {M M' : Int → Int → Int} (h7 : M' 162 7 = M 162 7) (h : ∀ i, M' 167 i = M 167 i) (hi : y_inj M) : y_inj M' := fun i j a b c => by
  rw [h, h]
  exact hi i j a b (by omega)
theorem y_inj_eq {M : Int → Int → Int} (h : y_inj M) {i j : Int} (hi : 0 ≤ i ∧ i < M 162 7) (hj : 0 ≤ j ∧ j < M 162 7) (e : M 167 i = M 167 j) : i = j := by
  rcases (show i < j ∨ i = j ∨ j < i by omega) with q | q | q
  · exact absurd e (h i j hi.1 q hj.2)
  · exact q
  · exact absurd e.symm (h j i hj.1 q hi.2)
theorem y_sw {M : Int → Int → Int} {i j x : Int} : (x_up (x_up M 167 i (M 167 j)) 167 j (M 167 i)) 167 x = M 167 (if x = j then i else if x = i then j else x) := by
  unfold x_up
  by_cases h1 : x = j
  · rw [if_pos ⟨rfl, h1⟩, if_pos h1]
  · rw [if_neg (fun q => h1 q.2), if_neg h1]
    by_cases h2 : x = i
    · rw [if_pos ⟨rfl, h2⟩, if_pos h2]
    · rw [if_neg (fun q => h2 q.2), if_neg h2]
theorem y_sw7 {M : Int → Int → Int} {i j v w : Int} : (x_up (x_up M 167 i v) 167 j w) 162 7 = M 162 7 := by
  rw [x_up_ne (by omega), x_up_ne (by omega)]
theorem y_swap {M : Int → Int → Int} {i j : Int} (h : y_inj M) (hi : 0 ≤ i ∧ i < M 162 7) (hj : 0 ≤ j ∧ j < M 162 7) : y_inj (x_up (x_up M 167 i (M 167 j)) 167 j (M 167 i)) := by
  intro a b ha hab hb
  rw [y_sw7] at hb
  rw [y_sw, y_sw]
  intro e
  have hg : ∀ x : Int, 0 ≤ x ∧ x < M 162 7 → 0 ≤ (if x = j then i else if x = i then j else x) ∧ (if x = j then i else if x = i then j else x) < M 162 7 := fun x hx => by
    by_cases h1 : x = j
    · rw [if_pos h1]; exact hi
    · rw [if_neg h1]
      by_cases h2 : x = i
      · rw [if_pos h2]; exact hj
      · rw [if_neg h2]; exact hx
  have q := y_inj_eq h (hg a ⟨ha, by omega⟩) (hg b ⟨by omega, hb⟩) e
  by_cases a1 : a = j
  · rw [if_pos a1, if_neg (show ¬ b = j by omega)] at q
    by_cases b2 : b = i
    · rw [if_pos b2] at q; omega
    · rw [if_neg b2] at q; omega
  · rw [if_neg a1] at q
    by_cases a2 : a = i
    · rw [if_pos a2] at q
      by_cases b1 : b = j
      · rw [if_pos b1] at q; omega
      · rw [if_neg b1] at q
        by_cases b2 : b = i
        · rw [if_pos b2] at q; omega
        · rw [if_neg b2] at q; omega
    · rw [if_neg a2] at q
      by_cases b1 : b = j
      · rw [if_pos b1] at q; omega
      · rw [if_neg b1] at q
        by_cases b2 : b = i
        · rw [if_pos b2] at q; omega
        · rw [if_neg b2] at q; omega

def l_m_turns_a (M : Int → Int → Int) : Nat → Int → Int
  | 0, j => j
  | k + 1, j => if j < 0 then j else if M 167 j ≤ M 167 (1 + j) then j else l_m_turns_a M k ((-1) + j)
theorem kl_m_turns_a {z : Int} {P M : Int → Int → Int} {r : Option xV × xH → Prop} (hS : x_Sh z P) (hT : y_TC M)    (ho : M 162 7 ≤ 7) : ∀ k : Nat, ∀ j : Int, ((-2 ≤ j ∧ j ≤ 5) ∧ j ≤ M 162 7 - 2) → j + 2 < (k : Int) → (((-2 ≤ ((l_m_turns_a M k j)) ∧ ((l_m_turns_a M k j)) ≤ 5) ∧ ((l_m_turns_a M k j)) ≤ M 162 7 - 2) ∧ (0 ≤ ((l_m_turns_a M k j)) → M 167 ((l_m_turns_a M k j)) ≤ M 167 (1 + ((l_m_turns_a M k j)))) → x_Ev 173 20 [.inr 162, .inl ((l_m_turns_a M k j)), x_un, x_un, x_un, x_un, x_un] [] (0, 0) (z, P, M) r) → x_Ev 173 5 [.inr 162, .inl (j), x_un, x_un, x_un, x_un, x_un] [] (0, 0) (z, P, M) r := by
  intro k
  induction k with
  | zero => intro j hi hm; omega
  | succ k ih =>
    intro j hi hm kk
    refine e_iload (k := 5) (xi173 5) rfl ?_
    refine e_z_lt (k := 6) (xi173 6) (fun c0 => ?_) (fun c0 => ?_)
    · skip
      rw [(show l_m_turns_a M (k + 1) j = j from by rw [l_m_turns_a, if_pos c0])] at kk
      try dsimp only at kk
      exact kk (by first | exact trivial | omega)
    · skip
      refine e_aload (k := 7) (xi173 7) rfl (by decide) ?_
      refine e_getR (j := 8) (w := 167) (k := 8) (xi173 8) (ok_mo hS) rfl (sh_tried hS) ?_
      refine e_iload (k := 9) (xi173 9) rfl ?_
      have t1 := ty_tried (j := j) hT 
      refine e_iald (w := M 167 j) (k := 10) (xi173 10) (ok_tried hS) (by rw [ln_tried]; omega) rfl ?_
      refine e_aload (k := 11) (xi173 11) rfl (by decide) ?_
      refine e_getR (j := 8) (w := 167) (k := 12) (xi173 12) (ok_mo hS) rfl (sh_tried hS) ?_
      refine e_iload (k := 13) (xi173 13) rfl ?_
      refine e_iconst (k := 14) (xi173 14) ?_
      refine e_iadd (w := 1 + j) (k := 15) (xi173 15) (x_wn (by omega)) ?_
      have t2 := ty_tried (j := 1 + j) hT 
      refine e_iald (w := M 167 (1 + j)) (k := 16) (xi173 16) (ok_tried hS) (by rw [ln_tried]; omega) rfl ?_
      refine e_c_le (k := 17) (xi173 17) (fun c1 => ?_) (fun c1 => ?_)
      · skip
        rw [(show l_m_turns_a M (k + 1) j = j from by rw [l_m_turns_a, if_neg c0, if_pos c1])] at kk
        try dsimp only at kk
        exact kk (by first | exact trivial | omega)
      · skip
        refine e_iinc (w := (-1) + j) (k := 18) (xi173 18) rfl (x_wn (by omega)) ?_
        show x_Ev 173 19 [.inr 162, .inl ((-1) + j), x_un, x_un, x_un, x_un, x_un] [] (0, 0) (z, P, M) _
        refine e_goto (k := 19) (xi173 19) ?_
        rw [(show l_m_turns_a M (k + 1) j = l_m_turns_a M k ((-1) + j) from by rw [l_m_turns_a, if_neg c0, if_neg c1])] at kk
        exact ih ((-1) + j) (by omega) (by omega) kk
def l_m_turns_b (j : Int) (M : Int → Int → Int) : Nat → Int → Int
  | 0, i => i
  | k + 1, i => if M 167 j ≤ M 167 i then i else l_m_turns_b j M k ((-1) + i)
theorem kl_m_turns_b {z : Int} {P M : Int → Int → Int} {r : Option xV × xH → Prop} (hS : x_Sh z P) (hT : y_TC M) (j : Int)  (hj : 0 ≤ j ∧ j ≤ 5) (hjj : M 167 j ≤ M 167 (1 + j)) (ho : M 162 7 ≤ 7) : ∀ k : Nat, ∀ i : Int, (1 + j ≤ i ∧ i ≤ 6 ∧ i ≤ M 162 7 - 1) → i - j < (k : Int) → ((1 + j ≤ ((l_m_turns_b j M k i)) ∧ ((l_m_turns_b j M k i)) ≤ 6 ∧ ((l_m_turns_b j M k i)) ≤ M 162 7 - 1) ∧ M 167 j ≤ M 167 ((l_m_turns_b j M k i)) → x_Ev 173 40 [.inr 162, .inl (j), .inl ((l_m_turns_b j M k i)), x_un, x_un, x_un, x_un] [] (0, 0) (z, P, M) r) → x_Ev 173 29 [.inr 162, .inl (j), .inl (i), x_un, x_un, x_un, x_un] [] (0, 0) (z, P, M) r := by
  intro k
  induction k with
  | zero => intro i hi hm; omega
  | succ k ih =>
    intro i hi hm kk
    refine e_aload (k := 29) (xi173 29) rfl (by decide) ?_
    have e0 : i = 1 + j → M 167 i = M 167 (1 + j) := fun q => by rw [q]
    refine e_getR (j := 8) (w := 167) (k := 30) (xi173 30) (ok_mo hS) rfl (sh_tried hS) ?_
    refine e_iload (k := 31) (xi173 31) rfl ?_
    have t1 := ty_tried (j := i) hT 
    refine e_iald (w := M 167 i) (k := 32) (xi173 32) (ok_tried hS) (by rw [ln_tried]; omega) rfl ?_
    refine e_aload (k := 33) (xi173 33) rfl (by decide) ?_
    refine e_getR (j := 8) (w := 167) (k := 34) (xi173 34) (ok_mo hS) rfl (sh_tried hS) ?_
    refine e_iload (k := 35) (xi173 35) rfl ?_
    have t2 := ty_tried (j := j) hT 
    refine e_iald (w := M 167 j) (k := 36) (xi173 36) (ok_tried hS) (by rw [ln_tried]; omega) rfl ?_
    refine e_c_ge (k := 37) (xi173 37) (fun c0 => ?_) (fun c0 => ?_)
    · skip
      rw [(show l_m_turns_b j M (k + 1) i = i from by rw [l_m_turns_b, if_pos c0])] at kk
      try dsimp only at kk
      exact kk (by first | exact trivial | omega)
    · skip
      refine e_iinc (w := (-1) + i) (k := 38) (xi173 38) rfl (x_wn (by omega)) ?_
      show x_Ev 173 39 [.inr 162, .inl (j), .inl ((-1) + i), x_un, x_un, x_un, x_un] [] (0, 0) (z, P, M) _
      refine e_goto (k := 39) (xi173 39) ?_
      rw [(show l_m_turns_b j M (k + 1) i = l_m_turns_b j M k ((-1) + i) from by rw [l_m_turns_b, if_neg c0])] at kk
      exact ih ((-1) + i) (by omega) (by omega) kk
def l_m_turns_c (j i vv : Int) : Nat → (Int → Int → Int) → Int → Int → (Int → Int → Int) × Int × Int
  | 0, M, p, t => (M, p, t)
  | k + 1, M, p, t => if t ≤ p then (M, p, t) else l_m_turns_c j i vv k ((x_up ((x_up M 167 p (M 167 t))) 167 t (M 167 p))) (1 + p) ((-1) + t)
theorem kl_m_turns_c {z : Int} {P M0 : Int → Int → Int} {r : Option xV × xH → Prop} (hS : x_Sh z P) (j : Int) (i : Int) (vv : Int)    : ∀ k : Nat, ∀ x6 : xV, ∀ M : (Int → Int → Int), ∀ p : Int, ∀ t : Int, y_TL 6 M0 M → ((0 ≤ p ∧ p ≤ 7) ∧ -1 ≤ t ∧ t ≤ 6) → max (t - p) 0 < (k : Int) → (∀ x6 : xV, y_TL 6 M0 ((l_m_turns_c j i vv k M p t).1) → True → x_Ev 173 91 [.inr 162, .inl (j), .inl (i), .inl (vv), .inl ((l_m_turns_c j i vv k M p t).2.1), .inl ((l_m_turns_c j i vv k M p t).2.2), x6] [] (0, 0) (z, P, (l_m_turns_c j i vv k M p t).1) r) → x_Ev 173 67 [.inr 162, .inl (j), .inl (i), .inl (vv), .inl (p), .inl (t), x6] [] (0, 0) (z, P, M) r := by
  intro k
  induction k with
  | zero => intro x6 M p t tl0 hi hm; omega
  | succ k ih =>
    intro x6 M p t tl0 hi hm kk
    refine e_iload (k := 67) (xi173 67) rfl ?_
    refine e_iload (k := 68) (xi173 68) rfl ?_
    refine e_c_ge (k := 69) (xi173 69) (fun c0 => ?_) (fun c0 => ?_)
    · skip
      rw [(show l_m_turns_c j i vv (k + 1) M p t = (M, p, t) from by rw [l_m_turns_c, if_pos c0])] at kk
      try dsimp only at kk
      exact kk _ tl0 (by first | exact trivial | omega)
    · skip
      refine e_aload (k := 70) (xi173 70) rfl (by decide) ?_
      refine e_getR (j := 8) (w := 167) (k := 71) (xi173 71) (ok_mo hS) rfl (sh_tried hS) ?_
      refine e_iload (k := 72) (xi173 72) rfl ?_
      have t1 := ty_tried (j := p) tl0.1 
      refine e_iald (w := M 167 p) (k := 73) (xi173 73) (ok_tried hS) (by rw [ln_tried]; omega) rfl ?_
      refine e_istore (k := 74) (xi173 74) (Nat.le_of_ble_eq_true rfl) ?_
      show x_Ev 173 75 [.inr 162, .inl (j), .inl (i), .inl (vv), .inl (p), .inl (t), .inl (M 167 p)] [] (0, 0) (z, P, M) _
      refine e_aload (k := 75) (xi173 75) rfl (by decide) ?_
      refine e_getR (j := 8) (w := 167) (k := 76) (xi173 76) (ok_mo hS) rfl (sh_tried hS) ?_
      refine e_iload (k := 77) (xi173 77) rfl ?_
      refine e_aload (k := 78) (xi173 78) rfl (by decide) ?_
      refine e_getR (j := 8) (w := 167) (k := 79) (xi173 79) (ok_mo hS) rfl (sh_tried hS) ?_
      refine e_iload (k := 80) (xi173 80) rfl ?_
      have t2 := ty_tried (j := t) tl0.1 
      refine e_iald (w := M 167 t) (k := 81) (xi173 81) (ok_tried hS) (by rw [ln_tried]; omega) rfl ?_
      refine e_iast (k := 82) (xi173 82) (ok_tried hS) (by rw [ln_tried]; omega) ?_
      have tl3 : y_TL 6 M0 (x_up M 167 p (M 167 t)) := tl_up tl0 (sl_tried (j := p)  (by omega)) (nf6)
      refine e_aload (k := 83) (xi173 83) rfl (by decide) ?_
      refine e_getR (j := 8) (w := 167) (k := 84) (xi173 84) (ok_mo hS) rfl (sh_tried hS) ?_
      refine e_iload (k := 85) (xi173 85) rfl ?_
      refine e_iload (k := 86) (xi173 86) rfl ?_
      refine e_iast (k := 87) (xi173 87) (ok_tried hS) (by rw [ln_tried]; omega) ?_
      have tl4 : y_TL 6 M0 (x_up ((x_up M 167 p (M 167 t))) 167 t (M 167 p)) := tl_up tl3 (sl_tried (j := t)  (by omega)) (nf6)
      refine e_iinc (w := 1 + p) (k := 88) (xi173 88) rfl (x_wn (by omega)) ?_
      show x_Ev 173 89 [.inr 162, .inl (j), .inl (i), .inl (vv), .inl (1 + p), .inl (t), .inl (M 167 p)] [] (0, 0) (z, P, (x_up ((x_up M 167 p (M 167 t))) 167 t (M 167 p))) _
      refine e_iinc (w := (-1) + t) (k := 89) (xi173 89) rfl (x_wn (by omega)) ?_
      show x_Ev 173 90 [.inr 162, .inl (j), .inl (i), .inl (vv), .inl (1 + p), .inl ((-1) + t), .inl (M 167 p)] [] (0, 0) (z, P, (x_up ((x_up M 167 p (M 167 t))) 167 t (M 167 p))) _
      refine e_goto (k := 90) (xi173 90) ?_
      rw [(show l_m_turns_c j i vv (k + 1) M p t = l_m_turns_c j i vv k ((x_up ((x_up M 167 p (M 167 t))) 167 t (M 167 p))) (1 + p) ((-1) + t) from by rw [l_m_turns_c, if_neg c0])] at kk
      exact ih _ ((x_up ((x_up M 167 p (M 167 t))) 167 t (M 167 p))) (1 + p) ((-1) + t) tl4 (by omega) (by omega) kk
def v_m_turns (M : Int → Int → Int) : Int := if 0 ≤ (l_m_turns_a M 9 ((-2) + M 162 7)) then 1 else 0
def u_m_turns (M : Int → Int → Int) : Int → Int → Int := if 0 ≤ (l_m_turns_a M 9 ((-2) + M 162 7)) then (l_m_turns_c ((l_m_turns_a M 9 ((-2) + M 162 7))) ((l_m_turns_b ((l_m_turns_a M 9 ((-2) + M 162 7))) M 9 ((-1) + M 162 7))) (M 167 ((l_m_turns_a M 9 ((-2) + M 162 7)))) 9 ((x_up ((x_up M 167 ((l_m_turns_a M 9 ((-2) + M 162 7))) (M 167 ((l_m_turns_b ((l_m_turns_a M 9 ((-2) + M 162 7))) M 9 ((-1) + M 162 7)))))) 167 ((l_m_turns_b ((l_m_turns_a M 9 ((-2) + M 162 7))) M 9 ((-1) + M 162 7))) (M 167 ((l_m_turns_a M 9 ((-2) + M 162 7)))))) (1 + (l_m_turns_a M 9 ((-2) + M 162 7))) ((-1) + M 162 7)).1 else M
theorem k_m_turns {z : Int} {P M : Int → Int → Int} (hS : x_Sh z P) (hT : y_TC M)   (ho : M 162 7 ≤ 7) : x_CallR 173 [.inr 162] (z, P, M) (fun q => q = (some (.inl (v_m_turns M)), (z, P, u_m_turns M)) ∧ y_TL 6 M (u_m_turns M) ∧ (fun v => 0 ≤ v ∧ v ≤ 1) (v_m_turns M)) := by
  have tl0 : y_TL 6 M M := tl_refl hT
  refine e_body (ls0 := [.inr 162, x_un, x_un, x_un, x_un, x_un, x_un]) xm173 rfl ?_
  refine e_aload (k := 0) (xi173 0) rfl (by decide) ?_
  have t1 := ty_mo7 tl0.1 
  refine e_getI (j := 7) (w := M 162 7) (k := 1) (xi173 1) (ok_mo hS) rfl rfl ?_
  refine e_iconst (k := 2) (xi173 2) ?_
  refine e_isub (w := (-2) + M 162 7) (k := 3) (xi173 3) (x_wn (by omega)) ?_
  refine e_istore (k := 4) (xi173 4) (Nat.le_of_ble_eq_true rfl) ?_
  show x_Ev 173 5 [.inr 162, .inl ((-2) + M 162 7), x_un, x_un, x_un, x_un, x_un] [] (0, 0) (z, P, M) _
  refine kl_m_turns_a hS tl0.1     (by omega) 9 ((-2) + M 162 7) (by omega) (by omega) ?_
  intro q3
  show x_Ev 173 20 [.inr 162, .inl ((l_m_turns_a M 9 ((-2) + M 162 7))), x_un, x_un, x_un, x_un, x_un] [] (0, 0) (z, P, M) _
  refine e_iload (k := 20) (xi173 20) rfl ?_
  refine e_z_ge (k := 21) (xi173 21) (fun c0 => ?_) (fun c0 => ?_)
  · skip
    refine e_aload (k := 24) (xi173 24) rfl (by decide) ?_
    refine e_getI (j := 7) (w := M 162 7) (k := 25) (xi173 25) (ok_mo hS) rfl rfl ?_
    refine e_iconst (k := 26) (xi173 26) ?_
    refine e_isub (w := (-1) + M 162 7) (k := 27) (xi173 27) (x_wn (by omega)) ?_
    refine e_istore (k := 28) (xi173 28) (Nat.le_of_ble_eq_true rfl) ?_
    show x_Ev 173 29 [.inr 162, .inl ((l_m_turns_a M 9 ((-2) + M 162 7))), .inl ((-1) + M 162 7), x_un, x_un, x_un, x_un] [] (0, 0) (z, P, M) _
    refine kl_m_turns_b hS tl0.1  ((l_m_turns_a M 9 ((-2) + M 162 7)))   (by omega) (by omega) (by omega) 9 ((-1) + M 162 7) (by omega) (by omega) ?_
    intro q5
    show x_Ev 173 40 [.inr 162, .inl ((l_m_turns_a M 9 ((-2) + M 162 7))), .inl ((l_m_turns_b ((l_m_turns_a M 9 ((-2) + M 162 7))) M 9 ((-1) + M 162 7))), x_un, x_un, x_un, x_un] [] (0, 0) (z, P, M) _
    refine e_aload (k := 40) (xi173 40) rfl (by decide) ?_
    refine e_getR (j := 8) (w := 167) (k := 41) (xi173 41) (ok_mo hS) rfl (sh_tried hS) ?_
    refine e_iload (k := 42) (xi173 42) rfl ?_
    have t6 := ty_tried (j := (l_m_turns_a M 9 ((-2) + M 162 7))) tl0.1 
    refine e_iald (w := M 167 ((l_m_turns_a M 9 ((-2) + M 162 7)))) (k := 43) (xi173 43) (ok_tried hS) (by rw [ln_tried]; omega) rfl ?_
    refine e_istore (k := 44) (xi173 44) (Nat.le_of_ble_eq_true rfl) ?_
    show x_Ev 173 45 [.inr 162, .inl ((l_m_turns_a M 9 ((-2) + M 162 7))), .inl ((l_m_turns_b ((l_m_turns_a M 9 ((-2) + M 162 7))) M 9 ((-1) + M 162 7))), .inl (M 167 ((l_m_turns_a M 9 ((-2) + M 162 7)))), x_un, x_un, x_un] [] (0, 0) (z, P, M) _
    refine e_aload (k := 45) (xi173 45) rfl (by decide) ?_
    refine e_getR (j := 8) (w := 167) (k := 46) (xi173 46) (ok_mo hS) rfl (sh_tried hS) ?_
    refine e_iload (k := 47) (xi173 47) rfl ?_
    refine e_aload (k := 48) (xi173 48) rfl (by decide) ?_
    refine e_getR (j := 8) (w := 167) (k := 49) (xi173 49) (ok_mo hS) rfl (sh_tried hS) ?_
    refine e_iload (k := 50) (xi173 50) rfl ?_
    have t7 := ty_tried (j := (l_m_turns_b ((l_m_turns_a M 9 ((-2) + M 162 7))) M 9 ((-1) + M 162 7))) tl0.1 
    refine e_iald (w := M 167 ((l_m_turns_b ((l_m_turns_a M 9 ((-2) + M 162 7))) M 9 ((-1) + M 162 7)))) (k := 51) (xi173 51) (ok_tried hS) (by rw [ln_tried]; omega) rfl ?_
    refine e_iast (k := 52) (xi173 52) (ok_tried hS) (by rw [ln_tried]; omega) ?_
    have tl8 : y_TL 6 M (x_up M 167 ((l_m_turns_a M 9 ((-2) + M 162 7))) (M 167 ((l_m_turns_b ((l_m_turns_a M 9 ((-2) + M 162 7))) M 9 ((-1) + M 162 7))))) := tl_up tl0 (sl_tried (j := (l_m_turns_a M 9 ((-2) + M 162 7)))  (by omega)) (nf6)
    refine e_aload (k := 53) (xi173 53) rfl (by decide) ?_
    refine e_getR (j := 8) (w := 167) (k := 54) (xi173 54) (ok_mo hS) rfl (sh_tried hS) ?_
    refine e_iload (k := 55) (xi173 55) rfl ?_
    refine e_iload (k := 56) (xi173 56) rfl ?_
    refine e_iast (k := 57) (xi173 57) (ok_tried hS) (by rw [ln_tried]; omega) ?_
    have tl9 : y_TL 6 M (x_up ((x_up M 167 ((l_m_turns_a M 9 ((-2) + M 162 7))) (M 167 ((l_m_turns_b ((l_m_turns_a M 9 ((-2) + M 162 7))) M 9 ((-1) + M 162 7)))))) 167 ((l_m_turns_b ((l_m_turns_a M 9 ((-2) + M 162 7))) M 9 ((-1) + M 162 7))) (M 167 ((l_m_turns_a M 9 ((-2) + M 162 7))))) := tl_up tl8 (sl_tried (j := (l_m_turns_b ((l_m_turns_a M 9 ((-2) + M 162 7))) M 9 ((-1) + M 162 7)))  (by omega)) (nf6)
    refine e_iload (k := 58) (xi173 58) rfl ?_
    refine e_iconst (k := 59) (xi173 59) ?_
    refine e_iadd (w := 1 + (l_m_turns_a M 9 ((-2) + M 162 7))) (k := 60) (xi173 60) (x_wn (by omega)) ?_
    refine e_istore (k := 61) (xi173 61) (Nat.le_of_ble_eq_true rfl) ?_
    show x_Ev 173 62 [.inr 162, .inl ((l_m_turns_a M 9 ((-2) + M 162 7))), .inl ((l_m_turns_b ((l_m_turns_a M 9 ((-2) + M 162 7))) M 9 ((-1) + M 162 7))), .inl (M 167 ((l_m_turns_a M 9 ((-2) + M 162 7)))), .inl (1 + (l_m_turns_a M 9 ((-2) + M 162 7))), x_un, x_un] [] (0, 0) (z, P, (x_up ((x_up M 167 ((l_m_turns_a M 9 ((-2) + M 162 7))) (M 167 ((l_m_turns_b ((l_m_turns_a M 9 ((-2) + M 162 7))) M 9 ((-1) + M 162 7)))))) 167 ((l_m_turns_b ((l_m_turns_a M 9 ((-2) + M 162 7))) M 9 ((-1) + M 162 7))) (M 167 ((l_m_turns_a M 9 ((-2) + M 162 7)))))) _
    refine e_aload (k := 62) (xi173 62) rfl (by decide) ?_
    refine e_getI (j := 7) (w := M 162 7) (k := 63) (xi173 63) (ok_mo hS) rfl (((x_up_ne (by omega)).trans (((x_up_ne (by omega)).trans rfl)))) ?_
    refine e_iconst (k := 64) (xi173 64) ?_
    refine e_isub (w := (-1) + M 162 7) (k := 65) (xi173 65) (x_wn (by omega)) ?_
    refine e_istore (k := 66) (xi173 66) (Nat.le_of_ble_eq_true rfl) ?_
    show x_Ev 173 67 [.inr 162, .inl ((l_m_turns_a M 9 ((-2) + M 162 7))), .inl ((l_m_turns_b ((l_m_turns_a M 9 ((-2) + M 162 7))) M 9 ((-1) + M 162 7))), .inl (M 167 ((l_m_turns_a M 9 ((-2) + M 162 7)))), .inl (1 + (l_m_turns_a M 9 ((-2) + M 162 7))), .inl ((-1) + M 162 7), x_un] [] (0, 0) (z, P, (x_up ((x_up M 167 ((l_m_turns_a M 9 ((-2) + M 162 7))) (M 167 ((l_m_turns_b ((l_m_turns_a M 9 ((-2) + M 162 7))) M 9 ((-1) + M 162 7)))))) 167 ((l_m_turns_b ((l_m_turns_a M 9 ((-2) + M 162 7))) M 9 ((-1) + M 162 7))) (M 167 ((l_m_turns_a M 9 ((-2) + M 162 7)))))) _
    refine kl_m_turns_c hS  ((l_m_turns_a M 9 ((-2) + M 162 7))) ((l_m_turns_b ((l_m_turns_a M 9 ((-2) + M 162 7))) M 9 ((-1) + M 162 7))) (M 167 ((l_m_turns_a M 9 ((-2) + M 162 7))))    9 _ ((x_up ((x_up M 167 ((l_m_turns_a M 9 ((-2) + M 162 7))) (M 167 ((l_m_turns_b ((l_m_turns_a M 9 ((-2) + M 162 7))) M 9 ((-1) + M 162 7)))))) 167 ((l_m_turns_b ((l_m_turns_a M 9 ((-2) + M 162 7))) M 9 ((-1) + M 162 7))) (M 167 ((l_m_turns_a M 9 ((-2) + M 162 7)))))) (1 + (l_m_turns_a M 9 ((-2) + M 162 7))) ((-1) + M 162 7) tl9 (by omega) (by omega) ?_
    intro x12 tl10 q11
    show x_Ev 173 91 [.inr 162, .inl ((l_m_turns_a M 9 ((-2) + M 162 7))), .inl ((l_m_turns_b ((l_m_turns_a M 9 ((-2) + M 162 7))) M 9 ((-1) + M 162 7))), .inl (M 167 ((l_m_turns_a M 9 ((-2) + M 162 7)))), .inl ((l_m_turns_c ((l_m_turns_a M 9 ((-2) + M 162 7))) ((l_m_turns_b ((l_m_turns_a M 9 ((-2) + M 162 7))) M 9 ((-1) + M 162 7))) (M 167 ((l_m_turns_a M 9 ((-2) + M 162 7)))) 9 ((x_up ((x_up M 167 ((l_m_turns_a M 9 ((-2) + M 162 7))) (M 167 ((l_m_turns_b ((l_m_turns_a M 9 ((-2) + M 162 7))) M 9 ((-1) + M 162 7)))))) 167 ((l_m_turns_b ((l_m_turns_a M 9 ((-2) + M 162 7))) M 9 ((-1) + M 162 7))) (M 167 ((l_m_turns_a M 9 ((-2) + M 162 7)))))) (1 + (l_m_turns_a M 9 ((-2) + M 162 7))) ((-1) + M 162 7)).2.1), .inl ((l_m_turns_c ((l_m_turns_a M 9 ((-2) + M 162 7))) ((l_m_turns_b ((l_m_turns_a M 9 ((-2) + M 162 7))) M 9 ((-1) + M 162 7))) (M 167 ((l_m_turns_a M 9 ((-2) + M 162 7)))) 9 ((x_up ((x_up M 167 ((l_m_turns_a M 9 ((-2) + M 162 7))) (M 167 ((l_m_turns_b ((l_m_turns_a M 9 ((-2) + M 162 7))) M 9 ((-1) + M 162 7)))))) 167 ((l_m_turns_b ((l_m_turns_a M 9 ((-2) + M 162 7))) M 9 ((-1) + M 162 7))) (M 167 ((l_m_turns_a M 9 ((-2) + M 162 7)))))) (1 + (l_m_turns_a M 9 ((-2) + M 162 7))) ((-1) + M 162 7)).2.2), x12] [] (0, 0) (z, P, (l_m_turns_c ((l_m_turns_a M 9 ((-2) + M 162 7))) ((l_m_turns_b ((l_m_turns_a M 9 ((-2) + M 162 7))) M 9 ((-1) + M 162 7))) (M 167 ((l_m_turns_a M 9 ((-2) + M 162 7)))) 9 ((x_up ((x_up M 167 ((l_m_turns_a M 9 ((-2) + M 162 7))) (M 167 ((l_m_turns_b ((l_m_turns_a M 9 ((-2) + M 162 7))) M 9 ((-1) + M 162 7)))))) 167 ((l_m_turns_b ((l_m_turns_a M 9 ((-2) + M 162 7))) M 9 ((-1) + M 162 7))) (M 167 ((l_m_turns_a M 9 ((-2) + M 162 7)))))) (1 + (l_m_turns_a M 9 ((-2) + M 162 7))) ((-1) + M 162 7)).1) _
    refine e_iconst (k := 91) (xi173 91) ?_
    refine e_zret (k := 92) (xi173 92) (by first | decide | omega) ?_
    exact y_fW (Q := fun v => 0 ≤ v ∧ v ≤ 1) (show v_m_turns M = 1 from by rw [v_m_turns, if_pos c0]) (show u_m_turns M = (l_m_turns_c ((l_m_turns_a M 9 ((-2) + M 162 7))) ((l_m_turns_b ((l_m_turns_a M 9 ((-2) + M 162 7))) M 9 ((-1) + M 162 7))) (M 167 ((l_m_turns_a M 9 ((-2) + M 162 7)))) 9 ((x_up ((x_up M 167 ((l_m_turns_a M 9 ((-2) + M 162 7))) (M 167 ((l_m_turns_b ((l_m_turns_a M 9 ((-2) + M 162 7))) M 9 ((-1) + M 162 7)))))) 167 ((l_m_turns_b ((l_m_turns_a M 9 ((-2) + M 162 7))) M 9 ((-1) + M 162 7))) (M 167 ((l_m_turns_a M 9 ((-2) + M 162 7)))))) (1 + (l_m_turns_a M 9 ((-2) + M 162 7))) ((-1) + M 162 7)).1 from by rw [u_m_turns, if_pos c0]) tl10 (by omega)
  · skip
    refine e_iconst (k := 22) (xi173 22) ?_
    refine e_zret (k := 23) (xi173 23) (by first | decide | omega) ?_
    exact y_fW (Q := fun v => 0 ≤ v ∧ v ≤ 1) (show v_m_turns M = 0 from by rw [v_m_turns, if_neg c0]) (show u_m_turns M = M from by rw [u_m_turns, if_neg c0]) tl0 (by omega)
theorem y_la {M : Int → Int → Int} : ∀ (k : Nat) (j : Int), -2 ≤ j → j + 2 < (k : Int) → (-2 ≤ l_m_turns_a M k j ∧ l_m_turns_a M k j ≤ j) ∧ (0 ≤ l_m_turns_a M k j → M 167 (l_m_turns_a M k j) ≤ M 167 (1 + l_m_turns_a M k j)) := by
  intro k
  induction k with
  | zero => intro j h1 h2; omega
  | succ k ih =>
    intro j h1 h2
    rw [l_m_turns_a]
    by_cases c0 : j < 0
    · rw [if_pos c0]; exact ⟨by omega, fun q => by omega⟩
    · rw [if_neg c0]
      by_cases c1 : M 167 j ≤ M 167 (1 + j)
      · rw [if_pos c1]; exact ⟨by omega, fun _ => c1⟩
      · rw [if_neg c1]
        have := ih ((-1) + j) (by omega) (by omega)
        exact ⟨by omega, this.2⟩
theorem y_lb {M : Int → Int → Int} {j : Int} (hj : M 167 j ≤ M 167 (1 + j)) : ∀ (k : Nat) (i : Int), 1 + j ≤ i → i - j < (k : Int) → (1 + j ≤ l_m_turns_b j M k i ∧ l_m_turns_b j M k i ≤ i) ∧ M 167 j ≤ M 167 (l_m_turns_b j M k i) := by
  intro k
  induction k with
  | zero => intro i h1 h2; omega
  | succ k ih =>
    intro i h1 h2
    rw [l_m_turns_b]
    by_cases c0 : M 167 j ≤ M 167 i
    · rw [if_pos c0]; exact ⟨by omega, c0⟩
    · rw [if_neg c0]
      have e : ¬ i = 1 + j := fun q => c0 (by rw [q]; exact hj)
      have := ih ((-1) + i) (by omega) (by omega)
      exact ⟨by omega, this.2⟩
theorem y_lcc {j i v : Int} : ∀ (k : Nat) (M : Int → Int → Int) (p t : Int), 0 ≤ p → t < M 162 7 → y_inj M → y_inj (l_m_turns_c j i v k M p t).1 ∧ (∀ x, x < p → (l_m_turns_c j i v k M p t).1 167 x = M 167 x) := by
  intro k
  induction k with
  | zero => intro M p t _ _ h; exact ⟨h, fun _ _ => rfl⟩
  | succ k ih =>
    intro M p t hp ht h
    rw [l_m_turns_c]
    by_cases c0 : t ≤ p
    · rw [if_pos c0]; exact ⟨h, fun _ _ => rfl⟩
    · rw [if_neg c0]
      have q := ih (x_up (x_up M 167 p (M 167 t)) 167 t (M 167 p)) (1 + p) ((-1) + t) (by omega) (by rw [y_sw7]; omega) (y_swap h (by omega) (by omega))
      refine ⟨q.1, fun x hx => (q.2 x (by omega)).trans ?_⟩
      rw [y_sw, if_neg (by omega), if_neg (by omega)]
theorem y_turns {M : Int → Int → Int} (hT : y_TC M) (hU : y_TC (u_m_turns M)) (ho : M 162 7 ≤ 7) (hi : y_inj M) : y_inj (u_m_turns M) ∧ (v_m_turns M = 1 → y_phi M < y_phi (u_m_turns M)) := by
  have h7 := ty_mo7 hT
  have ka := y_la (M := M) 9 ((-2) + M 162 7) (by omega) (by omega)
  revert hU
  unfold u_m_turns v_m_turns
  generalize l_m_turns_a M 9 ((-2) + M 162 7) = K at ka ⊢
  by_cases c : 0 ≤ K
  · rw [if_pos c, if_pos c]
    have kb := y_lb (ka.2 c) 9 ((-1) + M 162 7) (by omega) (by omega)
    generalize l_m_turns_b K M 9 ((-1) + M 162 7) = J at kb ⊢
    have kc := y_lcc (j := K) (i := J) (v := M 167 K) 9 (x_up (x_up M 167 K (M 167 J)) 167 J (M 167 K)) (1 + K) ((-1) + M 162 7) (by omega) (by rw [y_sw7]; omega) (y_swap hi (by omega) (by omega))
    generalize (l_m_turns_c K J (M 167 K) 9 (x_up (x_up M 167 K (M 167 J)) 167 J (M 167 K)) (1 + K) ((-1) + M 162 7)).1 = R at kc ⊢
    intro hU
    refine ⟨kc.1, fun _ => ?_⟩
    have hlt : M 167 K < M 167 J := by
      have := hi K J c (by omega) (by omega)
      omega
    have eK : R 167 K = M 167 J := (kc.2 K (by omega)).trans (by rw [y_sw, if_neg (by omega), if_pos rfl])
    have eL : ∀ x, x < K → R 167 x = M 167 x := fun x hx => (kc.2 x (by omega)).trans (by rw [y_sw, if_neg (by omega), if_neg (by omega)])
    have h0 := ty_tried (j := 0) hT
    have h1 := ty_tried (j := 1) hT
    have h2 := ty_tried (j := 2) hT
    have h3 := ty_tried (j := 3) hT
    have h4 := ty_tried (j := 4) hT
    have h5 := ty_tried (j := 5) hT
    have h6 := ty_tried (j := 6) hT
    have g0 := ty_tried (j := 0) hU
    have g1 := ty_tried (j := 1) hU
    have g2 := ty_tried (j := 2) hU
    have g3 := ty_tried (j := 3) hU
    have g4 := ty_tried (j := 4) hU
    have g5 := ty_tried (j := 5) hU
    have g6 := ty_tried (j := 6) hU
    unfold y_phi
    rcases (show K = 0 ∨ K = 1 ∨ K = 2 ∨ K = 3 ∨ K = 4 ∨ K = 5 by omega) with rfl | rfl | rfl | rfl | rfl | rfl
    · omega
    · have e0 := eL 0 (by omega); omega
    · have e0 := eL 0 (by omega); have e1 := eL 1 (by omega); omega
    · have e0 := eL 0 (by omega); have e1 := eL 1 (by omega); have e2 := eL 2 (by omega); omega
    · have e0 := eL 0 (by omega); have e1 := eL 1 (by omega); have e2 := eL 2 (by omega); have e3 := eL 3 (by omega); omega
    · have e0 := eL 0 (by omega); have e1 := eL 1 (by omega); have e2 := eL 2 (by omega); have e3 := eL 3 (by omega); have e4 := eL 4 (by omega); omega
  · rw [if_neg c, if_neg c]
    exact fun _ => ⟨hi, fun q => by omega⟩

def l_m_finds_a : Nat → (Int → Int → Int) → Int → (Int → Int → Int) × Int
  | 0, M, s => (M, s)
  | k + 1, M, s => if M 163 0 ≤ s then (M, s) else if M 163 (24 + 80 * s) < 0 then l_m_finds_a k M (1 + s) else if ¬ M 163 (24 + 80 * s) = v_m_cntW s 0 1 M then l_m_finds_a k ((x_up ((x_up ((x_up M 165 (M 162 7) s)) 166 (M 162 7) (v_m_cntW s 0 1 M - M 163 (24 + 80 * s)))) 162 7 (1 + M 162 7))) (1 + s) else l_m_finds_a k M (1 + s)
theorem kl_m_finds_a {z : Int} {P M0 : Int → Int → Int} {r : Option xV × xH → Prop} (hS : x_Sh z P)     : ∀ k : Nat, ∀ x2 x3 : xV, ∀ M : (Int → Int → Int), ∀ s : Int, y_TL 1 M0 M → ((0 ≤ s ∧ s ≤ 12) ∧ M 162 7 ≤ s) → 12 - s < (k : Int) → (∀ x2 x3 : xV, y_TL 1 M0 ((l_m_finds_a k M s).1) → True → x_Ev 171 54 [.inr 162, .inl ((l_m_finds_a k M s).2), x2, x3] [] (0, 0) (z, P, (l_m_finds_a k M s).1) r) → x_Ev 171 5 [.inr 162, .inl (s), x2, x3] [] (0, 0) (z, P, M) r := by
  intro k
  induction k with
  | zero => intro x2 x3 M s tl0 hi hm; omega
  | succ k ih =>
    intro x2 x3 M s tl0 hi hm kk
    refine e_iload (k := 5) (xi171 5) rfl ?_
    refine e_aload (k := 6) (xi171 6) rfl (by decide) ?_
    refine e_getR (j := 0) (w := 163) (k := 7) (xi171 7) (ok_mo hS) rfl (sh_all hS) ?_
    refine e_iconst (k := 8) (xi171 8) ?_
    have t1 := ty_a0 tl0.1
    refine e_iald (w := M 163 0) (k := 9) (xi171 9) (ok_all hS) (by rw [ln_all]; omega) rfl ?_
    refine e_c_ge (k := 10) (xi171 10) (fun c0 => ?_) (fun c0 => ?_)
    · skip
      have t2 := ty_mo7 tl0.1 
      rw [(show l_m_finds_a (k + 1) M s = (M, s) from by rw [l_m_finds_a, if_pos c0])] at kk
      try dsimp only at kk
      exact kk _ _ tl0 (by first | exact trivial | omega)
    · skip
      refine e_aload (k := 11) (xi171 11) rfl (by decide) ?_
      refine e_getR (j := 0) (w := 163) (k := 12) (xi171 12) (ok_mo hS) rfl (sh_all hS) ?_
      refine e_aload (k := 13) (xi171 13) rfl (by decide) ?_
      refine e_iload (k := 14) (xi171 14) rfl ?_
      refine e_call (k := 15) (v := some (.inl (10 + 80 * s))) (h1 := (z, P, M)) (c1 := 0) (c2 := 0) (rest := [.inr 163]) (as := [.inr 162, .inl (s)]) (xi171 15) (by decide) xm117 rfl ⟨rfl, Nat.le_of_ble_eq_true rfl, by decide⟩ (Or.inr (x_okt (ok_mo hS))) (k_mstandAt hS tl0.1 s (by omega)) ?_
      refine e_iconst (k := 16) (xi171 16) ?_
      refine e_iadd (w := 24 + 80 * s) (k := 17) (xi171 17) (x_wn (by omega)) ?_
      have t3 := ty_aWt tl0.1 (i := 24 + 80 * s) (s := s) (by omega) (by omega)
      refine e_iald (w := M 163 (24 + 80 * s)) (k := 18) (xi171 18) (ok_all hS) (by rw [ln_all]; omega) rfl ?_
      refine e_istore (k := 19) (xi171 19) (Nat.le_of_ble_eq_true rfl) ?_
      show x_Ev 171 20 [.inr 162, .inl (s), .inl (M 163 (24 + 80 * s)), x3] [] (0, 0) (z, P, M) _
      refine e_aload (k := 20) (xi171 20) rfl (by decide) ?_
      refine e_iload (k := 21) (xi171 21) rfl ?_
      refine e_iconst (k := 22) (xi171 22) ?_
      refine e_iconst (k := 23) (xi171 23) ?_
      refine e_callR (k := 24) (c1 := 0) (c2 := 0) (rest := []) (as := [.inr 162, .inl (s), .inl 0, .inl 1]) (xi171 24) (by decide) xm131 rfl ⟨rfl, Nat.le_of_ble_eq_true rfl, by decide⟩ (Or.inr (x_okt (ok_mo hS))) (k_m_cntW hS tl0.1 s 0 1  ) ?_
      rintro v_ h_ ⟨e4, q6⟩
      cases e4
      show x_Ev 171 25 [.inr 162, .inl (s), .inl (M 163 (24 + 80 * s)), x3] [.inl (v_m_cntW s 0 1 M)] (0, 0) (z, P, M) _
      refine e_istore (k := 25) (xi171 25) (Nat.le_of_ble_eq_true rfl) ?_
      show x_Ev 171 26 [.inr 162, .inl (s), .inl (M 163 (24 + 80 * s)), .inl (v_m_cntW s 0 1 M)] [] (0, 0) (z, P, M) _
      refine e_iload (k := 26) (xi171 26) rfl ?_
      refine e_z_lt (k := 27) (xi171 27) (fun c1 => ?_) (fun c1 => ?_)
      · skip
        refine e_iinc (w := 1 + s) (k := 52) (xi171 52) rfl (x_wn (by omega)) ?_
        show x_Ev 171 53 [.inr 162, .inl (1 + s), .inl (M 163 (24 + 80 * s)), .inl (v_m_cntW s 0 1 M)] [] (0, 0) (z, P, M) _
        refine e_goto (k := 53) (xi171 53) ?_
        have t7 := ty_mo7 tl0.1 
        rw [(show l_m_finds_a (k + 1) M s = l_m_finds_a k M (1 + s) from by rw [l_m_finds_a, if_neg c0, if_pos c1])] at kk
        exact ih _ _ M (1 + s) tl0 (by omega) (by omega) kk
      · skip
        refine e_iload (k := 28) (xi171 28) rfl ?_
        refine e_iload (k := 29) (xi171 29) rfl ?_
        refine e_c_ne (k := 30) (xi171 30) (fun c2 => ?_) (fun c2 => ?_)
        · skip
          refine e_aload (k := 32) (xi171 32) rfl (by decide) ?_
          refine e_getR (j := 5) (w := 165) (k := 33) (xi171 33) (ok_mo hS) rfl (sh_outs hS) ?_
          refine e_aload (k := 34) (xi171 34) rfl (by decide) ?_
          have t8 := ty_mo7 tl0.1 
          refine e_getI (j := 7) (w := M 162 7) (k := 35) (xi171 35) (ok_mo hS) rfl rfl ?_
          refine e_iload (k := 36) (xi171 36) rfl ?_
          refine e_iast (k := 37) (xi171 37) (ok_outs hS) (by rw [ln_outs]; omega) ?_
          have tl9 : y_TL 1 M0 (x_up M 165 (M 162 7) s) := tl_up tl0 (sl_outs (j := M 162 7)  (by omega)) (nf_outs (j := M 162 7) )
          refine e_aload (k := 38) (xi171 38) rfl (by decide) ?_
          refine e_getR (j := 6) (w := 166) (k := 39) (xi171 39) (ok_mo hS) rfl (sh_over hS) ?_
          refine e_aload (k := 40) (xi171 40) rfl (by decide) ?_
          refine e_getI (j := 7) (w := M 162 7) (k := 41) (xi171 41) (ok_mo hS) rfl (((x_up_ne (by omega)).trans rfl)) ?_
          refine e_iload (k := 42) (xi171 42) rfl ?_
          refine e_iload (k := 43) (xi171 43) rfl ?_
          refine e_isub (w := v_m_cntW s 0 1 M - M 163 (24 + 80 * s)) (k := 44) (xi171 44) (x_wn (by omega)) ?_
          refine e_iast (k := 45) (xi171 45) (ok_over hS) (by rw [ln_over]; omega) ?_
          have tl10 : y_TL 1 M0 (x_up ((x_up M 165 (M 162 7) s)) 166 (M 162 7) (v_m_cntW s 0 1 M - M 163 (24 + 80 * s))) := tl_up tl9 (sl_over (j := M 162 7)  (by omega)) (nf_over (j := M 162 7) )
          refine e_aload (k := 46) (xi171 46) rfl (by decide) ?_
          refine e_dup (k := 47) (xi171 47) ?_
          refine e_getI (j := 7) (w := M 162 7) (k := 48) (xi171 48) (ok_mo hS) rfl (((x_up_ne (by omega)).trans (((x_up_ne (by omega)).trans rfl)))) ?_
          refine e_iconst (k := 49) (xi171 49) ?_
          refine e_iadd (w := 1 + M 162 7) (k := 50) (xi171 50) (x_wn (by omega)) ?_
          refine e_putI (j := 7) (k := 51) (xi171 51) (ok_mo hS) rfl ?_
          have tl11 : y_TL 1 M0 (x_up ((x_up ((x_up M 165 (M 162 7) s)) 166 (M 162 7) (v_m_cntW s 0 1 M - M 163 (24 + 80 * s)))) 162 7 (1 + M 162 7)) := tl_up tl10 (sl_mo7  (by omega)) (nf_mo7 )
          refine e_iinc (w := 1 + s) (k := 52) (xi171 52) rfl (x_wn (by omega)) ?_
          show x_Ev 171 53 [.inr 162, .inl (1 + s), .inl (M 163 (24 + 80 * s)), .inl (v_m_cntW s 0 1 M)] [] (0, 0) (z, P, (x_up ((x_up ((x_up M 165 (M 162 7) s)) 166 (M 162 7) (v_m_cntW s 0 1 M - M 163 (24 + 80 * s)))) 162 7 (1 + M 162 7))) _
          refine e_goto (k := 53) (xi171 53) ?_
          have t12 := ty_mo7 tl11.1 
          have t13 : ((x_up ((x_up ((x_up M 165 (M 162 7) s)) 166 (M 162 7) (v_m_cntW s 0 1 M - M 163 (24 + 80 * s)))) 162 7 (1 + M 162 7))) 162 7 = 1 + M 162 7 := x_up_self
          rw [(show l_m_finds_a (k + 1) M s = l_m_finds_a k ((x_up ((x_up ((x_up M 165 (M 162 7) s)) 166 (M 162 7) (v_m_cntW s 0 1 M - M 163 (24 + 80 * s)))) 162 7 (1 + M 162 7))) (1 + s) from by rw [l_m_finds_a, if_neg c0, if_neg c1, if_pos c2])] at kk
          exact ih _ _ ((x_up ((x_up ((x_up M 165 (M 162 7) s)) 166 (M 162 7) (v_m_cntW s 0 1 M - M 163 (24 + 80 * s)))) 162 7 (1 + M 162 7))) (1 + s) tl11 (by omega) (by omega) kk
        · skip
          refine e_goto (k := 31) (xi171 31) ?_
          refine e_iinc (w := 1 + s) (k := 52) (xi171 52) rfl (x_wn (by omega)) ?_
          show x_Ev 171 53 [.inr 162, .inl (1 + s), .inl (M 163 (24 + 80 * s)), .inl (v_m_cntW s 0 1 M)] [] (0, 0) (z, P, M) _
          refine e_goto (k := 53) (xi171 53) ?_
          have t14 := ty_mo7 tl0.1 
          rw [(show l_m_finds_a (k + 1) M s = l_m_finds_a k M (1 + s) from by rw [l_m_finds_a, if_neg c0, if_neg c1, if_neg c2])] at kk
          exact ih _ _ M (1 + s) tl0 (by omega) (by omega) kk
def u_m_finds (M : Int → Int → Int) : Int → Int → Int := (l_m_finds_a 13 ((x_up M 162 7 0)) 0).1
theorem k_m_finds {z : Int} {P M : Int → Int → Int} (hS : x_Sh z P) (hT : y_TC M)    : x_CallR 171 [.inr 162] (z, P, M) (fun q => q = (none, (z, P, u_m_finds M)) ∧ y_TL 1 M (u_m_finds M)) := by
  have tl0 : y_TL 1 M M := tl_refl hT
  refine e_body (ls0 := [.inr 162, x_un, x_un, x_un]) xm171 rfl ?_
  refine e_aload (k := 0) (xi171 0) rfl (by decide) ?_
  refine e_iconst (k := 1) (xi171 1) ?_
  refine e_putI (j := 7) (k := 2) (xi171 2) (ok_mo hS) rfl ?_
  have tl1 : y_TL 1 M (x_up M 162 7 0) := tl_up tl0 (sl_mo7  (by omega)) (nf_mo7 )
  refine e_iconst (k := 3) (xi171 3) ?_
  refine e_istore (k := 4) (xi171 4) (Nat.le_of_ble_eq_true rfl) ?_
  show x_Ev 171 5 [.inr 162, .inl 0, x_un, x_un] [] (0, 0) (z, P, (x_up M 162 7 0)) _
  have t2 := ty_mo7 tl1.1 
  have t3 : ((x_up M 162 7 0)) 162 7 = 0 := x_up_self
  refine kl_m_finds_a hS      13 _ _ ((x_up M 162 7 0)) 0 tl1 (by omega) (by omega) ?_
  intro x6 x7 tl4 q5
  show x_Ev 171 54 [.inr 162, .inl ((l_m_finds_a 13 ((x_up M 162 7 0)) 0).2), x6, x7] [] (0, 0) (z, P, (l_m_finds_a 13 ((x_up M 162 7 0)) 0).1) _
  refine e_vret (k := 54) (xi171 54) ?_
  exact y_fU (show u_m_finds M = (l_m_finds_a 13 ((x_up M 162 7 0)) 0).1 from rfl) tl4
def w_m_len_a (c : Int) (M : Int → Int → Int) : Nat → Int → Int → Int → Int → Int
  | 0, h, g, sm, j => 0
  | k + 1, h, g, sm, j => if M 162 7 ≤ j then (if ¬ g = 0 then (-1) else sm) else if g + M 166 (M 167 j) < 0 then (-1) else if g + M 166 (M 167 j) ≤ M 163 (1594 + 12 * c) then w_m_len_a c M k (M 165 (M 167 j)) (g + M 166 (M 167 j)) (sm + M 163 (970 + 12 * h + M 165 (M 167 j))) (1 + j) else (-1)
theorem kw_m_len_a {z : Int} {P M : Int → Int → Int} (hS : x_Sh z P) (hT : y_TC M) (c : Int)   (hc : 0 ≤ c ∧ c < 3) (ho : M 162 7 ≤ 7) : ∀ k : Nat, ∀ x7 : xV, ∀ h : Int, ∀ g : Int, ∀ sm : Int, ∀ j : Int, ((0 ≤ h ∧ h ≤ 11) ∧ (0 ≤ g ∧ g ≤ 8) ∧ (0 ≤ sm ∧ sm ≤ 999 * j) ∧ 0 ≤ j ∧ j ≤ 7) → 7 - j < (k : Int) → x_Ev 172 17 [.inr 162, .inl (c), .inl (1594 + 12 * c), .inl (h), .inl (g), .inl (sm), .inl (j), x7] [] (0, 0) (z, P, M) (fun q => q = (some (.inl (w_m_len_a c M k h g sm j)), (z, P, M)) ∧ (fun v => -1 ≤ v ∧ v ≤ 6993) (w_m_len_a c M k h g sm j)) := by
  intro k
  induction k with
  | zero => intro x7 h g sm j hi hm; omega
  | succ k ih =>
    intro x7 h g sm j hi hm
    refine e_iload (k := 17) (xi172 17) rfl ?_
    refine e_aload (k := 18) (xi172 18) rfl (by decide) ?_
    have t1 := ty_mo7 hT 
    refine e_getI (j := 7) (w := M 162 7) (k := 19) (xi172 19) (ok_mo hS) rfl rfl ?_
    refine e_c_ge (k := 20) (xi172 20) (fun c0 => ?_) (fun c0 => ?_)
    · skip
      refine e_iload (k := 60) (xi172 60) rfl ?_
      refine e_z_ne (k := 61) (xi172 61) (fun c1 => ?_) (fun c1 => ?_)
      · skip
        refine e_iconst (k := 64) (xi172 64) ?_
        refine e_iret (k := 65) (xi172 65) ?_
        exact y_fV (Q := fun v => -1 ≤ v ∧ v ≤ 6993) (show w_m_len_a c M (k + 1) h g sm j = (-1) from by rw [w_m_len_a, if_pos c0, if_pos c1]) (by omega)
      · skip
        refine e_iload (k := 62) (xi172 62) rfl ?_
        refine e_goto (k := 63) (xi172 63) ?_
        refine e_iret (k := 65) (xi172 65) ?_
        exact y_fV (Q := fun v => -1 ≤ v ∧ v ≤ 6993) (show w_m_len_a c M (k + 1) h g sm j = sm from by rw [w_m_len_a, if_pos c0, if_neg c1]) (by omega)
    · skip
      refine e_aload (k := 21) (xi172 21) rfl (by decide) ?_
      refine e_getR (j := 8) (w := 167) (k := 22) (xi172 22) (ok_mo hS) rfl (sh_tried hS) ?_
      refine e_iload (k := 23) (xi172 23) rfl ?_
      have t2 := ty_tried (j := j) hT 
      refine e_iald (w := M 167 j) (k := 24) (xi172 24) (ok_tried hS) (by rw [ln_tried]; omega) rfl ?_
      refine e_istore (k := 25) (xi172 25) (Nat.le_of_ble_eq_true rfl) ?_
      show x_Ev 172 26 [.inr 162, .inl (c), .inl (1594 + 12 * c), .inl (h), .inl (g), .inl (sm), .inl (j), .inl (M 167 j)] [] (0, 0) (z, P, M) _
      refine e_iload (k := 26) (xi172 26) rfl ?_
      refine e_aload (k := 27) (xi172 27) rfl (by decide) ?_
      refine e_iload (k := 28) (xi172 28) rfl ?_
      refine e_aload (k := 29) (xi172 29) rfl (by decide) ?_
      refine e_getR (j := 5) (w := 165) (k := 30) (xi172 30) (ok_mo hS) rfl (sh_outs hS) ?_
      refine e_iload (k := 31) (xi172 31) rfl ?_
      have t3 := ty_outs (j := M 167 j) hT 
      refine e_iald (w := M 165 (M 167 j)) (k := 32) (xi172 32) (ok_outs hS) (by rw [ln_outs]; omega) rfl ?_
      have t4 := ty_aL hT (i := 970 + 12 * h + M 165 (M 167 j)) (a := h) (b := M 165 (M 167 j)) (by omega) (by omega) (by omega)
      refine e_call (k := 33) (v := some (.inl (M 163 (970 + 12 * h + M 165 (M 167 j))))) (h1 := (z, P, M)) (c1 := 0) (c2 := 0) (rest := [.inl (sm)]) (as := [.inr 162, .inl (h), .inl (M 165 (M 167 j))]) (xi172 33) (by decide) xm120 rfl ⟨rfl, Nat.le_of_ble_eq_true rfl, by decide⟩ (Or.inr (x_okt (ok_mo hS))) (k_mfar hS hT h (M 165 (M 167 j)) (970 + 12 * h + M 165 (M 167 j)) (by omega) (by omega) (by omega)) ?_
      refine e_iadd (w := sm + M 163 (970 + 12 * h + M 165 (M 167 j))) (k := 34) (xi172 34) (x_wn (by omega)) ?_
      refine e_istore (k := 35) (xi172 35) (Nat.le_of_ble_eq_true rfl) ?_
      show x_Ev 172 36 [.inr 162, .inl (c), .inl (1594 + 12 * c), .inl (h), .inl (g), .inl (sm + M 163 (970 + 12 * h + M 165 (M 167 j))), .inl (j), .inl (M 167 j)] [] (0, 0) (z, P, M) _
      refine e_aload (k := 36) (xi172 36) rfl (by decide) ?_
      refine e_getR (j := 5) (w := 165) (k := 37) (xi172 37) (ok_mo hS) rfl (sh_outs hS) ?_
      refine e_iload (k := 38) (xi172 38) rfl ?_
      refine e_iald (w := M 165 (M 167 j)) (k := 39) (xi172 39) (ok_outs hS) (by rw [ln_outs]; omega) rfl ?_
      refine e_istore (k := 40) (xi172 40) (Nat.le_of_ble_eq_true rfl) ?_
      show x_Ev 172 41 [.inr 162, .inl (c), .inl (1594 + 12 * c), .inl (M 165 (M 167 j)), .inl (g), .inl (sm + M 163 (970 + 12 * h + M 165 (M 167 j))), .inl (j), .inl (M 167 j)] [] (0, 0) (z, P, M) _
      refine e_iload (k := 41) (xi172 41) rfl ?_
      refine e_aload (k := 42) (xi172 42) rfl (by decide) ?_
      refine e_getR (j := 6) (w := 166) (k := 43) (xi172 43) (ok_mo hS) rfl (sh_over hS) ?_
      refine e_iload (k := 44) (xi172 44) rfl ?_
      have t5 := ty_over (j := M 167 j) hT 
      refine e_iald (w := M 166 (M 167 j)) (k := 45) (xi172 45) (ok_over hS) (by rw [ln_over]; omega) rfl ?_
      refine e_iadd (w := g + M 166 (M 167 j)) (k := 46) (xi172 46) (x_wn (by omega)) ?_
      refine e_istore (k := 47) (xi172 47) (Nat.le_of_ble_eq_true rfl) ?_
      show x_Ev 172 48 [.inr 162, .inl (c), .inl (1594 + 12 * c), .inl (M 165 (M 167 j)), .inl (g + M 166 (M 167 j)), .inl (sm + M 163 (970 + 12 * h + M 165 (M 167 j))), .inl (j), .inl (M 167 j)] [] (0, 0) (z, P, M) _
      refine e_iload (k := 48) (xi172 48) rfl ?_
      refine e_z_lt (k := 49) (xi172 49) (fun c2 => ?_) (fun c2 => ?_)
      · skip
        refine e_iconst (k := 56) (xi172 56) ?_
        refine e_iret (k := 57) (xi172 57) ?_
        exact y_fV (Q := fun v => -1 ≤ v ∧ v ≤ 6993) (show w_m_len_a c M (k + 1) h g sm j = (-1) from by rw [w_m_len_a, if_neg c0, if_pos c2]) (by omega)
      · skip
        refine e_iload (k := 50) (xi172 50) rfl ?_
        refine e_aload (k := 51) (xi172 51) rfl (by decide) ?_
        refine e_getR (j := 0) (w := 163) (k := 52) (xi172 52) (ok_mo hS) rfl (sh_all hS) ?_
        refine e_iload (k := 53) (xi172 53) rfl ?_
        have t6 := ty_aG0 hT (i := 1594 + 12 * c) (c := c) (by omega) (by omega)
        refine e_iald (w := M 163 (1594 + 12 * c)) (k := 54) (xi172 54) (ok_all hS) (by rw [ln_all]; omega) rfl ?_
        refine e_c_le (k := 55) (xi172 55) (fun c3 => ?_) (fun c3 => ?_)
        · skip
          refine e_iinc (w := 1 + j) (k := 58) (xi172 58) rfl (x_wn (by omega)) ?_
          show x_Ev 172 59 [.inr 162, .inl (c), .inl (1594 + 12 * c), .inl (M 165 (M 167 j)), .inl (g + M 166 (M 167 j)), .inl (sm + M 163 (970 + 12 * h + M 165 (M 167 j))), .inl (1 + j), .inl (M 167 j)] [] (0, 0) (z, P, M) _
          refine e_goto (k := 59) (xi172 59) ?_
          rw [(show w_m_len_a c M (k + 1) h g sm j = w_m_len_a c M k (M 165 (M 167 j)) (g + M 166 (M 167 j)) (sm + M 163 (970 + 12 * h + M 165 (M 167 j))) (1 + j) from by rw [w_m_len_a, if_neg c0, if_neg c2, if_pos c3])]
          exact ih _ (M 165 (M 167 j)) (g + M 166 (M 167 j)) (sm + M 163 (970 + 12 * h + M 165 (M 167 j))) (1 + j) (by omega) (by omega)
        · skip
          refine e_iconst (k := 56) (xi172 56) ?_
          refine e_iret (k := 57) (xi172 57) ?_
          exact y_fV (Q := fun v => -1 ≤ v ∧ v ≤ 6993) (show w_m_len_a c M (k + 1) h g sm j = (-1) from by rw [w_m_len_a, if_neg c0, if_neg c2, if_neg c3]) (by omega)
def v_m_len (c : Int) (M : Int → Int → Int) : Int := w_m_len_a c M 8 (M 163 (1595 + 12 * c)) 0 0 0
theorem k_m_len {z : Int} {P M : Int → Int → Int} (hS : x_Sh z P) (hT : y_TC M) (c : Int)  (hc : 0 ≤ c ∧ c < 3) (ho : M 162 7 ≤ 7) : x_CallR 172 [.inr 162, .inl (c)] (z, P, M) (fun q => q = (some (.inl (v_m_len c M)), (z, P, M)) ∧ (fun v => -1 ≤ v ∧ v ≤ 6993) (v_m_len c M)) := by
  refine e_body (ls0 := [.inr 162, .inl (c), x_un, x_un, x_un, x_un, x_un, x_un]) xm172 rfl ?_
  refine e_aload (k := 0) (xi172 0) rfl (by decide) ?_
  refine e_iload (k := 1) (xi172 1) rfl ?_
  refine e_call (k := 2) (v := some (.inl (1594 + 12 * c))) (h1 := (z, P, M)) (c1 := 0) (c2 := 0) (rest := []) (as := [.inr 162, .inl (c)]) (xi172 2) (by decide) xm156 rfl ⟨rfl, Nat.le_of_ble_eq_true rfl, by decide⟩ (Or.inr (x_okt (ok_mo hS))) (k_mwagonAt hS hT c (by omega)) ?_
  refine e_istore (k := 3) (xi172 3) (Nat.le_of_ble_eq_true rfl) ?_
  show x_Ev 172 4 [.inr 162, .inl (c), .inl (1594 + 12 * c), x_un, x_un, x_un, x_un, x_un] [] (0, 0) (z, P, M) _
  refine e_aload (k := 4) (xi172 4) rfl (by decide) ?_
  refine e_getR (j := 0) (w := 163) (k := 5) (xi172 5) (ok_mo hS) rfl (sh_all hS) ?_
  refine e_iload (k := 6) (xi172 6) rfl ?_
  refine e_iconst (k := 7) (xi172 7) ?_
  refine e_iadd (w := 1595 + 12 * c) (k := 8) (xi172 8) (x_wn (by omega)) ?_
  have t1 := ty_aG1 hT (i := 1595 + 12 * c) (c := c) (by omega) (by omega)
  refine e_iald (w := M 163 (1595 + 12 * c)) (k := 9) (xi172 9) (ok_all hS) (by rw [ln_all]; omega) rfl ?_
  refine e_istore (k := 10) (xi172 10) (Nat.le_of_ble_eq_true rfl) ?_
  show x_Ev 172 11 [.inr 162, .inl (c), .inl (1594 + 12 * c), .inl (M 163 (1595 + 12 * c)), x_un, x_un, x_un, x_un] [] (0, 0) (z, P, M) _
  refine e_iconst (k := 11) (xi172 11) ?_
  refine e_istore (k := 12) (xi172 12) (Nat.le_of_ble_eq_true rfl) ?_
  show x_Ev 172 13 [.inr 162, .inl (c), .inl (1594 + 12 * c), .inl (M 163 (1595 + 12 * c)), .inl 0, x_un, x_un, x_un] [] (0, 0) (z, P, M) _
  refine e_iconst (k := 13) (xi172 13) ?_
  refine e_istore (k := 14) (xi172 14) (Nat.le_of_ble_eq_true rfl) ?_
  show x_Ev 172 15 [.inr 162, .inl (c), .inl (1594 + 12 * c), .inl (M 163 (1595 + 12 * c)), .inl 0, .inl 0, x_un, x_un] [] (0, 0) (z, P, M) _
  refine e_iconst (k := 15) (xi172 15) ?_
  refine e_istore (k := 16) (xi172 16) (Nat.le_of_ble_eq_true rfl) ?_
  show x_Ev 172 17 [.inr 162, .inl (c), .inl (1594 + 12 * c), .inl (M 163 (1595 + 12 * c)), .inl 0, .inl 0, .inl 0, x_un] [] (0, 0) (z, P, M) _
  refine x_ev_mono (kw_m_len_a hS hT c    (by omega) (by omega) 8 _ (M 163 (1595 + 12 * c)) 0 0 0 (by omega) (by omega)) ?_
  rintro _ ⟨e2, q4⟩
  cases e2
  exact y_fV (Q := fun v => -1 ≤ v ∧ v ≤ 6993) (show v_m_len c M = w_m_len_a c M 8 (M 163 (1595 + 12 * c)) 0 0 0 from rfl) (by omega)
def l_n_plan_b (a : Int) : Nat → (Int → Int → Int) → Int → (Int → Int → Int) × Int
  | 0, M, j => (M, j)
  | k + 1, M, j => if M 162 7 ≤ j then (M, j) else l_n_plan_b a k ((x_up M 167 j j)) (1 + j)
theorem kl_n_plan_b {z : Int} {P M0 : Int → Int → Int} {r : Option xV × xH → Prop} (hS : x_Sh z P) (a : Int)    : ∀ k : Nat, ∀ M : (Int → Int → Int), ∀ j : Int, y_TL 6 M0 M → ((0 ≤ j ∧ j ≤ 7) ∧ M 162 7 ≤ 7) → 7 - j < (k : Int) → (y_TL 6 M0 ((l_n_plan_b a k M j).1) → ((l_n_plan_b a k M j).1) 162 7 ≤ 7 → x_Ev 174 59 [.inr 162, .inl (a), .inl ((l_n_plan_b a k M j).2), x_un, x_un, x_un] [] (0, 0) (z, P, (l_n_plan_b a k M j).1) r) → x_Ev 174 48 [.inr 162, .inl (a), .inl (j), x_un, x_un, x_un] [] (0, 0) (z, P, M) r := by
  intro k
  induction k with
  | zero => intro M j tl0 hi hm; omega
  | succ k ih =>
    intro M j tl0 hi hm kk
    refine e_iload (k := 48) (xi174 48) rfl ?_
    refine e_aload (k := 49) (xi174 49) rfl (by decide) ?_
    have t1 := ty_mo7 tl0.1 
    refine e_getI (j := 7) (w := M 162 7) (k := 50) (xi174 50) (ok_mo hS) rfl rfl ?_
    refine e_c_ge (k := 51) (xi174 51) (fun c0 => ?_) (fun c0 => ?_)
    · skip
      rw [(show l_n_plan_b a (k + 1) M j = (M, j) from by rw [l_n_plan_b, if_pos c0])] at kk
      try dsimp only at kk
      exact kk tl0 (by first | exact trivial | omega)
    · skip
      refine e_aload (k := 52) (xi174 52) rfl (by decide) ?_
      refine e_getR (j := 8) (w := 167) (k := 53) (xi174 53) (ok_mo hS) rfl (sh_tried hS) ?_
      refine e_iload (k := 54) (xi174 54) rfl ?_
      refine e_iload (k := 55) (xi174 55) rfl ?_
      refine e_iast (k := 56) (xi174 56) (ok_tried hS) (by rw [ln_tried]; omega) ?_
      have tl2 : y_TL 6 M0 (x_up M 167 j j) := tl_up tl0 (sl_tried (j := j)  (by omega)) (nf6)
      refine e_iinc (w := 1 + j) (k := 57) (xi174 57) rfl (x_wn (by omega)) ?_
      show x_Ev 174 58 [.inr 162, .inl (a), .inl (1 + j), x_un, x_un, x_un] [] (0, 0) (z, P, (x_up M 167 j j)) _
      refine e_goto (k := 58) (xi174 58) ?_
      have t3 := ty_mo7 tl2.1 
      have t4 : ((x_up M 167 j j)) 162 7 = M 162 7 := ((x_up_ne (by omega)).trans rfl)
      rw [(show l_n_plan_b a (k + 1) M j = l_n_plan_b a k ((x_up M 167 j j)) (1 + j) from by rw [l_n_plan_b, if_neg c0])] at kk
      exact ih ((x_up M 167 j j)) (1 + j) tl2 (by omega) (by omega) kk
def l_n_plan_d (a le mo_ ll : Int) : Nat → (Int → Int → Int) → Int → (Int → Int → Int) × Int
  | 0, M, j => (M, j)
  | k + 1, M, j => if M 162 7 ≤ j then (M, j) else l_n_plan_d a le mo_ ll k ((x_up M 168 j (M 165 (M 167 j)))) (1 + j)
theorem kl_n_plan_d {z : Int} {P M0 : Int → Int → Int} {r : Option xV × xH → Prop} (hS : x_Sh z P) (a : Int) (le : Int) (mo_ : Int) (ll : Int)    : ∀ k : Nat, ∀ M : (Int → Int → Int), ∀ j : Int, y_TL 7 M0 M → ((0 ≤ j ∧ j ≤ 7) ∧ M 162 7 ≤ 7) → 7 - j < (k : Int) → (y_TL 7 M0 ((l_n_plan_d a le mo_ ll k M j).1) → True → x_Ev 174 97 [.inr 162, .inl (a), .inl (le), .inl (mo_), .inl (ll), .inl ((l_n_plan_d a le mo_ ll k M j).2)] [] (0, 0) (z, P, (l_n_plan_d a le mo_ ll k M j).1) r) → x_Ev 174 80 [.inr 162, .inl (a), .inl (le), .inl (mo_), .inl (ll), .inl (j)] [] (0, 0) (z, P, M) r := by
  intro k
  induction k with
  | zero => intro M j tl0 hi hm; omega
  | succ k ih =>
    intro M j tl0 hi hm kk
    refine e_iload (k := 80) (xi174 80) rfl ?_
    refine e_aload (k := 81) (xi174 81) rfl (by decide) ?_
    have t1 := ty_mo7 tl0.1 
    refine e_getI (j := 7) (w := M 162 7) (k := 82) (xi174 82) (ok_mo hS) rfl rfl ?_
    refine e_c_ge (k := 83) (xi174 83) (fun c0 => ?_) (fun c0 => ?_)
    · skip
      rw [(show l_n_plan_d a le mo_ ll (k + 1) M j = (M, j) from by rw [l_n_plan_d, if_pos c0])] at kk
      try dsimp only at kk
      exact kk tl0 (by first | exact trivial | omega)
    · skip
      refine e_aload (k := 84) (xi174 84) rfl (by decide) ?_
      refine e_getR (j := 9) (w := 168) (k := 85) (xi174 85) (ok_mo hS) rfl (sh_best hS) ?_
      refine e_iload (k := 86) (xi174 86) rfl ?_
      refine e_aload (k := 87) (xi174 87) rfl (by decide) ?_
      refine e_getR (j := 5) (w := 165) (k := 88) (xi174 88) (ok_mo hS) rfl (sh_outs hS) ?_
      refine e_aload (k := 89) (xi174 89) rfl (by decide) ?_
      refine e_getR (j := 8) (w := 167) (k := 90) (xi174 90) (ok_mo hS) rfl (sh_tried hS) ?_
      refine e_iload (k := 91) (xi174 91) rfl ?_
      have t2 := ty_tried (j := j) tl0.1 
      refine e_iald (w := M 167 j) (k := 92) (xi174 92) (ok_tried hS) (by rw [ln_tried]; omega) rfl ?_
      have t3 := ty_outs (j := M 167 j) tl0.1 
      refine e_iald (w := M 165 (M 167 j)) (k := 93) (xi174 93) (ok_outs hS) (by rw [ln_outs]; omega) rfl ?_
      refine e_iast (k := 94) (xi174 94) (ok_best hS) (by rw [ln_best]; omega) ?_
      have tl4 : y_TL 7 M0 (x_up M 168 j (M 165 (M 167 j))) := tl_up tl0 (sl_best (j := j)  (by omega)) (nf7)
      refine e_iinc (w := 1 + j) (k := 95) (xi174 95) rfl (x_wn (by omega)) ?_
      show x_Ev 174 96 [.inr 162, .inl (a), .inl (le), .inl (mo_), .inl (ll), .inl (1 + j)] [] (0, 0) (z, P, (x_up M 168 j (M 165 (M 167 j)))) _
      refine e_goto (k := 96) (xi174 96) ?_
      have t5 := ty_mo7 tl4.1 
      have t6 : ((x_up M 168 j (M 165 (M 167 j)))) 162 7 = M 162 7 := ((x_up_ne (by omega)).trans rfl)
      rw [(show l_n_plan_d a le mo_ ll (k + 1) M j = l_n_plan_d a le mo_ ll k ((x_up M 168 j (M 165 (M 167 j)))) (1 + j) from by rw [l_n_plan_d, if_neg c0])] at kk
      exact ih ((x_up M 168 j (M 165 (M 167 j)))) (1 + j) tl4 (by omega) (by omega) kk
def l_n_plan_c (a : Int) : Nat → (Int → Int → Int) → Int → Int → (Int → Int → Int) × Int × Int
  | 0, M, le, mo_ => (M, le, mo_)
  | k + 1, M, le, mo_ => if mo_ = 0 then (M, le, mo_) else if v_m_len a M < 0 then l_n_plan_c a k ((u_m_turns M)) le (v_m_turns M) else if le < 0 then l_n_plan_c a k ((u_m_turns ((l_n_plan_d a (v_m_len a M) mo_ (v_m_len a M) 8 M 0).1))) (v_m_len a M) (v_m_turns ((l_n_plan_d a (v_m_len a M) mo_ (v_m_len a M) 8 M 0).1)) else if le ≤ v_m_len a M then l_n_plan_c a k ((u_m_turns M)) le (v_m_turns M) else l_n_plan_c a k ((u_m_turns ((l_n_plan_d a (v_m_len a M) mo_ (v_m_len a M) 8 M 0).1))) (v_m_len a M) (v_m_turns ((l_n_plan_d a (v_m_len a M) mo_ (v_m_len a M) 8 M 0).1))
theorem kl_n_plan_c {z : Int} {P M0 : Int → Int → Int} {r : Option xV × xH → Prop} (hS : x_Sh z P) (a : Int)  (ha : 0 ≤ a ∧ a < 3)  : ∀ k : Nat, ∀ x4 x5 : xV, ∀ M : (Int → Int → Int), ∀ le : Int, ∀ mo_ : Int, y_TL 1 M0 M → ((M 162 7 ≤ 7 ∧ y_inj M) ∧ (-1 ≤ le ∧ le ≤ 6993) ∧ 0 ≤ mo_ ∧ mo_ ≤ 1) → 2097153 - y_phi M + 3000000 * mo_ < (k : Int) → (∀ x4 x5 : xV, y_TL 1 M0 ((l_n_plan_c a k M le mo_).1) → (-1 ≤ ((l_n_plan_c a k M le mo_).2.1) ∧ ((l_n_plan_c a k M le mo_).2.1) ≤ 6993) ∧ ((l_n_plan_c a k M le mo_).1) 162 7 ≤ 7 → x_Ev 174 101 [.inr 162, .inl (a), .inl ((l_n_plan_c a k M le mo_).2.1), .inl ((l_n_plan_c a k M le mo_).2.2), x4, x5] [] (0, 0) (z, P, (l_n_plan_c a k M le mo_).1) r) → x_Ev 174 63 [.inr 162, .inl (a), .inl (le), .inl (mo_), x4, x5] [] (0, 0) (z, P, M) r := by
  intro k
  induction k with
  | zero => intro x4 x5 M le mo_ tl0 hi hm; have y1 := y_phi_in tl0.1; omega
  | succ k ih =>
    intro x4 x5 M le mo_ tl0 hi hm kk
    refine e_iload (k := 63) (xi174 63) rfl ?_
    refine e_z_eq (k := 64) (xi174 64) (fun c0 => ?_) (fun c0 => ?_)
    · skip
      have t1 := ty_mo7 tl0.1 
      rw [(show l_n_plan_c a (k + 1) M le mo_ = (M, le, mo_) from by rw [l_n_plan_c, if_pos c0])] at kk
      try dsimp only at kk
      exact kk _ _ tl0 (by first | exact trivial | omega)
    · skip
      refine e_aload (k := 65) (xi174 65) rfl (by decide) ?_
      refine e_iload (k := 66) (xi174 66) rfl ?_
      have t2 := ty_mo7 tl0.1 
      refine e_callR (k := 67) (c1 := 0) (c2 := 0) (rest := []) (as := [.inr 162, .inl (a)]) (xi174 67) (by decide) xm172 rfl ⟨rfl, Nat.le_of_ble_eq_true rfl, by decide⟩ (Or.inr (x_okt (ok_mo hS))) (k_m_len hS tl0.1 a  (by omega) (by omega)) ?_
      rintro v_ h_ ⟨e3, q5⟩
      cases e3
      show x_Ev 174 68 [.inr 162, .inl (a), .inl (le), .inl (mo_), x4, x5] [.inl (v_m_len a M)] (0, 0) (z, P, M) _
      refine e_istore (k := 68) (xi174 68) (Nat.le_of_ble_eq_true rfl) ?_
      show x_Ev 174 69 [.inr 162, .inl (a), .inl (le), .inl (mo_), .inl (v_m_len a M), x5] [] (0, 0) (z, P, M) _
      refine e_iload (k := 69) (xi174 69) rfl ?_
      refine e_z_lt (k := 70) (xi174 70) (fun c1 => ?_) (fun c1 => ?_)
      · skip
        refine e_aload (k := 97) (xi174 97) rfl (by decide) ?_
        refine e_callR (k := 98) (c1 := 0) (c2 := 0) (rest := []) (as := [.inr 162]) (xi174 98) (by decide) xm173 rfl ⟨rfl, Nat.le_of_ble_eq_true rfl, by decide⟩ (Or.inr (x_okt (ok_mo hS))) (k_m_turns hS tl0.1   (by omega)) ?_
        rintro v_ h_ ⟨e6, tl7, q8⟩
        cases e6
        have tl9 := tl_trans tl0 (tl_16 tl7)
        have n10 := tl_n6 tl7
        show x_Ev 174 99 [.inr 162, .inl (a), .inl (le), .inl (mo_), .inl (v_m_len a M), x5] [.inl (v_m_turns M)] (0, 0) (z, P, (u_m_turns M)) _
        refine e_istore (k := 99) (xi174 99) (Nat.le_of_ble_eq_true rfl) ?_
        show x_Ev 174 100 [.inr 162, .inl (a), .inl (le), .inl (v_m_turns M), .inl (v_m_len a M), x5] [] (0, 0) (z, P, (u_m_turns M)) _
        refine e_goto (k := 100) (xi174 100) ?_
        have t11 := ty_mo7 tl9.1 
        rw [(show l_n_plan_c a (k + 1) M le mo_ = l_n_plan_c a k ((u_m_turns M)) le (v_m_turns M) from by rw [l_n_plan_c, if_neg c0, if_pos c1])] at kk
        exact ih _ _ ((u_m_turns M)) le (v_m_turns M) tl9 (by
          have yt := y_turns tl0.1 tl9.1 hi.1.1 hi.1.2
          have yp : y_phi M = y_phi M := rfl
          exact ⟨⟨by omega, yt.1⟩, by omega, by omega⟩) (by
          have yt := y_turns tl0.1 tl9.1 hi.1.1 hi.1.2
          have yp : y_phi M = y_phi M := rfl
          have y1 := y_phi_in tl0.1
          have y2 := y_phi_in tl9.1
          rcases (show v_m_turns M = 0 ∨ v_m_turns M = 1 by omega) with g | g
          · omega
          · have y3 := yt.2 g
            omega) kk
      · skip
        refine e_iload (k := 71) (xi174 71) rfl ?_
        refine e_z_lt (k := 72) (xi174 72) (fun c2 => ?_) (fun c2 => ?_)
        · skip
          refine e_iload (k := 76) (xi174 76) rfl ?_
          refine e_istore (k := 77) (xi174 77) (Nat.le_of_ble_eq_true rfl) ?_
          show x_Ev 174 78 [.inr 162, .inl (a), .inl (v_m_len a M), .inl (mo_), .inl (v_m_len a M), x5] [] (0, 0) (z, P, M) _
          refine e_iconst (k := 78) (xi174 78) ?_
          refine e_istore (k := 79) (xi174 79) (Nat.le_of_ble_eq_true rfl) ?_
          show x_Ev 174 80 [.inr 162, .inl (a), .inl (v_m_len a M), .inl (mo_), .inl (v_m_len a M), .inl 0] [] (0, 0) (z, P, M) _
          refine kl_n_plan_d hS a (v_m_len a M) mo_ (v_m_len a M)    8 M 0 (tl_refl tl0.1) (by omega) (by omega) ?_
          intro tl12 q13
          have tl14 := tl_trans tl0 (tl_17 tl12)
          have n15 := tl_n7 tl12
          show x_Ev 174 97 [.inr 162, .inl (a), .inl (v_m_len a M), .inl (mo_), .inl (v_m_len a M), .inl ((l_n_plan_d a (v_m_len a M) mo_ (v_m_len a M) 8 M 0).2)] [] (0, 0) (z, P, (l_n_plan_d a (v_m_len a M) mo_ (v_m_len a M) 8 M 0).1) _
          refine e_aload (k := 97) (xi174 97) rfl (by decide) ?_
          have t16 := ty_mo7 tl14.1 
          refine e_callR (k := 98) (c1 := 0) (c2 := 0) (rest := []) (as := [.inr 162]) (xi174 98) (by decide) xm173 rfl ⟨rfl, Nat.le_of_ble_eq_true rfl, by decide⟩ (Or.inr (x_okt (ok_mo hS))) (k_m_turns hS tl14.1   (by omega)) ?_
          rintro v_ h_ ⟨e17, tl18, q19⟩
          cases e17
          have tl20 := tl_trans tl14 (tl_16 tl18)
          have n21 := tl_n6 tl18
          show x_Ev 174 99 [.inr 162, .inl (a), .inl (v_m_len a M), .inl (mo_), .inl (v_m_len a M), .inl ((l_n_plan_d a (v_m_len a M) mo_ (v_m_len a M) 8 M 0).2)] [.inl (v_m_turns ((l_n_plan_d a (v_m_len a M) mo_ (v_m_len a M) 8 M 0).1))] (0, 0) (z, P, (u_m_turns ((l_n_plan_d a (v_m_len a M) mo_ (v_m_len a M) 8 M 0).1))) _
          refine e_istore (k := 99) (xi174 99) (Nat.le_of_ble_eq_true rfl) ?_
          show x_Ev 174 100 [.inr 162, .inl (a), .inl (v_m_len a M), .inl (v_m_turns ((l_n_plan_d a (v_m_len a M) mo_ (v_m_len a M) 8 M 0).1)), .inl (v_m_len a M), .inl ((l_n_plan_d a (v_m_len a M) mo_ (v_m_len a M) 8 M 0).2)] [] (0, 0) (z, P, (u_m_turns ((l_n_plan_d a (v_m_len a M) mo_ (v_m_len a M) 8 M 0).1))) _
          refine e_goto (k := 100) (xi174 100) ?_
          have t22 := ty_mo7 tl20.1 
          rw [(show l_n_plan_c a (k + 1) M le mo_ = l_n_plan_c a k ((u_m_turns ((l_n_plan_d a (v_m_len a M) mo_ (v_m_len a M) 8 M 0).1))) (v_m_len a M) (v_m_turns ((l_n_plan_d a (v_m_len a M) mo_ (v_m_len a M) 8 M 0).1)) from by rw [l_n_plan_c, if_neg c0, if_neg c1, if_pos c2])] at kk
          exact ih _ _ ((u_m_turns ((l_n_plan_d a (v_m_len a M) mo_ (v_m_len a M) 8 M 0).1))) (v_m_len a M) (v_m_turns ((l_n_plan_d a (v_m_len a M) mo_ (v_m_len a M) 8 M 0).1)) tl20 (by
            have yt := y_turns tl14.1 tl20.1 (by have := hi.1.1; omega) (y_inj_fr n15.1 n15.2.1 hi.1.2)
            have yp : y_phi ((l_n_plan_d a (v_m_len a M) mo_ (v_m_len a M) 8 M 0).1) = y_phi M := (y_phi_fr n15.2.1)
            exact ⟨⟨by omega, yt.1⟩, by omega, by omega⟩) (by
            have yt := y_turns tl14.1 tl20.1 (by have := hi.1.1; omega) (y_inj_fr n15.1 n15.2.1 hi.1.2)
            have yp : y_phi ((l_n_plan_d a (v_m_len a M) mo_ (v_m_len a M) 8 M 0).1) = y_phi M := (y_phi_fr n15.2.1)
            have y1 := y_phi_in tl14.1
            have y2 := y_phi_in tl20.1
            rcases (show v_m_turns ((l_n_plan_d a (v_m_len a M) mo_ (v_m_len a M) 8 M 0).1) = 0 ∨ v_m_turns ((l_n_plan_d a (v_m_len a M) mo_ (v_m_len a M) 8 M 0).1) = 1 by omega) with g | g
            · omega
            · have y3 := yt.2 g
              omega) kk
        · skip
          refine e_iload (k := 73) (xi174 73) rfl ?_
          refine e_iload (k := 74) (xi174 74) rfl ?_
          refine e_c_ge (k := 75) (xi174 75) (fun c3 => ?_) (fun c3 => ?_)
          · skip
            refine e_aload (k := 97) (xi174 97) rfl (by decide) ?_
            refine e_callR (k := 98) (c1 := 0) (c2 := 0) (rest := []) (as := [.inr 162]) (xi174 98) (by decide) xm173 rfl ⟨rfl, Nat.le_of_ble_eq_true rfl, by decide⟩ (Or.inr (x_okt (ok_mo hS))) (k_m_turns hS tl0.1   (by omega)) ?_
            rintro v_ h_ ⟨e23, tl24, q25⟩
            cases e23
            have tl26 := tl_trans tl0 (tl_16 tl24)
            have n27 := tl_n6 tl24
            show x_Ev 174 99 [.inr 162, .inl (a), .inl (le), .inl (mo_), .inl (v_m_len a M), x5] [.inl (v_m_turns M)] (0, 0) (z, P, (u_m_turns M)) _
            refine e_istore (k := 99) (xi174 99) (Nat.le_of_ble_eq_true rfl) ?_
            show x_Ev 174 100 [.inr 162, .inl (a), .inl (le), .inl (v_m_turns M), .inl (v_m_len a M), x5] [] (0, 0) (z, P, (u_m_turns M)) _
            refine e_goto (k := 100) (xi174 100) ?_
            have t28 := ty_mo7 tl26.1 
            rw [(show l_n_plan_c a (k + 1) M le mo_ = l_n_plan_c a k ((u_m_turns M)) le (v_m_turns M) from by rw [l_n_plan_c, if_neg c0, if_neg c1, if_neg c2, if_pos c3])] at kk
            exact ih _ _ ((u_m_turns M)) le (v_m_turns M) tl26 (by
              have yt := y_turns tl0.1 tl26.1 hi.1.1 hi.1.2
              have yp : y_phi M = y_phi M := rfl
              exact ⟨⟨by omega, yt.1⟩, by omega, by omega⟩) (by
              have yt := y_turns tl0.1 tl26.1 hi.1.1 hi.1.2
              have yp : y_phi M = y_phi M := rfl
              have y1 := y_phi_in tl0.1
              have y2 := y_phi_in tl26.1
              rcases (show v_m_turns M = 0 ∨ v_m_turns M = 1 by omega) with g | g
              · omega
              · have y3 := yt.2 g
                omega) kk
          · skip
            refine e_iload (k := 76) (xi174 76) rfl ?_
            refine e_istore (k := 77) (xi174 77) (Nat.le_of_ble_eq_true rfl) ?_
            show x_Ev 174 78 [.inr 162, .inl (a), .inl (v_m_len a M), .inl (mo_), .inl (v_m_len a M), x5] [] (0, 0) (z, P, M) _
            refine e_iconst (k := 78) (xi174 78) ?_
            refine e_istore (k := 79) (xi174 79) (Nat.le_of_ble_eq_true rfl) ?_
            show x_Ev 174 80 [.inr 162, .inl (a), .inl (v_m_len a M), .inl (mo_), .inl (v_m_len a M), .inl 0] [] (0, 0) (z, P, M) _
            refine kl_n_plan_d hS a (v_m_len a M) mo_ (v_m_len a M)    8 M 0 (tl_refl tl0.1) (by omega) (by omega) ?_
            intro tl29 q30
            have tl31 := tl_trans tl0 (tl_17 tl29)
            have n32 := tl_n7 tl29
            show x_Ev 174 97 [.inr 162, .inl (a), .inl (v_m_len a M), .inl (mo_), .inl (v_m_len a M), .inl ((l_n_plan_d a (v_m_len a M) mo_ (v_m_len a M) 8 M 0).2)] [] (0, 0) (z, P, (l_n_plan_d a (v_m_len a M) mo_ (v_m_len a M) 8 M 0).1) _
            refine e_aload (k := 97) (xi174 97) rfl (by decide) ?_
            have t33 := ty_mo7 tl31.1 
            refine e_callR (k := 98) (c1 := 0) (c2 := 0) (rest := []) (as := [.inr 162]) (xi174 98) (by decide) xm173 rfl ⟨rfl, Nat.le_of_ble_eq_true rfl, by decide⟩ (Or.inr (x_okt (ok_mo hS))) (k_m_turns hS tl31.1   (by omega)) ?_
            rintro v_ h_ ⟨e34, tl35, q36⟩
            cases e34
            have tl37 := tl_trans tl31 (tl_16 tl35)
            have n38 := tl_n6 tl35
            show x_Ev 174 99 [.inr 162, .inl (a), .inl (v_m_len a M), .inl (mo_), .inl (v_m_len a M), .inl ((l_n_plan_d a (v_m_len a M) mo_ (v_m_len a M) 8 M 0).2)] [.inl (v_m_turns ((l_n_plan_d a (v_m_len a M) mo_ (v_m_len a M) 8 M 0).1))] (0, 0) (z, P, (u_m_turns ((l_n_plan_d a (v_m_len a M) mo_ (v_m_len a M) 8 M 0).1))) _
            refine e_istore (k := 99) (xi174 99) (Nat.le_of_ble_eq_true rfl) ?_
            show x_Ev 174 100 [.inr 162, .inl (a), .inl (v_m_len a M), .inl (v_m_turns ((l_n_plan_d a (v_m_len a M) mo_ (v_m_len a M) 8 M 0).1)), .inl (v_m_len a M), .inl ((l_n_plan_d a (v_m_len a M) mo_ (v_m_len a M) 8 M 0).2)] [] (0, 0) (z, P, (u_m_turns ((l_n_plan_d a (v_m_len a M) mo_ (v_m_len a M) 8 M 0).1))) _
            refine e_goto (k := 100) (xi174 100) ?_
            have t39 := ty_mo7 tl37.1 
            rw [(show l_n_plan_c a (k + 1) M le mo_ = l_n_plan_c a k ((u_m_turns ((l_n_plan_d a (v_m_len a M) mo_ (v_m_len a M) 8 M 0).1))) (v_m_len a M) (v_m_turns ((l_n_plan_d a (v_m_len a M) mo_ (v_m_len a M) 8 M 0).1)) from by rw [l_n_plan_c, if_neg c0, if_neg c1, if_neg c2, if_neg c3])] at kk
            exact ih _ _ ((u_m_turns ((l_n_plan_d a (v_m_len a M) mo_ (v_m_len a M) 8 M 0).1))) (v_m_len a M) (v_m_turns ((l_n_plan_d a (v_m_len a M) mo_ (v_m_len a M) 8 M 0).1)) tl37 (by
              have yt := y_turns tl31.1 tl37.1 (by have := hi.1.1; omega) (y_inj_fr n32.1 n32.2.1 hi.1.2)
              have yp : y_phi ((l_n_plan_d a (v_m_len a M) mo_ (v_m_len a M) 8 M 0).1) = y_phi M := (y_phi_fr n32.2.1)
              exact ⟨⟨by omega, yt.1⟩, by omega, by omega⟩) (by
              have yt := y_turns tl31.1 tl37.1 (by have := hi.1.1; omega) (y_inj_fr n32.1 n32.2.1 hi.1.2)
              have yp : y_phi ((l_n_plan_d a (v_m_len a M) mo_ (v_m_len a M) 8 M 0).1) = y_phi M := (y_phi_fr n32.2.1)
              have y1 := y_phi_in tl31.1
              have y2 := y_phi_in tl37.1
              rcases (show v_m_turns ((l_n_plan_d a (v_m_len a M) mo_ (v_m_len a M) 8 M 0).1) = 0 ∨ v_m_turns ((l_n_plan_d a (v_m_len a M) mo_ (v_m_len a M) 8 M 0).1) = 1 by omega) with g | g
              · omega
              · have y3 := yt.2 g
                omega) kk
def l_n_plan_e (a le mo_ : Int) : Nat → (Int → Int → Int) → Int → (Int → Int → Int) × Int
  | 0, M, j => (M, j)
  | k + 1, M, j => if M 162 7 ≤ j then (M, j) else l_n_plan_e a le mo_ k ((x_up M 169 j (M 168 j))) (1 + j)
theorem kl_n_plan_e {z : Int} {P M0 : Int → Int → Int} {r : Option xV × xH → Prop} (hS : x_Sh z P) (a : Int) (le : Int) (mo_ : Int)    : ∀ k : Nat, ∀ x5 : xV, ∀ M : (Int → Int → Int), ∀ j : Int, y_TL 1 M0 M → ((0 ≤ j ∧ j ≤ 7) ∧ M 162 7 ≤ 7) → 7 - j < (k : Int) → (∀ x5 : xV, y_TL 1 M0 ((l_n_plan_e a le mo_ k M j).1) → True → x_Ev 174 125 [.inr 162, .inl (a), .inl (le), .inl (mo_), .inl ((l_n_plan_e a le mo_ k M j).2), x5] [] (0, 0) (z, P, (l_n_plan_e a le mo_ k M j).1) r) → x_Ev 174 111 [.inr 162, .inl (a), .inl (le), .inl (mo_), .inl (j), x5] [] (0, 0) (z, P, M) r := by
  intro k
  induction k with
  | zero => intro x5 M j tl0 hi hm; omega
  | succ k ih =>
    intro x5 M j tl0 hi hm kk
    refine e_iload (k := 111) (xi174 111) rfl ?_
    refine e_aload (k := 112) (xi174 112) rfl (by decide) ?_
    have t1 := ty_mo7 tl0.1 
    refine e_getI (j := 7) (w := M 162 7) (k := 113) (xi174 113) (ok_mo hS) rfl rfl ?_
    refine e_c_ge (k := 114) (xi174 114) (fun c0 => ?_) (fun c0 => ?_)
    · skip
      rw [(show l_n_plan_e a le mo_ (k + 1) M j = (M, j) from by rw [l_n_plan_e, if_pos c0])] at kk
      try dsimp only at kk
      exact kk _ tl0 (by first | exact trivial | omega)
    · skip
      refine e_aload (k := 115) (xi174 115) rfl (by decide) ?_
      refine e_getR (j := 10) (w := 169) (k := 116) (xi174 116) (ok_mo hS) rfl (sh_round hS) ?_
      refine e_iload (k := 117) (xi174 117) rfl ?_
      refine e_aload (k := 118) (xi174 118) rfl (by decide) ?_
      refine e_getR (j := 9) (w := 168) (k := 119) (xi174 119) (ok_mo hS) rfl (sh_best hS) ?_
      refine e_iload (k := 120) (xi174 120) rfl ?_
      have t2 := ty_best (j := j) tl0.1 
      refine e_iald (w := M 168 j) (k := 121) (xi174 121) (ok_best hS) (by rw [ln_best]; omega) rfl ?_
      refine e_iast (k := 122) (xi174 122) (ok_round hS) (by rw [ln_round]; omega) ?_
      have tl3 : y_TL 1 M0 (x_up M 169 j (M 168 j)) := tl_up tl0 (sl_round (j := j)  (by omega)) (nf_round (j := j) )
      refine e_iinc (w := 1 + j) (k := 123) (xi174 123) rfl (x_wn (by omega)) ?_
      show x_Ev 174 124 [.inr 162, .inl (a), .inl (le), .inl (mo_), .inl (1 + j), x5] [] (0, 0) (z, P, (x_up M 169 j (M 168 j))) _
      refine e_goto (k := 124) (xi174 124) ?_
      have t4 := ty_mo7 tl3.1 
      have t5 : ((x_up M 169 j (M 168 j))) 162 7 = M 162 7 := ((x_up_ne (by omega)).trans rfl)
      rw [(show l_n_plan_e a le mo_ (k + 1) M j = l_n_plan_e a le mo_ k ((x_up M 169 j (M 168 j))) (1 + j) from by rw [l_n_plan_e, if_neg c0])] at kk
      exact ih _ ((x_up M 169 j (M 168 j))) (1 + j) tl3 (by omega) (by omega) kk
theorem y_pb (a : Int) : ∀ (k : Nat) (M : Int → Int → Int) (j : Int), M 162 7 - j < (k : Int) → (l_n_plan_b a k M j).1 162 7 = M 162 7 ∧ ∀ x, (l_n_plan_b a k M j).1 167 x = if j ≤ x ∧ x < M 162 7 then x else M 167 x := by
  intro k
  induction k with
  | zero => intro M j h; exact ⟨rfl, fun x => by rw [if_neg (by omega)]; rfl⟩
  | succ k ih =>
    intro M j h
    rw [l_n_plan_b]
    by_cases c : M 162 7 ≤ j
    · rw [if_pos c]
      exact ⟨rfl, fun x => by rw [if_neg (by omega)]⟩
    · rw [if_neg c]
      have e7 : (x_up M 167 j j) 162 7 = M 162 7 := x_up_ne (by omega)
      have q := ih (x_up M 167 j j) (1 + j) (by omega)
      refine ⟨q.1.trans e7, fun x => (q.2 x).trans ?_⟩
      rw [e7]
      by_cases h1 : x = j
      · rw [if_neg (by omega), if_pos (by omega), h1, x_up_self]
      · rw [x_up_nk h1]
        by_cases h2 : j ≤ x ∧ x < M 162 7
        · rw [if_pos (by omega), if_pos h2]
        · rw [if_neg (by omega), if_neg h2]
theorem y_inj_b (a : Int) (M : Int → Int → Int) (ho : M 162 7 ≤ 7) : y_inj (l_n_plan_b a 8 M 0).1 := by
  have q := y_pb a 8 M 0 (by omega)
  intro i j h1 h2 h3
  rw [q.1] at h3
  rw [q.2, q.2, if_pos (by omega), if_pos (by omega)]
  omega

def w_n_plan_a (a : Int) : Nat → (Int → Int → Int) → Int → Int
  | 0, M, j => 0
  | k + 1, M, j => if M 162 7 ≤ j then (if 0 ≤ (l_n_plan_c a 6000000 ((l_n_plan_b a 8 M 0).1) ((-1)) 1).2.1 then (l_n_plan_c a 6000000 ((l_n_plan_b a 8 M 0).1) ((-1)) 1).2.1 else (-1)) else if -M 166 j ≤ v_m_cntD (M 165 j) ((-1)) M then w_n_plan_a a k M (1 + j) else (-1)
def z_n_plan_a (a : Int) : Nat → (Int → Int → Int) → Int → (Int → Int → Int)
  | 0, M, j => M
  | k + 1, M, j => if M 162 7 ≤ j then (if 0 ≤ (l_n_plan_c a 6000000 ((l_n_plan_b a 8 M 0).1) ((-1)) 1).2.1 then (l_n_plan_e a ((l_n_plan_c a 6000000 ((l_n_plan_b a 8 M 0).1) ((-1)) 1).2.1) ((l_n_plan_c a 6000000 ((l_n_plan_b a 8 M 0).1) ((-1)) 1).2.2) 8 ((x_up ((l_n_plan_c a 6000000 ((l_n_plan_b a 8 M 0).1) ((-1)) 1).1) 162 11 (((l_n_plan_c a 6000000 ((l_n_plan_b a 8 M 0).1) ((-1)) 1).1) 162 7))) 0).1 else (l_n_plan_c a 6000000 ((l_n_plan_b a 8 M 0).1) ((-1)) 1).1) else if -M 166 j ≤ v_m_cntD (M 165 j) ((-1)) M then z_n_plan_a a k M (1 + j) else M
theorem kw_n_plan_a {z : Int} {P M0 : Int → Int → Int} (hS : x_Sh z P) (a : Int)  (ha : 0 ≤ a ∧ a < 3)  : ∀ k : Nat, ∀ M : (Int → Int → Int), ∀ j : Int, y_TL 1 M0 M → ((0 ≤ j ∧ j ≤ 7) ∧ M 162 7 ≤ 7) → 7 - j < (k : Int) → x_Ev 174 25 [.inr 162, .inl (a), .inl (j), x_un, x_un, x_un] [] (0, 0) (z, P, M) (fun q => q = (some (.inl (w_n_plan_a a k M j)), (z, P, (z_n_plan_a a k M j))) ∧ y_TL 1 M0 (z_n_plan_a a k M j) ∧ (fun v => -1 ≤ v ∧ v ≤ 6993) (w_n_plan_a a k M j)) := by
  intro k
  induction k with
  | zero => intro M j tl0 hi hm; omega
  | succ k ih =>
    intro M j tl0 hi hm
    refine e_iload (k := 25) (xi174 25) rfl ?_
    refine e_aload (k := 26) (xi174 26) rfl (by decide) ?_
    have t1 := ty_mo7 tl0.1 
    refine e_getI (j := 7) (w := M 162 7) (k := 27) (xi174 27) (ok_mo hS) rfl rfl ?_
    refine e_c_ge (k := 28) (xi174 28) (fun c0 => ?_) (fun c0 => ?_)
    · skip
      refine e_iconst (k := 46) (xi174 46) ?_
      refine e_istore (k := 47) (xi174 47) (Nat.le_of_ble_eq_true rfl) ?_
      show x_Ev 174 48 [.inr 162, .inl (a), .inl 0, x_un, x_un, x_un] [] (0, 0) (z, P, M) _
      refine kl_n_plan_b hS a     8 M 0 (tl_refl tl0.1) (by omega) (by omega) ?_
      intro tl2 q3
      have tl4 := tl_trans tl0 (tl_16 tl2)
      have n5 := tl_n6 tl2
      show x_Ev 174 59 [.inr 162, .inl (a), .inl ((l_n_plan_b a 8 M 0).2), x_un, x_un, x_un] [] (0, 0) (z, P, (l_n_plan_b a 8 M 0).1) _
      refine e_iconst (k := 59) (xi174 59) ?_
      refine e_istore (k := 60) (xi174 60) (Nat.le_of_ble_eq_true rfl) ?_
      show x_Ev 174 61 [.inr 162, .inl (a), .inl ((-1)), x_un, x_un, x_un] [] (0, 0) (z, P, (l_n_plan_b a 8 M 0).1) _
      refine e_iconst (k := 61) (xi174 61) ?_
      refine e_istore (k := 62) (xi174 62) (Nat.le_of_ble_eq_true rfl) ?_
      show x_Ev 174 63 [.inr 162, .inl (a), .inl ((-1)), .inl 1, x_un, x_un] [] (0, 0) (z, P, (l_n_plan_b a 8 M 0).1) _
      have t6 := ty_mo7 tl4.1 
      refine kl_n_plan_c hS a    (by omega) 6000000 _ _ ((l_n_plan_b a 8 M 0).1) ((-1)) 1 tl4 ⟨⟨by omega, y_inj_b _ _ (by omega)⟩, by omega, by omega⟩ (by have y1 := y_phi_in tl4.1; omega) ?_
      intro x9 x10 tl7 q8
      show x_Ev 174 101 [.inr 162, .inl (a), .inl ((l_n_plan_c a 6000000 ((l_n_plan_b a 8 M 0).1) ((-1)) 1).2.1), .inl ((l_n_plan_c a 6000000 ((l_n_plan_b a 8 M 0).1) ((-1)) 1).2.2), x9, x10] [] (0, 0) (z, P, (l_n_plan_c a 6000000 ((l_n_plan_b a 8 M 0).1) ((-1)) 1).1) _
      refine e_iload (k := 101) (xi174 101) rfl ?_
      refine e_z_ge (k := 102) (xi174 102) (fun c1 => ?_) (fun c1 => ?_)
      · skip
        refine e_aload (k := 105) (xi174 105) rfl (by decide) ?_
        refine e_aload (k := 106) (xi174 106) rfl (by decide) ?_
        have t11 := ty_mo7 tl7.1 
        refine e_getI (j := 7) (w := ((l_n_plan_c a 6000000 ((l_n_plan_b a 8 M 0).1) ((-1)) 1).1) 162 7) (k := 107) (xi174 107) (ok_mo hS) rfl rfl ?_
        refine e_putI (j := 11) (k := 108) (xi174 108) (ok_mo hS) rfl ?_
        have tl12 : y_TL 1 M0 (x_up ((l_n_plan_c a 6000000 ((l_n_plan_b a 8 M 0).1) ((-1)) 1).1) 162 11 (((l_n_plan_c a 6000000 ((l_n_plan_b a 8 M 0).1) ((-1)) 1).1) 162 7)) := tl_up tl7 (sl_mo11  (by omega)) (nf_mo11 )
        refine e_iconst (k := 109) (xi174 109) ?_
        refine e_istore (k := 110) (xi174 110) (Nat.le_of_ble_eq_true rfl) ?_
        show x_Ev 174 111 [.inr 162, .inl (a), .inl ((l_n_plan_c a 6000000 ((l_n_plan_b a 8 M 0).1) ((-1)) 1).2.1), .inl ((l_n_plan_c a 6000000 ((l_n_plan_b a 8 M 0).1) ((-1)) 1).2.2), .inl 0, x10] [] (0, 0) (z, P, (x_up ((l_n_plan_c a 6000000 ((l_n_plan_b a 8 M 0).1) ((-1)) 1).1) 162 11 (((l_n_plan_c a 6000000 ((l_n_plan_b a 8 M 0).1) ((-1)) 1).1) 162 7))) _
        have t13 := ty_mo7 tl12.1 
        have t14 : ((x_up ((l_n_plan_c a 6000000 ((l_n_plan_b a 8 M 0).1) ((-1)) 1).1) 162 11 (((l_n_plan_c a 6000000 ((l_n_plan_b a 8 M 0).1) ((-1)) 1).1) 162 7))) 162 7 = ((l_n_plan_c a 6000000 ((l_n_plan_b a 8 M 0).1) ((-1)) 1).1) 162 7 := ((x_up_nk (by omega)).trans rfl)
        refine kl_n_plan_e hS a ((l_n_plan_c a 6000000 ((l_n_plan_b a 8 M 0).1) ((-1)) 1).2.1) ((l_n_plan_c a 6000000 ((l_n_plan_b a 8 M 0).1) ((-1)) 1).2.2)    8 _ ((x_up ((l_n_plan_c a 6000000 ((l_n_plan_b a 8 M 0).1) ((-1)) 1).1) 162 11 (((l_n_plan_c a 6000000 ((l_n_plan_b a 8 M 0).1) ((-1)) 1).1) 162 7))) 0 tl12 (by omega) (by omega) ?_
        intro x17 tl15 q16
        show x_Ev 174 125 [.inr 162, .inl (a), .inl ((l_n_plan_c a 6000000 ((l_n_plan_b a 8 M 0).1) ((-1)) 1).2.1), .inl ((l_n_plan_c a 6000000 ((l_n_plan_b a 8 M 0).1) ((-1)) 1).2.2), .inl ((l_n_plan_e a ((l_n_plan_c a 6000000 ((l_n_plan_b a 8 M 0).1) ((-1)) 1).2.1) ((l_n_plan_c a 6000000 ((l_n_plan_b a 8 M 0).1) ((-1)) 1).2.2) 8 ((x_up ((l_n_plan_c a 6000000 ((l_n_plan_b a 8 M 0).1) ((-1)) 1).1) 162 11 (((l_n_plan_c a 6000000 ((l_n_plan_b a 8 M 0).1) ((-1)) 1).1) 162 7))) 0).2), x17] [] (0, 0) (z, P, (l_n_plan_e a ((l_n_plan_c a 6000000 ((l_n_plan_b a 8 M 0).1) ((-1)) 1).2.1) ((l_n_plan_c a 6000000 ((l_n_plan_b a 8 M 0).1) ((-1)) 1).2.2) 8 ((x_up ((l_n_plan_c a 6000000 ((l_n_plan_b a 8 M 0).1) ((-1)) 1).1) 162 11 (((l_n_plan_c a 6000000 ((l_n_plan_b a 8 M 0).1) ((-1)) 1).1) 162 7))) 0).1) _
        refine e_iload (k := 125) (xi174 125) rfl ?_
        refine e_iret (k := 126) (xi174 126) ?_
        exact y_fW (Q := fun v => -1 ≤ v ∧ v ≤ 6993) (show w_n_plan_a a (k + 1) M j = (l_n_plan_c a 6000000 ((l_n_plan_b a 8 M 0).1) ((-1)) 1).2.1 from by rw [w_n_plan_a, if_pos c0, if_pos c1]) (show z_n_plan_a a (k + 1) M j = (l_n_plan_e a ((l_n_plan_c a 6000000 ((l_n_plan_b a 8 M 0).1) ((-1)) 1).2.1) ((l_n_plan_c a 6000000 ((l_n_plan_b a 8 M 0).1) ((-1)) 1).2.2) 8 ((x_up ((l_n_plan_c a 6000000 ((l_n_plan_b a 8 M 0).1) ((-1)) 1).1) 162 11 (((l_n_plan_c a 6000000 ((l_n_plan_b a 8 M 0).1) ((-1)) 1).1) 162 7))) 0).1 from by rw [z_n_plan_a, if_pos c0, if_pos c1]) tl15 (by omega)
      · skip
        refine e_iconst (k := 103) (xi174 103) ?_
        refine e_iret (k := 104) (xi174 104) ?_
        exact y_fW (Q := fun v => -1 ≤ v ∧ v ≤ 6993) (show w_n_plan_a a (k + 1) M j = (-1) from by rw [w_n_plan_a, if_pos c0, if_neg c1]) (show z_n_plan_a a (k + 1) M j = (l_n_plan_c a 6000000 ((l_n_plan_b a 8 M 0).1) ((-1)) 1).1 from by rw [z_n_plan_a, if_pos c0, if_neg c1]) tl7 (by omega)
    · skip
      refine e_aload (k := 29) (xi174 29) rfl (by decide) ?_
      refine e_aload (k := 30) (xi174 30) rfl (by decide) ?_
      refine e_getR (j := 5) (w := 165) (k := 31) (xi174 31) (ok_mo hS) rfl (sh_outs hS) ?_
      refine e_iload (k := 32) (xi174 32) rfl ?_
      have t18 := ty_outs (j := j) tl0.1 
      refine e_iald (w := M 165 j) (k := 33) (xi174 33) (ok_outs hS) (by rw [ln_outs]; omega) rfl ?_
      refine e_iconst (k := 34) (xi174 34) ?_
      refine e_callR (k := 35) (c1 := 0) (c2 := 0) (rest := []) (as := [.inr 162, .inl (M 165 j), .inl ((-1))]) (xi174 35) (by decide) xm128 rfl ⟨rfl, Nat.le_of_ble_eq_true rfl, by decide⟩ (Or.inr (x_okt (ok_mo hS))) (k_m_cntD hS tl0.1 (M 165 j) ((-1))  (by omega)) ?_
      rintro v_ h_ ⟨e19, q21⟩
      cases e19
      show x_Ev 174 36 [.inr 162, .inl (a), .inl (j), x_un, x_un, x_un] [.inl (v_m_cntD (M 165 j) ((-1)) M)] (0, 0) (z, P, M) _
      refine e_aload (k := 36) (xi174 36) rfl (by decide) ?_
      refine e_getR (j := 6) (w := 166) (k := 37) (xi174 37) (ok_mo hS) rfl (sh_over hS) ?_
      refine e_iload (k := 38) (xi174 38) rfl ?_
      have t22 := ty_over (j := j) tl0.1 
      refine e_iald (w := M 166 j) (k := 39) (xi174 39) (ok_over hS) (by rw [ln_over]; omega) rfl ?_
      refine e_ineg (w := -M 166 j) (k := 40) (xi174 40) (x_wn (by omega)) ?_
      refine e_c_ge (k := 41) (xi174 41) (fun c2 => ?_) (fun c2 => ?_)
      · skip
        refine e_iinc (w := 1 + j) (k := 44) (xi174 44) rfl (x_wn (by omega)) ?_
        show x_Ev 174 45 [.inr 162, .inl (a), .inl (1 + j), x_un, x_un, x_un] [] (0, 0) (z, P, M) _
        refine e_goto (k := 45) (xi174 45) ?_
        rw [(show w_n_plan_a a (k + 1) M j = w_n_plan_a a k M (1 + j) from by rw [w_n_plan_a, if_neg c0, if_pos c2])]
        rw [(show z_n_plan_a a (k + 1) M j = z_n_plan_a a k M (1 + j) from by rw [z_n_plan_a, if_neg c0, if_pos c2])]
        exact ih M (1 + j) tl0 (by omega) (by omega)
      · skip
        refine e_iconst (k := 42) (xi174 42) ?_
        refine e_iret (k := 43) (xi174 43) ?_
        exact y_fW (Q := fun v => -1 ≤ v ∧ v ≤ 6993) (show w_n_plan_a a (k + 1) M j = (-1) from by rw [w_n_plan_a, if_neg c0, if_neg c2]) (show z_n_plan_a a (k + 1) M j = M from by rw [z_n_plan_a, if_neg c0, if_neg c2]) tl0 (by omega)
def v_n_plan (a : Int) (M : Int → Int → Int) : Int := if 0 ≤ a ∧ a < M 163 2 then (if M 163 (1597 + 12 * a) ≤ 0 then (if ((u_m_finds M)) 162 7 ≤ 7 then w_n_plan_a a 8 ((u_m_finds M)) 0 else (-1)) else (-1)) else (-1)
def u_n_plan (a : Int) (M : Int → Int → Int) : Int → Int → Int := if 0 ≤ a ∧ a < M 163 2 then (if M 163 (1597 + 12 * a) ≤ 0 then (if ((u_m_finds M)) 162 7 ≤ 7 then (z_n_plan_a a 8 ((u_m_finds M)) 0) else (u_m_finds M)) else M) else M
theorem k_n_plan {z : Int} {P M : Int → Int → Int} (hS : x_Sh z P) (hT : y_TC M) (a : Int)   : x_CallR 174 [.inr 162, .inl (a)] (z, P, M) (fun q => q = (some (.inl (v_n_plan a M)), (z, P, u_n_plan a M)) ∧ y_TL 1 M (u_n_plan a M) ∧ (fun v => -1 ≤ v ∧ v ≤ 6993) (v_n_plan a M)) := by
  have tl0 : y_TL 1 M M := tl_refl hT
  refine e_body (ls0 := [.inr 162, .inl (a), x_un, x_un, x_un, x_un]) xm174 rfl ?_
  refine e_aload (k := 0) (xi174 0) rfl (by decide) ?_
  refine e_iload (k := 1) (xi174 1) rfl ?_
  have t1 := ty_a2 tl0.1
  refine e_call (k := 2) (v := some (.inl (x_b (0 ≤ a ∧ a < M 163 2)))) (h1 := (z, P, M)) (c1 := 0) (c2 := 0) (rest := []) (as := [.inr 162, .inl (a)]) (xi174 2) (by decide) xm116 rfl ⟨rfl, Nat.le_of_ble_eq_true rfl, by decide⟩ (Or.inr (x_okt (ok_mo hS))) (k_isCart hS tl0.1 a  ) ?_
  refine e_b_eq (k := 3) (xi174 3) (fun c0 => ?_) (fun c0 => ?_)
  · skip
    refine e_aload (k := 4) (xi174 4) rfl (by decide) ?_
    refine e_getR (j := 0) (w := 163) (k := 5) (xi174 5) (ok_mo hS) rfl (sh_all hS) ?_
    refine e_aload (k := 6) (xi174 6) rfl (by decide) ?_
    refine e_iload (k := 7) (xi174 7) rfl ?_
    refine e_call (k := 8) (v := some (.inl (1594 + 12 * a))) (h1 := (z, P, M)) (c1 := 0) (c2 := 0) (rest := [.inr 163]) (as := [.inr 162, .inl (a)]) (xi174 8) (by decide) xm156 rfl ⟨rfl, Nat.le_of_ble_eq_true rfl, by decide⟩ (Or.inr (x_okt (ok_mo hS))) (k_mwagonAt hS tl0.1 a (by omega)) ?_
    refine e_iconst (k := 9) (xi174 9) ?_
    refine e_iadd (w := 1597 + 12 * a) (k := 10) (xi174 10) (x_wn (by omega)) ?_
    have t2 := ty_aG3 tl0.1 (i := 1597 + 12 * a) (c := a) (by omega) (by omega)
    refine e_iald (w := M 163 (1597 + 12 * a)) (k := 11) (xi174 11) (ok_all hS) (by rw [ln_all]; omega) rfl ?_
    refine e_z_le (k := 12) (xi174 12) (fun c1 => ?_) (fun c1 => ?_)
    · skip
      refine e_aload (k := 15) (xi174 15) rfl (by decide) ?_
      refine e_callR (k := 16) (c1 := 0) (c2 := 0) (rest := []) (as := [.inr 162]) (xi174 16) (by decide) xm171 rfl ⟨rfl, Nat.le_of_ble_eq_true rfl, by decide⟩ (Or.inr (x_okt (ok_mo hS))) (k_m_finds hS tl0.1   ) ?_
      rintro v_ h_ ⟨e3, tl4⟩
      cases e3
      have tl6 := tl_trans tl0 (tl4)
      have n7 := tl_a tl4
      show x_Ev 174 17 [.inr 162, .inl (a), x_un, x_un, x_un, x_un] [] (0, 0) (z, P, (u_m_finds M)) _
      refine e_aload (k := 17) (xi174 17) rfl (by decide) ?_
      have t8 := ty_mo7 tl6.1 
      refine e_getI (j := 7) (w := ((u_m_finds M)) 162 7) (k := 18) (xi174 18) (ok_mo hS) rfl rfl ?_
      refine e_iconst (k := 19) (xi174 19) ?_
      refine e_c_le (k := 20) (xi174 20) (fun c2 => ?_) (fun c2 => ?_)
      · skip
        refine e_iconst (k := 23) (xi174 23) ?_
        refine e_istore (k := 24) (xi174 24) (Nat.le_of_ble_eq_true rfl) ?_
        show x_Ev 174 25 [.inr 162, .inl (a), .inl 0, x_un, x_un, x_un] [] (0, 0) (z, P, (u_m_finds M)) _
        refine x_ev_mono (kw_n_plan_a hS a    (by omega) 8 ((u_m_finds M)) 0 tl6 (by omega) (by omega)) ?_
        rintro _ ⟨e9, tl10, q11⟩
        cases e9
        exact y_fW (Q := fun v => -1 ≤ v ∧ v ≤ 6993) (show v_n_plan a M = w_n_plan_a a 8 ((u_m_finds M)) 0 from by rw [v_n_plan, if_pos c0, if_pos c1, if_pos c2]) (show u_n_plan a M = (z_n_plan_a a 8 ((u_m_finds M)) 0) from by rw [u_n_plan, if_pos c0, if_pos c1, if_pos c2]) tl10 (by omega)
      · skip
        refine e_iconst (k := 21) (xi174 21) ?_
        refine e_iret (k := 22) (xi174 22) ?_
        exact y_fW (Q := fun v => -1 ≤ v ∧ v ≤ 6993) (show v_n_plan a M = (-1) from by rw [v_n_plan, if_pos c0, if_pos c1, if_neg c2]) (show u_n_plan a M = (u_m_finds M) from by rw [u_n_plan, if_pos c0, if_pos c1, if_neg c2]) tl6 (by omega)
    · skip
      refine e_iconst (k := 13) (xi174 13) ?_
      refine e_iret (k := 14) (xi174 14) ?_
      exact y_fW (Q := fun v => -1 ≤ v ∧ v ≤ 6993) (show v_n_plan a M = (-1) from by rw [v_n_plan, if_pos c0, if_neg c1]) (show u_n_plan a M = M from by rw [u_n_plan, if_pos c0, if_neg c1]) tl0 (by omega)
  · skip
    refine e_iconst (k := 13) (xi174 13) ?_
    refine e_iret (k := 14) (xi174 14) ?_
    exact y_fW (Q := fun v => -1 ≤ v ∧ v ≤ 6993) (show v_n_plan a M = (-1) from by rw [v_n_plan, if_neg c0]) (show u_n_plan a M = M from by rw [u_n_plan, if_neg c0]) tl0 (by omega)
def l_n_carry_b (a ln j s go : Int) : Nat → (Int → Int → Int) → Int → Int → (Int → Int → Int) × Int × Int
  | 0, M, mu, d => (M, mu, d)
  | k + 1, M, mu, d => if M 163 (10 + 80 * s) ≤ d then (M, mu, d) else if mu ≤ 0 then (M, mu, d) else if M 163 (11 + 80 * s + d) < 0 then l_n_carry_b a ln j s go k M mu (1 + d) else if ¬ M 163 (1114 + 8 * M 163 (11 + 80 * s + d)) = 2 then l_n_carry_b a ln j s go k ((u_n_pick a d M)) ((-1) + mu) (1 + d) else l_n_carry_b a ln j s go k M mu (1 + d)
theorem kl_n_carry_b {z : Int} {P M0 : Int → Int → Int} {r : Option xV × xH → Prop} (hS : x_Sh z P) (a : Int) (ln : Int) (j : Int) (s : Int) (go : Int)  (hs : 0 ≤ s ∧ s < 12)  : ∀ k : Nat, ∀ x8 : xV, ∀ M : (Int → Int → Int), ∀ mu : Int, ∀ d : Int, y_TL 1 M0 M → ((-12 ≤ mu ∧ mu ≤ 60) ∧ 0 ≤ d ∧ d ≤ 12) → 12 - d < (k : Int) → (∀ x8 : xV, y_TL 1 M0 ((l_n_carry_b a ln j s go k M mu d).1) → -12 ≤ ((l_n_carry_b a ln j s go k M mu d).2.1) ∧ ((l_n_carry_b a ln j s go k M mu d).2.1) ≤ 60 → x_Ev 177 62 [.inr 162, .inl (a), .inl (ln), .inl (j), .inl (s), .inl (go), .inl ((l_n_carry_b a ln j s go k M mu d).2.1), .inl ((l_n_carry_b a ln j s go k M mu d).2.2), x8] [] (0, 0) (z, P, (l_n_carry_b a ln j s go k M mu d).1) r) → x_Ev 177 30 [.inr 162, .inl (a), .inl (ln), .inl (j), .inl (s), .inl (go), .inl (mu), .inl (d), x8] [] (0, 0) (z, P, M) r := by
  intro k
  induction k with
  | zero => intro x8 M mu d tl0 hi hm; omega
  | succ k ih =>
    intro x8 M mu d tl0 hi hm kk
    refine e_iload (k := 30) (xi177 30) rfl ?_
    refine e_aload (k := 31) (xi177 31) rfl (by decide) ?_
    refine e_iload (k := 32) (xi177 32) rfl ?_
    have t1 := ty_aD tl0.1 (i := 10 + 80 * s) (s := s) (by omega) (by omega)
    refine e_call (k := 33) (v := some (.inl (M 163 (10 + 80 * s)))) (h1 := (z, P, M)) (c1 := 0) (c2 := 0) (rest := [.inl (d)]) (as := [.inr 162, .inl (s)]) (xi177 33) (by decide) xm118 rfl ⟨rfl, Nat.le_of_ble_eq_true rfl, by decide⟩ (Or.inr (x_okt (ok_mo hS))) (k_mdocks hS tl0.1 s (10 + 80 * s) (by omega) (by omega)) ?_
    refine e_c_ge (k := 34) (xi177 34) (fun c0 => ?_) (fun c0 => ?_)
    · skip
      rw [(show l_n_carry_b a ln j s go (k + 1) M mu d = (M, mu, d) from by rw [l_n_carry_b, if_pos c0])] at kk
      try dsimp only at kk
      exact kk _ tl0 (by first | exact trivial | omega)
    · skip
      refine e_iload (k := 35) (xi177 35) rfl ?_
      refine e_z_le (k := 36) (xi177 36) (fun c1 => ?_) (fun c1 => ?_)
      · skip
        rw [(show l_n_carry_b a ln j s go (k + 1) M mu d = (M, mu, d) from by rw [l_n_carry_b, if_neg c0, if_pos c1])] at kk
        try dsimp only at kk
        exact kk _ tl0 (by first | exact trivial | omega)
      · skip
        refine e_aload (k := 37) (xi177 37) rfl (by decide) ?_
        refine e_getR (j := 0) (w := 163) (k := 38) (xi177 38) (ok_mo hS) rfl (sh_all hS) ?_
        refine e_aload (k := 39) (xi177 39) rfl (by decide) ?_
        refine e_iload (k := 40) (xi177 40) rfl ?_
        refine e_iload (k := 41) (xi177 41) rfl ?_
        refine e_call (k := 42) (v := some (.inl (11 + 80 * s + d))) (h1 := (z, P, M)) (c1 := 0) (c2 := 0) (rest := [.inr 163]) (as := [.inr 162, .inl (s), .inl (d)]) (xi177 42) (by decide) xm119 rfl ⟨rfl, Nat.le_of_ble_eq_true rfl, by decide⟩ (Or.inr (x_okt (ok_mo hS))) (k_mdockAt hS tl0.1 s d (by omega) (by omega)) ?_
        have t2 := ty_aC tl0.1 (i := 11 + 80 * s + d) (s := s) (d := d) (by omega) (by omega) (by omega)
        refine e_iald (w := M 163 (11 + 80 * s + d)) (k := 43) (xi177 43) (ok_all hS) (by rw [ln_all]; omega) rfl ?_
        refine e_istore (k := 44) (xi177 44) (Nat.le_of_ble_eq_true rfl) ?_
        show x_Ev 177 45 [.inr 162, .inl (a), .inl (ln), .inl (j), .inl (s), .inl (go), .inl (mu), .inl (d), .inl (M 163 (11 + 80 * s + d))] [] (0, 0) (z, P, M) _
        refine e_iload (k := 45) (xi177 45) rfl ?_
        refine e_z_lt (k := 46) (xi177 46) (fun c2 => ?_) (fun c2 => ?_)
        · skip
          refine e_iinc (w := 1 + d) (k := 60) (xi177 60) rfl (x_wn (by omega)) ?_
          show x_Ev 177 61 [.inr 162, .inl (a), .inl (ln), .inl (j), .inl (s), .inl (go), .inl (mu), .inl (1 + d), .inl (M 163 (11 + 80 * s + d))] [] (0, 0) (z, P, M) _
          refine e_goto (k := 61) (xi177 61) ?_
          rw [(show l_n_carry_b a ln j s go (k + 1) M mu d = l_n_carry_b a ln j s go k M mu (1 + d) from by rw [l_n_carry_b, if_neg c0, if_neg c1, if_pos c2])] at kk
          exact ih _ M mu (1 + d) tl0 (by omega) (by omega) kk
        · skip
          refine e_aload (k := 47) (xi177 47) rfl (by decide) ?_
          refine e_iload (k := 48) (xi177 48) rfl ?_
          refine e_iconst (k := 49) (xi177 49) ?_
          have t3 := ty_aW0 tl0.1 (i := 1114 + 8 * M 163 (11 + 80 * s + d)) (w := M 163 (11 + 80 * s + d)) (by omega) (by omega)
          refine e_call (k := 50) (v := some (.inl (M 163 (1114 + 8 * M 163 (11 + 80 * s + d))))) (h1 := (z, P, M)) (c1 := 0) (c2 := 0) (rest := []) (as := [.inr 162, .inl (M 163 (11 + 80 * s + d)), .inl 0]) (xi177 50) (by decide) xm129 rfl ⟨rfl, Nat.le_of_ble_eq_true rfl, by decide⟩ (Or.inr (x_okt (ok_mo hS))) (k_mof hS tl0.1 (M 163 (11 + 80 * s + d)) 0 (1114 + 8 * M 163 (11 + 80 * s + d)) (by omega) (by omega) (by omega)) ?_
          refine e_iconst (k := 51) (xi177 51) ?_
          refine e_c_ne (k := 52) (xi177 52) (fun c3 => ?_) (fun c3 => ?_)
          · skip
            refine e_aload (k := 54) (xi177 54) rfl (by decide) ?_
            refine e_iload (k := 55) (xi177 55) rfl ?_
            refine e_iload (k := 56) (xi177 56) rfl ?_
            refine e_callR (k := 57) (c1 := 0) (c2 := 0) (rest := []) (as := [.inr 162, .inl (a), .inl (d)]) (xi177 57) (by decide) xm162 rfl ⟨rfl, Nat.le_of_ble_eq_true rfl, by decide⟩ (Or.inr (x_okt (ok_mo hS))) (k_n_pick hS tl0.1 a d  ) ?_
            rintro v_ h_ ⟨e4, tl5, q6⟩
            cases e4
            have tl7 := tl_trans tl0 (tl5)
            have n8 := tl_a tl5
            show x_Ev 177 58 [.inr 162, .inl (a), .inl (ln), .inl (j), .inl (s), .inl (go), .inl (mu), .inl (d), .inl (M 163 (11 + 80 * s + d))] [.inl (v_n_pick a d M)] (0, 0) (z, P, (u_n_pick a d M)) _
            refine e_istore (k := 58) (xi177 58) (Nat.le_of_ble_eq_true rfl) ?_
            show x_Ev 177 59 [.inr 162, .inl (a), .inl (ln), .inl (j), .inl (s), .inl (go), .inl (mu), .inl (d), .inl (v_n_pick a d M)] [] (0, 0) (z, P, (u_n_pick a d M)) _
            refine e_iinc (w := (-1) + mu) (k := 59) (xi177 59) rfl (x_wn (by omega)) ?_
            show x_Ev 177 60 [.inr 162, .inl (a), .inl (ln), .inl (j), .inl (s), .inl (go), .inl ((-1) + mu), .inl (d), .inl (v_n_pick a d M)] [] (0, 0) (z, P, (u_n_pick a d M)) _
            refine e_iinc (w := 1 + d) (k := 60) (xi177 60) rfl (x_wn (by omega)) ?_
            show x_Ev 177 61 [.inr 162, .inl (a), .inl (ln), .inl (j), .inl (s), .inl (go), .inl ((-1) + mu), .inl (1 + d), .inl (v_n_pick a d M)] [] (0, 0) (z, P, (u_n_pick a d M)) _
            refine e_goto (k := 61) (xi177 61) ?_
            rw [(show l_n_carry_b a ln j s go (k + 1) M mu d = l_n_carry_b a ln j s go k ((u_n_pick a d M)) ((-1) + mu) (1 + d) from by rw [l_n_carry_b, if_neg c0, if_neg c1, if_neg c2, if_pos c3])] at kk
            exact ih _ ((u_n_pick a d M)) ((-1) + mu) (1 + d) tl7 (by omega) (by omega) kk
          · skip
            refine e_goto (k := 53) (xi177 53) ?_
            refine e_iinc (w := 1 + d) (k := 60) (xi177 60) rfl (x_wn (by omega)) ?_
            show x_Ev 177 61 [.inr 162, .inl (a), .inl (ln), .inl (j), .inl (s), .inl (go), .inl (mu), .inl (1 + d), .inl (M 163 (11 + 80 * s + d))] [] (0, 0) (z, P, M) _
            refine e_goto (k := 61) (xi177 61) ?_
            rw [(show l_n_carry_b a ln j s go (k + 1) M mu d = l_n_carry_b a ln j s go k M mu (1 + d) from by rw [l_n_carry_b, if_neg c0, if_neg c1, if_neg c2, if_neg c3])] at kk
            exact ih _ M mu (1 + d) tl0 (by omega) (by omega) kk
def l_n_carry_c (a ln j s : Int) : Nat → (Int → Int → Int) → Int → Int → (Int → Int → Int) × Int × Int
  | 0, M, go, mu => (M, go, mu)
  | k + 1, M, go, mu => if 0 ≤ mu then (M, go, mu) else if go < 0 then (M, go, mu) else l_n_carry_c a ln j s k ((u_n_drop a M)) (v_n_drop a M) (1 + mu)
theorem kl_n_carry_c {z : Int} {P M0 : Int → Int → Int} {r : Option xV × xH → Prop} (hS : x_Sh z P) (a : Int) (ln : Int) (j : Int) (s : Int)    : ∀ k : Nat, ∀ x7 x8 : xV, ∀ M : (Int → Int → Int), ∀ go : Int, ∀ mu : Int, y_TL 1 M0 M → (-12 ≤ mu ∧ mu ≤ 60) → max (0 - mu) 0 < (k : Int) → (∀ x7 x8 : xV, y_TL 1 M0 ((l_n_carry_c a ln j s k M go mu).1) → True → x_Ev 177 72 [.inr 162, .inl (a), .inl (ln), .inl (j), .inl (s), .inl ((l_n_carry_c a ln j s k M go mu).2.1), .inl ((l_n_carry_c a ln j s k M go mu).2.2), x7, x8] [] (0, 0) (z, P, (l_n_carry_c a ln j s k M go mu).1) r) → x_Ev 177 62 [.inr 162, .inl (a), .inl (ln), .inl (j), .inl (s), .inl (go), .inl (mu), x7, x8] [] (0, 0) (z, P, M) r := by
  intro k
  induction k with
  | zero => intro x7 x8 M go mu tl0 hi hm; omega
  | succ k ih =>
    intro x7 x8 M go mu tl0 hi hm kk
    refine e_iload (k := 62) (xi177 62) rfl ?_
    refine e_z_ge (k := 63) (xi177 63) (fun c0 => ?_) (fun c0 => ?_)
    · skip
      rw [(show l_n_carry_c a ln j s (k + 1) M go mu = (M, go, mu) from by rw [l_n_carry_c, if_pos c0])] at kk
      try dsimp only at kk
      exact kk _ _ tl0 (by first | exact trivial | omega)
    · skip
      refine e_iload (k := 64) (xi177 64) rfl ?_
      refine e_z_lt (k := 65) (xi177 65) (fun c1 => ?_) (fun c1 => ?_)
      · skip
        rw [(show l_n_carry_c a ln j s (k + 1) M go mu = (M, go, mu) from by rw [l_n_carry_c, if_neg c0, if_pos c1])] at kk
        try dsimp only at kk
        exact kk _ _ tl0 (by first | exact trivial | omega)
      · skip
        refine e_aload (k := 66) (xi177 66) rfl (by decide) ?_
        refine e_iload (k := 67) (xi177 67) rfl ?_
        refine e_callR (k := 68) (c1 := 0) (c2 := 0) (rest := []) (as := [.inr 162, .inl (a)]) (xi177 68) (by decide) xm164 rfl ⟨rfl, Nat.le_of_ble_eq_true rfl, by decide⟩ (Or.inr (x_okt (ok_mo hS))) (k_n_drop hS tl0.1 a  ) ?_
        rintro v_ h_ ⟨e1, tl2, q3⟩
        cases e1
        have tl4 := tl_trans tl0 (tl2)
        have n5 := tl_a tl2
        show x_Ev 177 69 [.inr 162, .inl (a), .inl (ln), .inl (j), .inl (s), .inl (go), .inl (mu), x7, x8] [.inl (v_n_drop a M)] (0, 0) (z, P, (u_n_drop a M)) _
        refine e_istore (k := 69) (xi177 69) (Nat.le_of_ble_eq_true rfl) ?_
        show x_Ev 177 70 [.inr 162, .inl (a), .inl (ln), .inl (j), .inl (s), .inl (v_n_drop a M), .inl (mu), x7, x8] [] (0, 0) (z, P, (u_n_drop a M)) _
        refine e_iinc (w := 1 + mu) (k := 70) (xi177 70) rfl (x_wn (by omega)) ?_
        show x_Ev 177 71 [.inr 162, .inl (a), .inl (ln), .inl (j), .inl (s), .inl (v_n_drop a M), .inl (1 + mu), x7, x8] [] (0, 0) (z, P, (u_n_drop a M)) _
        refine e_goto (k := 71) (xi177 71) ?_
        rw [(show l_n_carry_c a ln j s (k + 1) M go mu = l_n_carry_c a ln j s k ((u_n_drop a M)) (v_n_drop a M) (1 + mu) from by rw [l_n_carry_c, if_neg c0, if_neg c1])] at kk
        exact ih _ _ ((u_n_drop a M)) (v_n_drop a M) (1 + mu) tl4 (by omega) (by omega) kk
def l_n_carry_a (a ln : Int) : Nat → (Int → Int → Int) → Int → (Int → Int → Int) × Int
  | 0, M, j => (M, j)
  | k + 1, M, j => if M 162 11 ≤ j then (M, j) else l_n_carry_a a ln k ((l_n_carry_c a ln j (M 169 j) 100 ((l_n_carry_b a ln j (M 169 j) (v_n_drive a (M 169 j) M) 13 ((u_n_drive a (M 169 j) M)) (v_m_over (M 169 j) ((u_n_drive a (M 169 j) M))) 0).1) (v_n_drive a (M 169 j) M) ((l_n_carry_b a ln j (M 169 j) (v_n_drive a (M 169 j) M) 13 ((u_n_drive a (M 169 j) M)) (v_m_over (M 169 j) ((u_n_drive a (M 169 j) M))) 0).2.1)).1) (1 + j)
theorem kl_n_carry_a {z : Int} {P M0 : Int → Int → Int} {r : Option xV × xH → Prop} (hS : x_Sh z P) (a : Int) (ln : Int)    : ∀ k : Nat, ∀ x4 x5 x6 x7 x8 : xV, ∀ M : (Int → Int → Int), ∀ j : Int, y_TL 1 M0 M → (0 ≤ j ∧ j ≤ 7) → 7 - j < (k : Int) → (∀ x4 x5 x6 x7 x8 : xV, y_TL 1 M0 ((l_n_carry_a a ln k M j).1) → True → x_Ev 177 74 [.inr 162, .inl (a), .inl (ln), .inl ((l_n_carry_a a ln k M j).2), x4, x5, x6, x7, x8] [] (0, 0) (z, P, (l_n_carry_a a ln k M j).1) r) → x_Ev 177 10 [.inr 162, .inl (a), .inl (ln), .inl (j), x4, x5, x6, x7, x8] [] (0, 0) (z, P, M) r := by
  intro k
  induction k with
  | zero => intro x4 x5 x6 x7 x8 M j tl0 hi hm; omega
  | succ k ih =>
    intro x4 x5 x6 x7 x8 M j tl0 hi hm kk
    refine e_iload (k := 10) (xi177 10) rfl ?_
    refine e_aload (k := 11) (xi177 11) rfl (by decide) ?_
    have t1 := ty_mo11 tl0.1 
    refine e_getI (j := 11) (w := M 162 11) (k := 12) (xi177 12) (ok_mo hS) rfl rfl ?_
    refine e_c_ge (k := 13) (xi177 13) (fun c0 => ?_) (fun c0 => ?_)
    · skip
      rw [(show l_n_carry_a a ln (k + 1) M j = (M, j) from by rw [l_n_carry_a, if_pos c0])] at kk
      try dsimp only at kk
      exact kk _ _ _ _ _ tl0 (by first | exact trivial | omega)
    · skip
      refine e_aload (k := 14) (xi177 14) rfl (by decide) ?_
      refine e_getR (j := 10) (w := 169) (k := 15) (xi177 15) (ok_mo hS) rfl (sh_round hS) ?_
      refine e_iload (k := 16) (xi177 16) rfl ?_
      have t2 := ty_round (j := j) tl0.1 
      refine e_iald (w := M 169 j) (k := 17) (xi177 17) (ok_round hS) (by rw [ln_round]; omega) rfl ?_
      refine e_istore (k := 18) (xi177 18) (Nat.le_of_ble_eq_true rfl) ?_
      show x_Ev 177 19 [.inr 162, .inl (a), .inl (ln), .inl (j), .inl (M 169 j), x5, x6, x7, x8] [] (0, 0) (z, P, M) _
      refine e_aload (k := 19) (xi177 19) rfl (by decide) ?_
      refine e_iload (k := 20) (xi177 20) rfl ?_
      refine e_iload (k := 21) (xi177 21) rfl ?_
      refine e_callR (k := 22) (c1 := 0) (c2 := 0) (rest := []) (as := [.inr 162, .inl (a), .inl (M 169 j)]) (xi177 22) (by decide) xm158 rfl ⟨rfl, Nat.le_of_ble_eq_true rfl, by decide⟩ (Or.inr (x_okt (ok_mo hS))) (k_n_drive hS tl0.1 a (M 169 j)  ) ?_
      rintro v_ h_ ⟨e3, tl4, q5⟩
      cases e3
      have tl6 := tl_trans tl0 (tl4)
      have n7 := tl_a tl4
      show x_Ev 177 23 [.inr 162, .inl (a), .inl (ln), .inl (j), .inl (M 169 j), x5, x6, x7, x8] [.inl (v_n_drive a (M 169 j) M)] (0, 0) (z, P, (u_n_drive a (M 169 j) M)) _
      refine e_istore (k := 23) (xi177 23) (Nat.le_of_ble_eq_true rfl) ?_
      show x_Ev 177 24 [.inr 162, .inl (a), .inl (ln), .inl (j), .inl (M 169 j), .inl (v_n_drive a (M 169 j) M), x6, x7, x8] [] (0, 0) (z, P, (u_n_drive a (M 169 j) M)) _
      refine e_aload (k := 24) (xi177 24) rfl (by decide) ?_
      refine e_iload (k := 25) (xi177 25) rfl ?_
      refine e_callR (k := 26) (c1 := 0) (c2 := 0) (rest := []) (as := [.inr 162, .inl (M 169 j)]) (xi177 26) (by decide) xm176 rfl ⟨rfl, Nat.le_of_ble_eq_true rfl, by decide⟩ (Or.inr (x_okt (ok_mo hS))) (k_m_over hS tl6.1 (M 169 j)  ) ?_
      rintro v_ h_ ⟨e8, q10⟩
      cases e8
      show x_Ev 177 27 [.inr 162, .inl (a), .inl (ln), .inl (j), .inl (M 169 j), .inl (v_n_drive a (M 169 j) M), x6, x7, x8] [.inl (v_m_over (M 169 j) ((u_n_drive a (M 169 j) M)))] (0, 0) (z, P, (u_n_drive a (M 169 j) M)) _
      refine e_istore (k := 27) (xi177 27) (Nat.le_of_ble_eq_true rfl) ?_
      show x_Ev 177 28 [.inr 162, .inl (a), .inl (ln), .inl (j), .inl (M 169 j), .inl (v_n_drive a (M 169 j) M), .inl (v_m_over (M 169 j) ((u_n_drive a (M 169 j) M))), x7, x8] [] (0, 0) (z, P, (u_n_drive a (M 169 j) M)) _
      refine e_iconst (k := 28) (xi177 28) ?_
      refine e_istore (k := 29) (xi177 29) (Nat.le_of_ble_eq_true rfl) ?_
      show x_Ev 177 30 [.inr 162, .inl (a), .inl (ln), .inl (j), .inl (M 169 j), .inl (v_n_drive a (M 169 j) M), .inl (v_m_over (M 169 j) ((u_n_drive a (M 169 j) M))), .inl 0, x8] [] (0, 0) (z, P, (u_n_drive a (M 169 j) M)) _
      refine kl_n_carry_b hS a ln j (M 169 j) (v_n_drive a (M 169 j) M)   (by omega) 13 _ ((u_n_drive a (M 169 j) M)) (v_m_over (M 169 j) ((u_n_drive a (M 169 j) M))) 0 tl6 (by omega) (by omega) ?_
      intro x13 tl11 q12
      show x_Ev 177 62 [.inr 162, .inl (a), .inl (ln), .inl (j), .inl (M 169 j), .inl (v_n_drive a (M 169 j) M), .inl ((l_n_carry_b a ln j (M 169 j) (v_n_drive a (M 169 j) M) 13 ((u_n_drive a (M 169 j) M)) (v_m_over (M 169 j) ((u_n_drive a (M 169 j) M))) 0).2.1), .inl ((l_n_carry_b a ln j (M 169 j) (v_n_drive a (M 169 j) M) 13 ((u_n_drive a (M 169 j) M)) (v_m_over (M 169 j) ((u_n_drive a (M 169 j) M))) 0).2.2), x13] [] (0, 0) (z, P, (l_n_carry_b a ln j (M 169 j) (v_n_drive a (M 169 j) M) 13 ((u_n_drive a (M 169 j) M)) (v_m_over (M 169 j) ((u_n_drive a (M 169 j) M))) 0).1) _
      refine kl_n_carry_c hS a ln j (M 169 j)    100 _ _ ((l_n_carry_b a ln j (M 169 j) (v_n_drive a (M 169 j) M) 13 ((u_n_drive a (M 169 j) M)) (v_m_over (M 169 j) ((u_n_drive a (M 169 j) M))) 0).1) (v_n_drive a (M 169 j) M) ((l_n_carry_b a ln j (M 169 j) (v_n_drive a (M 169 j) M) 13 ((u_n_drive a (M 169 j) M)) (v_m_over (M 169 j) ((u_n_drive a (M 169 j) M))) 0).2.1) tl11 (by omega) (by omega) ?_
      intro x16 x17 tl14 q15
      show x_Ev 177 72 [.inr 162, .inl (a), .inl (ln), .inl (j), .inl (M 169 j), .inl ((l_n_carry_c a ln j (M 169 j) 100 ((l_n_carry_b a ln j (M 169 j) (v_n_drive a (M 169 j) M) 13 ((u_n_drive a (M 169 j) M)) (v_m_over (M 169 j) ((u_n_drive a (M 169 j) M))) 0).1) (v_n_drive a (M 169 j) M) ((l_n_carry_b a ln j (M 169 j) (v_n_drive a (M 169 j) M) 13 ((u_n_drive a (M 169 j) M)) (v_m_over (M 169 j) ((u_n_drive a (M 169 j) M))) 0).2.1)).2.1), .inl ((l_n_carry_c a ln j (M 169 j) 100 ((l_n_carry_b a ln j (M 169 j) (v_n_drive a (M 169 j) M) 13 ((u_n_drive a (M 169 j) M)) (v_m_over (M 169 j) ((u_n_drive a (M 169 j) M))) 0).1) (v_n_drive a (M 169 j) M) ((l_n_carry_b a ln j (M 169 j) (v_n_drive a (M 169 j) M) 13 ((u_n_drive a (M 169 j) M)) (v_m_over (M 169 j) ((u_n_drive a (M 169 j) M))) 0).2.1)).2.2), x16, x17] [] (0, 0) (z, P, (l_n_carry_c a ln j (M 169 j) 100 ((l_n_carry_b a ln j (M 169 j) (v_n_drive a (M 169 j) M) 13 ((u_n_drive a (M 169 j) M)) (v_m_over (M 169 j) ((u_n_drive a (M 169 j) M))) 0).1) (v_n_drive a (M 169 j) M) ((l_n_carry_b a ln j (M 169 j) (v_n_drive a (M 169 j) M) 13 ((u_n_drive a (M 169 j) M)) (v_m_over (M 169 j) ((u_n_drive a (M 169 j) M))) 0).2.1)).1) _
      refine e_iinc (w := 1 + j) (k := 72) (xi177 72) rfl (x_wn (by omega)) ?_
      show x_Ev 177 73 [.inr 162, .inl (a), .inl (ln), .inl (1 + j), .inl (M 169 j), .inl ((l_n_carry_c a ln j (M 169 j) 100 ((l_n_carry_b a ln j (M 169 j) (v_n_drive a (M 169 j) M) 13 ((u_n_drive a (M 169 j) M)) (v_m_over (M 169 j) ((u_n_drive a (M 169 j) M))) 0).1) (v_n_drive a (M 169 j) M) ((l_n_carry_b a ln j (M 169 j) (v_n_drive a (M 169 j) M) 13 ((u_n_drive a (M 169 j) M)) (v_m_over (M 169 j) ((u_n_drive a (M 169 j) M))) 0).2.1)).2.1), .inl ((l_n_carry_c a ln j (M 169 j) 100 ((l_n_carry_b a ln j (M 169 j) (v_n_drive a (M 169 j) M) 13 ((u_n_drive a (M 169 j) M)) (v_m_over (M 169 j) ((u_n_drive a (M 169 j) M))) 0).1) (v_n_drive a (M 169 j) M) ((l_n_carry_b a ln j (M 169 j) (v_n_drive a (M 169 j) M) 13 ((u_n_drive a (M 169 j) M)) (v_m_over (M 169 j) ((u_n_drive a (M 169 j) M))) 0).2.1)).2.2), x16, x17] [] (0, 0) (z, P, (l_n_carry_c a ln j (M 169 j) 100 ((l_n_carry_b a ln j (M 169 j) (v_n_drive a (M 169 j) M) 13 ((u_n_drive a (M 169 j) M)) (v_m_over (M 169 j) ((u_n_drive a (M 169 j) M))) 0).1) (v_n_drive a (M 169 j) M) ((l_n_carry_b a ln j (M 169 j) (v_n_drive a (M 169 j) M) 13 ((u_n_drive a (M 169 j) M)) (v_m_over (M 169 j) ((u_n_drive a (M 169 j) M))) 0).2.1)).1) _
      refine e_goto (k := 73) (xi177 73) ?_
      rw [(show l_n_carry_a a ln (k + 1) M j = l_n_carry_a a ln k ((l_n_carry_c a ln j (M 169 j) 100 ((l_n_carry_b a ln j (M 169 j) (v_n_drive a (M 169 j) M) 13 ((u_n_drive a (M 169 j) M)) (v_m_over (M 169 j) ((u_n_drive a (M 169 j) M))) 0).1) (v_n_drive a (M 169 j) M) ((l_n_carry_b a ln j (M 169 j) (v_n_drive a (M 169 j) M) 13 ((u_n_drive a (M 169 j) M)) (v_m_over (M 169 j) ((u_n_drive a (M 169 j) M))) 0).2.1)).1) (1 + j) from by rw [l_n_carry_a, if_neg c0])] at kk
      exact ih _ _ _ _ _ ((l_n_carry_c a ln j (M 169 j) 100 ((l_n_carry_b a ln j (M 169 j) (v_n_drive a (M 169 j) M) 13 ((u_n_drive a (M 169 j) M)) (v_m_over (M 169 j) ((u_n_drive a (M 169 j) M))) 0).1) (v_n_drive a (M 169 j) M) ((l_n_carry_b a ln j (M 169 j) (v_n_drive a (M 169 j) M) 13 ((u_n_drive a (M 169 j) M)) (v_m_over (M 169 j) ((u_n_drive a (M 169 j) M))) 0).2.1)).1) (1 + j) tl14 (by omega) (by omega) kk
def v_n_carry (a : Int) (M : Int → Int → Int) : Int := if 0 ≤ v_n_plan a M then v_n_plan a M else (-1)
def u_n_carry (a : Int) (M : Int → Int → Int) : Int → Int → Int := if 0 ≤ v_n_plan a M then (l_n_carry_a a (v_n_plan a M) 8 ((u_n_plan a M)) 0).1 else (u_n_plan a M)
theorem k_n_carry {z : Int} {P M : Int → Int → Int} (hS : x_Sh z P) (hT : y_TC M) (a : Int)   : x_CallR 177 [.inr 162, .inl (a)] (z, P, M) (fun q => q = (some (.inl (v_n_carry a M)), (z, P, u_n_carry a M)) ∧ y_TL 1 M (u_n_carry a M) ∧ True) := by
  have tl0 : y_TL 1 M M := tl_refl hT
  refine e_body (ls0 := [.inr 162, .inl (a), x_un, x_un, x_un, x_un, x_un, x_un, x_un]) xm177 rfl ?_
  refine e_aload (k := 0) (xi177 0) rfl (by decide) ?_
  refine e_iload (k := 1) (xi177 1) rfl ?_
  refine e_callR (k := 2) (c1 := 0) (c2 := 0) (rest := []) (as := [.inr 162, .inl (a)]) (xi177 2) (by decide) xm174 rfl ⟨rfl, Nat.le_of_ble_eq_true rfl, by decide⟩ (Or.inr (x_okt (ok_mo hS))) (k_n_plan hS tl0.1 a  ) ?_
  rintro v_ h_ ⟨e1, tl2, q3⟩
  cases e1
  have tl4 := tl_trans tl0 (tl2)
  have n5 := tl_a tl2
  show x_Ev 177 3 [.inr 162, .inl (a), x_un, x_un, x_un, x_un, x_un, x_un, x_un] [.inl (v_n_plan a M)] (0, 0) (z, P, (u_n_plan a M)) _
  refine e_istore (k := 3) (xi177 3) (Nat.le_of_ble_eq_true rfl) ?_
  show x_Ev 177 4 [.inr 162, .inl (a), .inl (v_n_plan a M), x_un, x_un, x_un, x_un, x_un, x_un] [] (0, 0) (z, P, (u_n_plan a M)) _
  refine e_iload (k := 4) (xi177 4) rfl ?_
  refine e_z_ge (k := 5) (xi177 5) (fun c0 => ?_) (fun c0 => ?_)
  · skip
    refine e_iconst (k := 8) (xi177 8) ?_
    refine e_istore (k := 9) (xi177 9) (Nat.le_of_ble_eq_true rfl) ?_
    show x_Ev 177 10 [.inr 162, .inl (a), .inl (v_n_plan a M), .inl 0, x_un, x_un, x_un, x_un, x_un] [] (0, 0) (z, P, (u_n_plan a M)) _
    refine kl_n_carry_a hS a (v_n_plan a M)    8 _ _ _ _ _ ((u_n_plan a M)) 0 tl4 (by omega) (by omega) ?_
    intro x8 x9 x10 x11 x12 tl6 q7
    show x_Ev 177 74 [.inr 162, .inl (a), .inl (v_n_plan a M), .inl ((l_n_carry_a a (v_n_plan a M) 8 ((u_n_plan a M)) 0).2), x8, x9, x10, x11, x12] [] (0, 0) (z, P, (l_n_carry_a a (v_n_plan a M) 8 ((u_n_plan a M)) 0).1) _
    refine e_iload (k := 74) (xi177 74) rfl ?_
    refine e_iret (k := 75) (xi177 75) ?_
    exact y_fW (Q := fun _ => True) (show v_n_carry a M = v_n_plan a M from by rw [v_n_carry, if_pos c0]) (show u_n_carry a M = (l_n_carry_a a (v_n_plan a M) 8 ((u_n_plan a M)) 0).1 from by rw [u_n_carry, if_pos c0]) tl6 trivial
  · skip
    refine e_iconst (k := 6) (xi177 6) ?_
    refine e_iret (k := 7) (xi177 7) ?_
    exact y_fW (Q := fun _ => True) (show v_n_carry a M = (-1) from by rw [v_n_carry, if_neg c0]) (show u_n_carry a M = (u_n_plan a M) from by rw [u_n_carry, if_neg c0]) tl4 trivial
