/-! HIRE -/
def y_Bx (C A : Int → Int → Int) : Prop := (y_F C A) ∧ (y_IS A) ∧ (y_IX A (-1) (-1)) ∧ (y_IK A) ∧ (y_FT C A)
theorem y_Bx.f {C A : Int → Int → Int} (h : y_Bx C A) : y_F C A := h.1
theorem y_Bx.s {C A : Int → Int → Int} (h : y_Bx C A) : y_IS A := h.2.1
theorem y_Bx.x {C A : Int → Int → Int} (h : y_Bx C A) : y_IX A (-1) (-1) := h.2.2.1
theorem y_Bx.k {C A : Int → Int → Int} (h : y_Bx C A) : y_IK A := h.2.2.2.1
theorem y_Bx.t {C A : Int → Int → Int} (h : y_Bx C A) : y_FT C A := h.2.2.2.2
def y_PA (A : Int → Int → Int) : Prop := ∀ w, 0 ≤ w → w < 60 → w < A 163 1 → A 163 (1121 + 8 * w) = -1 ∨ (A 163 (1116 + 8 * w) = 2 ∧ (0 ≤ A 163 (1121 + 8 * w) ∧ A 163 (1121 + 8 * w) < 60) ∧ A 163 (1121 + 8 * w) < A 163 1 ∧ A 163 (1116 + 8 * A 163 (1121 + 8 * w)) = 2 ∧ A 163 (1121 + 8 * A 163 (1121 + 8 * w)) = w ∧ (A 163 (1114 + 8 * w) = 3 ↔ ¬ A 163 (1114 + 8 * A 163 (1121 + 8 * w)) = 3))
theorem Bx_of {C A : Int → Int → Int} (h : y_B C A) : y_Bx C A := ⟨h.f, h.i.toy_IS, X_of h.i, h.i.toy_IK, h.t⟩
theorem Bx_to {C A : Int → Int → Int} (h : y_Bx C A) (p : y_PA A) : y_B C A := ⟨h.f, ⟨h.s, X_to h.x p, h.k⟩, h.t⟩
theorem P_hired {A : Int → Int → Int} {w x : Int} (c k : Int) : u_m_hired w x A c k = if c = 163 ∧ k = 1121 + 8 * w then x else if c = 163 ∧ k = 1119 + 8 * w then 0 else if c = 163 ∧ k = 1118 + 8 * w then -1 else if c = 163 ∧ k = 1116 + 8 * w then 2 else u_m_leaves w A c k := by
  unfold u_m_hired; simp only [x_up]
/-- where a wheel in a dock is -/
theorem X_dock {A : Int → Int → Int} {w c : Int} (h : y_IX A w (-1)) (hc : 0 ≤ c ∧ c < A 163 1) (hcw : c ≠ w) (hp : A 163 (1116 + 8 * c) = 0) : (0 ≤ A 163 (1117 + 8 * c) ∧ A 163 (1117 + 8 * c) < A 163 0) ∧ (0 ≤ A 163 (1118 + 8 * c) ∧ A 163 (1118 + 8 * c) + y_sz (A 163 (1114 + 8 * c)) ≤ A 163 (10 + 80 * A 163 (1117 + 8 * c))) ∧ A 163 (10 + 80 * A 163 (1117 + 8 * c)) ≤ 12 := by
  have hn := h.n
  have hw := h.nw
  have pd := h.pd c hc.1 (by omega) hc.2 hcw (by omega) hp
  have ps := h.ps c hc.1 (by omega) hc.2 hcw (by omega) (by omega)
  have cd := h.dk _ ps.1 pd.1.2 ps.2
  exact ⟨ps, ⟨pd.2.1.1, pd.2.2.1⟩, cd.2⟩
/-- the row outside docks and the wheel itself -/
theorem R_leaves {A : Int → Int → Int} {w : Int} (h : y_IX A (-1) (-1)) (hw : 0 ≤ w ∧ w < A 163 1) (hp : A 163 (1116 + 8 * w) = 0) (k : Int) (hk : k < 11 ∨ 970 ≤ k ∨ (k - 10) % 80 = 0 ∨ 13 ≤ (k - 10) % 80) : u_m_leaves w A 163 k = A 163 k := by
  have hn := h.n
  have q := X_dock h hw (by omega) hp
  have z := y_sz_in (A 163 (1114 + 8 * w))
  rw [P_leaves, if_neg (by omega)]
theorem Bx_hired {C A : Int → Int → Int} (h : y_Bx C A) {w p : Int} (hw : 0 ≤ w ∧ w < A 163 1) (hp : A 163 (1116 + 8 * w) = 0) : y_Bx (u_lendOne1 w p C) (u_m_hired w p A) := by
  have hn := h.x.n
  have hN := h.x.nw
  have D := X_dock h.x hw (by omega) hp
  have RL := R_leaves h.x hw hp
  have F1 := F_leaves h.f ⟨hw.1, by omega⟩ hp D.1 hn.2 D.2.1 D.2.2
  have X1 := X_sw (X_leaves h.x hw (by omega) hp)
  have PH := fun k => P_hired (A := A) (w := w) (x := p) 163 k
  have kd := h.x.kd w hw.1 (by omega) hw.2
  have bk := h.x.bk w hw.1 (by omega)
  have r : ∀ k, (k < 11 ∨ 970 ≤ k ∨ (k - 10) % 80 = 0 ∨ 13 ≤ (k - 10) % 80) → ¬ (1116 + 8 * w ≤ k ∧ k < 1122 + 8 * w) → u_m_hired w p A 163 k = A 163 k := fun k q q2 => by
    rw [PH, if_neg (by omega), if_neg (by omega), if_neg (by omega), if_neg (by omega)]; exact RL k q
  have v2 : u_m_hired w p A 163 (1116 + 8 * w) = 2 := by rw [PH, if_neg (by omega), if_neg (by omega), if_neg (by omega), if_pos (by omega)]
  have v3 : u_m_hired w p A 163 (1117 + 8 * w) = A 163 (1117 + 8 * w) := by rw [PH, if_neg (by omega), if_neg (by omega), if_neg (by omega), if_neg (by omega)]; exact RL _ (by omega)
  have v4 : u_m_hired w p A 163 (1118 + 8 * w) = -1 := by rw [PH, if_neg (by omega), if_neg (by omega), if_pos (by omega)]
  have v6 : u_m_hired w p A 163 (1120 + 8 * w) = A 163 (1120 + 8 * w) := by rw [PH, if_neg (by omega), if_neg (by omega), if_neg (by omega), if_neg (by omega)]; exact RL _ (by omega)
  have v7 : u_m_hired w p A 163 (1121 + 8 * w) = p := by rw [PH, if_pos (by omega)]
  have v0 := r (1114 + 8 * w) (by omega) (by omega)
  have v1 := r (1115 + 8 * w) (by omega) (by omega)
  have l0 := RL (1114 + 8 * w) (by omega)
  have l1 := RL (1115 + 8 * w) (by omega)
  have l6 := RL (1120 + 8 * w) (by omega)
  have CC : ∀ a k, (a < 4 ∨ 88 ≤ a) → u_clearDock w C a k = C a k := fun a k q => by
    have k0 := h.f.w0 w hw.1 (by omega)
    have k2 := h.f.w2 w hw.1 (by omega)
    have k3 := h.f.w3 w hw.1 (by omega)
    have k4 := h.f.w4 w hw.1 (by omega)
    rw [if_neg (by omega)] at k3 k4
    have dk := h.f.dk _ D.1.1 (show A 163 (1117 + 8 * w) < 12 by omega)
    unfold u_clearDock
    rw [k3, h.f.n, if_pos D.1, k2, if_neg (by omega), k0, k4, F_fill D.2.1.1 (by rw [dk]; exact D.2.1.2)]
    split
    · rw [x_up_ne (by omega), x_up_ne (by omega)]
    · rw [x_up_ne (by omega)]
  have c1 := F1.w0 w hw.1 (by omega)
  have c2 := F1.w1 w hw.1 (by omega)
  have c4 := F1.w3 w hw.1 (by omega)
  have c7 := F1.w6 w hw.1 (by omega)
  have c8 := F1.wn w hw.1 (by omega)
  rw [l0] at c1; rw [l1] at c2; rw [l6] at c7 c8
  rw [RL (1116 + 8 * w) (by omega), if_neg (by omega), RL (1117 + 8 * w) (by omega)] at c4
  have hrec : ∀ k, ¬ (1114 + 8 * w ≤ k ∧ k < 1122 + 8 * w) → u_m_hired w p A 163 k = u_m_leaves w A 163 k := fun k q => by
    rw [PH, if_neg (by omega), if_neg (by omega), if_neg (by omega), if_neg (by omega)]
  refine ⟨?_, ?_, ?_, ?_, ?_⟩
  · refine F_rec F1 w ⟨hw.1, by omega⟩ (fun a k q => ?_) hrec ?_ ?_ ?_ ?_ ?_ ?_ ?_ ?_
    · unfold u_lendOne1 u_moveTo; rw [x_up_ne q, x_up_ne q, x_up_ne q, x_up_ne q, x_up_ne q]
    · unfold u_lendOne1 u_moveTo; rw [x_up_nk (by omega), x_up_nk (by omega), x_up_nk (by omega), x_up_nk (by omega), x_up_nk (by omega), c1, v0]
    · unfold u_lendOne1 u_moveTo; rw [x_up_nk (by omega), x_up_nk (by omega), x_up_nk (by omega), x_up_nk (by omega), x_up_nk (by omega), c2, v1]
    · unfold u_lendOne1 u_moveTo; rw [x_up_nk (by omega), x_up_nk (by omega), x_up_nk (by omega), x_up_nk (by omega), x_up_self, v2]
    · unfold u_lendOne1 u_moveTo; rw [x_up_nk (by omega), x_up_nk (by omega), x_up_nk (by omega), x_up_self, v2, v3, c4]; rfl
    · unfold u_lendOne1 u_moveTo; rw [x_up_nk (by omega), x_up_nk (by omega), x_up_self, v2, v4]; rfl
    · unfold u_lendOne1 u_moveTo; rw [x_up_nk (by omega), x_up_nk (by omega), x_up_nk (by omega), x_up_nk (by omega), x_up_nk (by omega), c7, v6]
    · unfold u_lendOne1 u_moveTo; rw [x_up_nk (by omega), x_up_nk (by omega), x_up_nk (by omega), x_up_nk (by omega), x_up_nk (by omega), c8, v6]
    · unfold u_lendOne1 u_moveTo; rw [x_up_nk (by omega), x_up_self, v7]
  · exact IS_fr h.s (by rw [r 1 (by omega) (by omega)]; exact hN) (fun k q1 q2 q3 q4 => r k (by omega) (by omega))
  · refine X_in (w := w) (c := -1) (X_rec X1 ⟨hw.1, by omega⟩ (fun k q1 q2 => hrec k q2) (fun _ => ?_) (by rw [v6]; exact bk)) (by rw [v2]; omega) v4 (fun _ => by rw [v3, r 0 (by omega) (by omega)]; exact D.1)
    rw [v0, v1, v2]; exact ⟨kd.1, by omega, kd.2.2⟩
  · exact IK_fr h.k (r 0 (by omega) (by omega)) (by rw [r 1 (by omega) (by omega)]; omega) (r 2 (by omega) (by omega)) (fun k q1 q2 => r k (by omega) (by omega)) (fun v q1 q2 q3 q4 => by
      have : v ≠ w := by intro z; rw [z] at q4; omega
      exact ⟨by rw [r _ (by omega) (by omega)]; exact q4, r _ (by omega) (by omega)⟩)
  · exact FT_fr h.t h.k (fun c q1 q2 => by unfold u_lendOne1 u_moveTo; rw [x_up_ne (by omega), x_up_ne (by omega), x_up_ne (by omega), x_up_ne (by omega), x_up_ne (by omega), CC _ _ (by omega)]) (r 2 (by omega) (by omega)) (fun k q1 q2 => r k (by omega) (by omega)) (fun v q1 q2 q3 => by
      by_cases z : v = w
      · rw [z]; exact v0
      · exact r _ (by omega) (by omega))
theorem B_dbt {C A C2 A2 : Int → Int → Int} (h : y_B C A) (hc : ∀ a k, ¬ (88 ≤ a ∧ a < 148 ∧ k = 6) → C2 a k = C a k) (ha : ∀ k, ¬ (1114 ≤ k ∧ k < 1594 ∧ (k - 1114) % 8 = 5) → A2 163 k = A 163 k) : y_B C2 A2 := by
  refine ⟨⟨?_, ?_, ?_⟩, ⟨?_, ?_, ?_⟩, ?_⟩
  · exact FS_fr h.f.toy_FS (fun a k q1 q2 => hc a k (by omega)) (fun k q1 q2 => ha k (by omega))
  · exact FW_fr h.f.toy_FW (fun a k q1 q2 q3 => hc a k (by omega)) (fun k q1 q2 q3 => ha k (by omega))
  · exact FK_fr h.f.toy_FK (fun a k q1 q2 => hc a k (by omega)) (fun k q1 q2 => ha k (by omega))
  · exact IS_fr h.i.toy_IS (by rw [ha 1 (by omega)]; exact h.i.nw) (fun k q1 q2 q3 q4 => ha k (by omega))
  · exact IW_fr h.i.toy_IW (ha 0 (by omega)) (ha 1 (by omega)) (fun k q1 q2 q3 => ha k (by omega)) (fun k q1 q2 q3 => ha k (by omega))
  · exact IK_fr h.i.toy_IK (ha 0 (by omega)) (by rw [ha 1 (by omega)]; omega) (ha 2 (by omega)) (fun k q1 q2 => ha k (by omega)) (fun w q1 q2 q3 q4 => ⟨by rw [ha _ (by omega)]; exact q4, ha _ (by omega)⟩)
  · exact FT_fr h.t h.i.toy_IK (fun c q1 q2 => hc _ _ (by omega)) (ha 2 (by omega)) (fun k q1 q2 => ha k (by omega)) (fun w q1 q2 q3 => ha _ (by omega))
theorem P_lend0 {w t : Int} : ∀ (k : Nat) (M : Int → Int → Int) (i : Int), 0 ≤ i → M 1 3 ≤ 60 → ∀ a j, ¬ (88 ≤ a ∧ a < 148 ∧ j = 6) → (l_lend0_a w t k M i).1 a j = M a j := by
  intro k
  induction k with
  | zero => intro M i h0 h1 a j q; rfl
  | succ k ih =>
    intro M i h0 h1 a j q
    rw [l_lend0_a]
    split
    · rfl
    · split
      · rw [ih _ _ (by omega) (by rw [x_up_ne (by omega)]; exact h1) _ _ q, x_up_no (by omega)]
      · exact ih _ _ (by omega) h1 _ _ q
theorem P_lend1 {w p t : Int} : ∀ (k : Nat) (M : Int → Int → Int) (i : Int), 0 ≤ i → M 1 3 ≤ 60 → ∀ a j, ¬ (88 ≤ a ∧ a < 148 ∧ j = 6) → (l_lend1_a w p t k M i).1 a j = M a j := by
  intro k
  induction k with
  | zero => intro M i h0 h1 a j q; rfl
  | succ k ih =>
    intro M i h0 h1 a j q
    rw [l_lend1_a]
    split
    · rfl
    · split
      · rw [ih _ _ (by omega) (by rw [x_up_ne (by omega)]; exact h1) _ _ q, x_up_no (by omega)]
      · exact ih _ _ (by omega) h1 _ _ q
theorem P_nhire {a b d w c : Int} : ∀ (k : Nat) (M : Int → Int → Int) (i : Int), 0 ≤ i → M 163 1 ≤ 60 → ∀ j, ¬ (1114 ≤ j ∧ j < 1594 ∧ (j - 1114) % 8 = 5) → (l_n_hire_a a b d w c k M i).1 163 j = M 163 j := by
  intro k
  induction k with
  | zero => intro M i h0 h1 j q; rfl
  | succ k ih =>
    intro M i h0 h1 j q
    rw [l_n_hire_a]
    split
    · rfl
    · split
      · exact ih _ _ (by omega) h1 _ q
      · split
        · exact ih _ _ (by omega) h1 _ q
        · rw [ih _ _ (by omega) (by rw [x_up_nk (by omega)]; exact h1) _ q, x_up_nk (by omega)]
theorem F_near_a {C A : Int → Int → Int} (h : y_F C A) (hI : y_I A) {w s : Int} (hs : 0 ≤ s ∧ s < A 163 0) : ∀ (k : Nat) (m le i : Int), 0 ≤ i → ((le < 0 ∧ m = 1000) ∨ (0 ≤ le ∧ le ≤ 999 ∧ m = le)) → (((l_m_enough_a w s A k le i).1 < 0 ∧ (l_nearestLength_a s C k m i).1 = 1000) ∨ (0 ≤ (l_m_enough_a w s A k le i).1 ∧ (l_m_enough_a w s A k le i).1 ≤ 999 ∧ (l_nearestLength_a s C k m i).1 = (l_m_enough_a w s A k le i).1)) := by
  have hn := hI.n
  intro k
  induction k with
  | zero => intro m le i h0 h1; exact h1
  | succ k ih =>
    intro m le i h0 h1
    rw [l_m_enough_a, l_nearestLength_a, h.n]
    by_cases q : A 163 0 ≤ i
    · rw [if_pos q, if_pos q]; exact h1
    rw [if_neg q, if_neg q]
    by_cases q2 : i = s
    · rw [if_pos q2, if_pos q2]; exact ih _ _ _ (by omega) h1
    have e := F_lb h hn.2 hs (b := i) ⟨h0, by omega⟩
    have l := hI.ln s i hs.1 (by omega) h0 (by omega)
    rw [if_neg q2, if_neg q2, e]
    split
    · exact ih _ _ _ (by omega) (by omega)
    · split
      · exact ih _ _ _ (by omega) (by omega)
      · exact ih _ _ _ (by omega) (by omega)
theorem F_lasts {C A : Int → Int → Int} (h : y_F C A) (hI : y_I A) {w s : Int} (hs : 0 ≤ s ∧ s < A 163 0) (hw : 0 ≤ w ∧ w < A 163 1) : v_chargeFor w (v_nearestLength s C) C ≤ C (88 + w) 2 ↔ ¬ v_m_enough w s A = 0 := by
  have hW := hI.nw
  have k0 := h.w0 w hw.1 (by omega)
  have k1 := h.w1 w hw.1 (by omega)
  have kd := hI.kd w hw.1 (by omega) hw.2
  have e := F_near_a h hI (w := w) hs 13 1000 (-1) 0 (by omega) (by omega)
  unfold v_chargeFor v_nearestLength v_m_enough v_m_falls
  rw [k0, k1]
  revert e
  generalize (l_m_enough_a w s A 13 (-1) 0).1 = le
  generalize (l_nearestLength_a s C 13 1000 0).1 = m
  intro e
  rcases e with ⟨e1, e2⟩ | ⟨e1, e2, e3⟩
  · subst e2
    rw [if_pos e1]
    simp only [show ¬ ((1000 : Int) ≤ 999) from by omega, if_false]
    refine ⟨fun _ => by omega, fun _ => ?_⟩
    repeat' split
    all_goals omega
  · subst e3
    rw [if_neg (show ¬ m < 0 by omega)]
    simp only [if_pos e2]
    by_cases q : A 163 (1114 + 8 * w) = 2
    · simp only [q, or_true, if_true, not_true_eq_false, if_false]
      rw [x_wn (w := 3 * m) ⟨rfl, by omega, by omega⟩]
      split <;> omega
    · by_cases q1 : A 163 (1114 + 8 * w) = 1
      · have g1 : (A 163 (1114 + 8 * w) = 1 ∨ A 163 (1114 + 8 * w) = 2) := Or.inl q1
        have g2 : ¬ ¬ A 163 (1114 + 8 * w) = 1 := by omega
        simp only [if_pos g1, if_pos q, if_neg g2]
        rw [x_wn (w := 2 * m) ⟨rfl, by omega, by omega⟩]
        split <;> omega
      · have q2 : ¬ (A 163 (1114 + 8 * w) = 1 ∨ A 163 (1114 + 8 * w) = 2) := by omega
        have z0 : x_w (0 * m) = 0 := by rw [show (0 : Int) * m = 0 by omega]; rfl
        simp only [if_neg q2, if_pos q, if_pos q1]
        rw [z0]
        refine ⟨fun _ => ?_, fun _ => by omega⟩
        split <;> omega
theorem Bx_hired0 {C A : Int → Int → Int} (h : y_Bx C A) {w : Int} (hw : 0 ≤ w ∧ w < A 163 1) (hp : A 163 (1116 + 8 * w) = 0) : y_Bx (u_lendOne0 w C) (u_m_hired w (-1) A) := Bx_hired (p := -1) h hw hp
theorem R_hired {A : Int → Int → Int} {w p : Int} (h : y_IX A (-1) (-1)) (hw : 0 ≤ w ∧ w < A 163 1) (hp : A 163 (1116 + 8 * w) = 0) : (∀ k, (k < 11 ∨ 970 ≤ k ∨ (k - 10) % 80 = 0 ∨ 13 ≤ (k - 10) % 80) → ¬ (1116 + 8 * w ≤ k ∧ k < 1122 + 8 * w) → u_m_hired w p A 163 k = A 163 k) ∧ u_m_hired w p A 163 (1116 + 8 * w) = 2 ∧ u_m_hired w p A 163 (1121 + 8 * w) = p := by
  have PH := fun k => P_hired (A := A) (w := w) (x := p) 163 k
  refine ⟨fun k q q2 => ?_, ?_, ?_⟩
  · rw [PH, if_neg (by omega), if_neg (by omega), if_neg (by omega), if_neg (by omega)]; exact R_leaves h hw hp k q
  · rw [PH, if_neg (by omega), if_neg (by omega), if_neg (by omega), if_pos (by omega)]
  · rw [PH, if_pos (by omega)]
theorem B_hire0 {C A : Int → Int → Int} (h : y_B C A) {w : Int} (hw : 0 ≤ w ∧ w < A 163 1) (hp : A 163 (1116 + 8 * w) = 0) : y_B (u_lendOne0 w C) (u_m_hired w (-1) A) := by
  have hW := h.i.nw
  obtain ⟨r, v2, v7⟩ := R_hired (p := -1) (X_of h.i) hw hp
  refine Bx_to (Bx_hired0 (Bx_of h) hw hp) (fun x x0 x1 x2 => ?_)
  rw [r 1 (by omega) (by omega)] at x2
  by_cases xw : x = w
  · left; rw [xw]; exact v7
  have pa := h.i.pa x x0 x1 x2
  rw [r (1121 + 8 * x) (by omega) (by omega)]
  rcases pa with q | q
  · exact Or.inl q
  · right
    have n : A 163 (1121 + 8 * x) ≠ w := by intro z; have := q.2.2.2.1; rw [z] at this; omega
    rw [r (1116 + 8 * x) (by omega) (by omega), r (1114 + 8 * x) (by omega) (by omega), r (1116 + 8 * A 163 (1121 + 8 * x)) (by omega) (by omega), r (1121 + 8 * A 163 (1121 + 8 * x)) (by omega) (by omega), r (1114 + 8 * A 163 (1121 + 8 * x)) (by omega) (by omega), r 1 (by omega) (by omega)]
    exact q
theorem B_hire1 {C A : Int → Int → Int} (h : y_B C A) {w c : Int} (hw : 0 ≤ w ∧ w < A 163 1) (hp : A 163 (1116 + 8 * w) = 0) (hc : 0 ≤ c ∧ c < A 163 1) (hq : A 163 (1116 + 8 * c) = 0) (k1 : A 163 (1114 + 8 * w) ≠ 3) (k2 : A 163 (1114 + 8 * c) = 3) : y_B (u_lendOne1 c w (u_lendOne1 w c C)) (u_m_hired c w (u_m_hired w c A)) := by
  have hW := h.i.nw
  have wc : w ≠ c := by intro z; rw [z] at k1; exact k1 k2
  have B1 := Bx_hired (p := c) (Bx_of h) hw hp
  obtain ⟨r, v2, v7⟩ := R_hired (p := c) (X_of h.i) hw hp
  have e1 := r 1 (by omega) (by omega)
  have hq1 : u_m_hired w c A 163 (1116 + 8 * c) = 0 := by rw [r _ (by omega) (by omega)]; exact hq
  have B2 := Bx_hired (w := c) (p := w) B1 (by rw [e1]; exact hc) hq1
  obtain ⟨r', v2', v7'⟩ := R_hired (p := w) (w := c) B1.x (by rw [e1]; exact hc) hq1
  have g : ∀ k, (k < 11 ∨ 970 ≤ k ∨ (k - 10) % 80 = 0 ∨ 13 ≤ (k - 10) % 80) → ¬ (1116 + 8 * w ≤ k ∧ k < 1122 + 8 * w) → ¬ (1116 + 8 * c ≤ k ∧ k < 1122 + 8 * c) → u_m_hired c w (u_m_hired w c A) 163 k = A 163 k := fun k q1 q2 q3 => (r' k q1 q3).trans (r k q1 q2)
  have w2 : u_m_hired c w (u_m_hired w c A) 163 (1116 + 8 * w) = 2 := (r' _ (by omega) (by omega)).trans v2
  have w7 : u_m_hired c w (u_m_hired w c A) 163 (1121 + 8 * w) = c := (r' _ (by omega) (by omega)).trans v7
  have kw := g (1114 + 8 * w) (by omega) (by omega) (by omega)
  have kc := g (1114 + 8 * c) (by omega) (by omega) (by omega)
  refine Bx_to B2 (fun x x0 x1 x2 => ?_)
  rw [g 1 (by omega) (by omega) (by omega)] at x2
  by_cases xw : x = w
  · right; subst xw
    rw [w7, w2, v2', v7', kw, kc, g 1 (by omega) (by omega) (by omega)]
    exact ⟨rfl, ⟨hc.1, by omega⟩, hc.2, rfl, rfl, by omega⟩
  by_cases xc : x = c
  · right; subst xc
    rw [v7', v2', w2, w7, kw, kc, g 1 (by omega) (by omega) (by omega)]
    exact ⟨rfl, ⟨hw.1, by omega⟩, hw.2, rfl, rfl, by omega⟩
  have pa := h.i.pa x x0 x1 x2
  rw [g (1121 + 8 * x) (by omega) (by omega) (by omega)]
  rcases pa with q | q
  · exact Or.inl q
  · right
    have n : A 163 (1121 + 8 * x) ≠ w := by intro z; have := q.2.2.2.1; rw [z] at this; omega
    have n2 : A 163 (1121 + 8 * x) ≠ c := by intro z; have := q.2.2.2.1; rw [z] at this; omega
    rw [g (1116 + 8 * x) (by omega) (by omega) (by omega), g (1114 + 8 * x) (by omega) (by omega) (by omega), g (1116 + 8 * A 163 (1121 + 8 * x)) (by omega) (by omega) (by omega), g (1121 + 8 * A 163 (1121 + 8 * x)) (by omega) (by omega) (by omega), g (1114 + 8 * A 163 (1121 + 8 * x)) (by omega) (by omega) (by omega), g 1 (by omega) (by omega) (by omega)]
    exact q
