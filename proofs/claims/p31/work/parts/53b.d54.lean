theorem F_room_a {C A : Int → Int → Int} (h : y_F C A) {s kd : Int} (hs : 0 ≤ s ∧ s < A 163 0) (hn : A 163 0 ≤ 12) (hd : A 163 (10 + 80 * s) ≤ 12) : ∀ (k : Nat) (d : Int), 0 ≤ d → 12 - d < (k : Int) → w_roomFor_a s (y_sz kd) C k d = w_m_room_a kd s A k d := by
  intro k
  induction k with
  | zero => intro d h0 h1; rfl
  | succ k ih =>
    intro d h0 h1
    have e1 := h.dk s (by omega) (by omega)
    rw [w_roomFor_a, w_m_room_a, e1, ih (1 + d) (by omega) (by omega)]
    by_cases q9 : A 163 (10 + 80 * s) ≤ d
    · rw [if_pos q9, if_pos q9]
    rw [if_neg q9, if_neg q9]
    have e2 := h.ct s d (by omega) (by omega) h0 (by omega)
    have e3 : 1 + d < A 163 (10 + 80 * s) → _ := fun q => h.ct s (1 + d) (by omega) (by omega) (by omega) (by omega) q
    unfold y_sz
    have e4 : (11 : Int) + 80 * s + (1 + d) = 12 + 80 * s + d := by omega
    rw [e4] at e3
    by_cases q : kd = 2
    · simp only [q, if_true, show (-1 : Int) + d + 2 = 1 + d by omega]
      grind
    · simp only [q, if_false, show (-1 : Int) + d + 1 = d by omega]
      grind
theorem F_room {C A : Int → Int → Int} (h : y_F C A) {s kd : Int} (hs : 0 ≤ s ∧ s < A 163 0) (hn : A 163 0 ≤ 12) (hd : A 163 (10 + 80 * s) ≤ 12) : v_roomFor s (y_sz kd) C = v_m_room kd s A := F_room_a h hs hn hd 13 0 (by omega) (by omega)
/-- what the room is -/
theorem A_room_a {A : Int → Int → Int} {s kd : Int} : ∀ (k : Nat) (d : Int), 0 ≤ d → d ≤ A 163 (10 + 80 * s) → w_m_room_a kd s A k d = -1 ∨ (k : Int) + d ≤ A 163 (10 + 80 * s) ∨ (0 ≤ w_m_room_a kd s A k d ∧ w_m_room_a kd s A k d + y_sz kd ≤ A 163 (10 + 80 * s) ∧ A 163 (11 + 80 * s + w_m_room_a kd s A k d) = -1 ∧ (kd = 2 → A 163 (12 + 80 * s + w_m_room_a kd s A k d) = -1)) := by
  intro k
  induction k with
  | zero => intro d h0 h1; right; left; omega
  | succ k ih =>
    intro d h0 h1
    have := ih (1 + d) (by omega)
    rw [w_m_room_a]
    unfold y_sz at this ⊢
    split
    · exact Or.inl rfl
    · split
      · right; right; grind
      · grind
theorem A_room {A : Int → Int → Int} {s kd : Int} (hd : 0 ≤ A 163 (10 + 80 * s) ∧ A 163 (10 + 80 * s) ≤ 12) : v_m_room kd s A = -1 ∨ (0 ≤ v_m_room kd s A ∧ v_m_room kd s A + y_sz kd ≤ A 163 (10 + 80 * s) ∧ A 163 (11 + 80 * s + v_m_room kd s A) = -1 ∧ (kd = 2 → A 163 (12 + 80 * s + v_m_room kd s A) = -1)) := by
  have := A_room_a (A := A) (s := s) (kd := kd) 13 0 (by omega) (by omega)
  unfold v_m_room
  rcases this with q | q | q
  · exact Or.inl q
  · omega
  · exact Or.inr q
theorem F_fill {C : Int → Int → Int} {s d x kd : Int} (h0 : 0 ≤ d) (h1 : d + y_sz kd ≤ C (3 + 7 * s) 1) : u_fill s d (y_sz kd) x C = if kd = 2 then x_up (x_up C (4 + 7 * s) d x) (4 + 7 * s) (1 + d) x else x_up C (4 + 7 * s) d x := by
  unfold u_fill y_sz at *
  by_cases q : kd = 2
  · simp only [q, if_true] at h1 ⊢
    rw [l_fill_a, if_neg (by omega), if_pos (by omega), l_fill_a, if_neg (by omega), if_pos (by rw [x_up_ne (by omega)]; omega), l_fill_a, if_pos (by omega), show d + 0 = d by omega, show d + (1 + 0) = 1 + d by omega]
  · simp only [q, if_false] at h1 ⊢
    rw [l_fill_a, if_neg (by omega), if_pos (by omega), l_fill_a, if_pos (by omega), show d + 0 = d by omega]
theorem F_wat_a {C A : Int → Int → Int} (h : y_F C A) (hn : A 163 1 ≤ 60) {s p : Int} (hp : p ≠ 1) : ∀ (k : Nat) (n i : Int), 0 ≤ i → l_wheelsAt_a s p C k n i = l_m_cntW_a s p 0 A k n i := by
  intro k
  induction k with
  | zero => intro n i h0; rfl
  | succ k ih =>
    intro n i h0
    rw [l_wheelsAt_a, l_m_cntW_a, h.nw, ih _ _ (by omega), ih _ _ (by omega)]
    by_cases q : A 163 1 ≤ i
    · rw [if_pos q, if_pos q]
    · rw [if_neg q, if_neg q, h.w2 i h0 (by omega), h.w3 i h0 (by omega)]
      grind
theorem F_wat {C A : Int → Int → Int} (h : y_F C A) (hn : A 163 1 ≤ 60) {s p : Int} (hp : p ≠ 1) : v_wheelsAt s p C = v_m_cntW s p 0 A := by
  unfold v_wheelsAt v_m_cntW
  rw [F_wat_a h hn hp _ _ _ (by omega)]
theorem F_mov_a {C A : Int → Int → Int} (h : y_F C A) (hn : A 163 1 ≤ 60) {s : Int} : ∀ (k : Nat) (n i : Int), 0 ≤ i → l_movableAt_a s C k n i = l_m_cntW_a s 0 1 A k n i := by
  intro k
  induction k with
  | zero => intro n i h0; rfl
  | succ k ih =>
    intro n i h0
    rw [l_movableAt_a, l_m_cntW_a, h.nw, ih _ _ (by omega), ih _ _ (by omega)]
    by_cases q : A 163 1 ≤ i
    · rw [if_pos q, if_pos q]
    · rw [if_neg q, if_neg q, h.w2 i h0 (by omega), h.w3 i h0 (by omega), h.w0 i h0 (by omega)]
      grind
theorem F_mov {C A : Int → Int → Int} (h : y_F C A) (hn : A 163 1 ≤ 60) {s : Int} : v_movableAt s C = v_m_cntW s 0 1 A := by
  unfold v_movableAt v_m_cntW
  rw [F_mov_a h hn _ _ _ (by omega)]
theorem F_free_a {C A : Int → Int → Int} (h : y_F C A) {s : Int} (hs : 0 ≤ s ∧ s < 12) (hd : A 163 (10 + 80 * s) ≤ 12) : ∀ (k : Nat) (n d : Int), 0 ≤ d → l_docksWith_a s (-1) C k n d = l_m_cntD_a s (-1) A k n d := by
  intro k
  induction k with
  | zero => intro n d h0; rfl
  | succ k ih =>
    intro n d h0
    rw [l_docksWith_a, l_m_cntD_a, h.dk s hs.1 hs.2, ih _ _ (by omega), ih _ _ (by omega)]
    by_cases q : A 163 (10 + 80 * s) ≤ d
    · rw [if_pos q, if_pos q]
    · rw [if_neg q, if_neg q, h.ct s d hs.1 hs.2 h0 (by omega) (by omega), if_neg (show ¬ ¬ (-1 : Int) = -1 by omega)]
theorem F_free {C A : Int → Int → Int} (h : y_F C A) {s : Int} (hs : 0 ≤ s ∧ s < 12) (hd : A 163 (10 + 80 * s) ≤ 12) : v_freeDocks s C = v_m_cntD s (-1) A := by
  unfold v_freeDocks v_docksWith v_m_cntD
  rw [F_free_a h hs hd _ _ _ (by omega)]
theorem F_usa_a {C A : Int → Int → Int} (h : y_F C A) {s : Int} (hs : 0 ≤ s ∧ s < 12) (hd : A 163 (10 + 80 * s) ≤ 12) : ∀ (k : Nat) (n m d : Int), 0 ≤ d → d ≤ A 163 (10 + 80 * s) → A 163 (10 + 80 * s) - d ≤ (k : Int) → n + m = d → (l_docksWith_a s (-2) C k n d).1 + (l_m_cntD_a s (-2) A k m d).1 = A 163 (10 + 80 * s) := by
  intro k
  induction k with
  | zero => intro n m d h0 h1 h2 h3; rw [l_docksWith_a, l_m_cntD_a]; show n + m = _; omega
  | succ k ih =>
    intro n m d h0 h1 h2 h3
    rw [l_docksWith_a, l_m_cntD_a, h.dk s hs.1 hs.2]
    by_cases q : A 163 (10 + 80 * s) ≤ d
    · rw [if_pos q, if_pos q]; show n + m = _; omega
    · rw [if_neg q, if_neg q, h.ct s d hs.1 hs.2 h0 (by omega) (by omega), if_pos (show ¬ (-2 : Int) = -1 by omega)]
      by_cases q2 : A 163 (11 + 80 * s + d) = -2
      · rw [if_neg (by omega), if_pos q2]; exact ih _ _ _ (by omega) (by omega) (by omega) (by omega)
      · rw [if_pos q2, if_neg q2]; exact ih _ _ _ (by omega) (by omega) (by omega) (by omega)
theorem F_usa {C A : Int → Int → Int} (h : y_F C A) {s : Int} (hs : 0 ≤ s ∧ s < 12) (hd : 0 ≤ A 163 (10 + 80 * s) ∧ A 163 (10 + 80 * s) ≤ 12) : v_usableDocks s C = v_m_cntD s (-2) A := by
  have := F_usa_a h hs hd.2 13 0 0 0 (by omega) (by omega) (by omega) (by omega)
  unfold v_usableDocks v_docksWith v_m_cntD
  rw [h.dk s hs.1 hs.2]; omega
theorem F_win_a {C A : Int → Int → Int} (h : y_F C A) (hn : A 163 1 ≤ 60) {a p : Int} (hp : p = a - 3) : ∀ (k : Nat) (n i : Int), 0 ≤ i → l_wheelsIn_a p C k n i = l_n_count_a a A k n i := by
  intro k
  induction k with
  | zero => intro n i h0; rfl
  | succ k ih =>
    intro n i h0
    rw [l_wheelsIn_a, l_n_count_a, h.nw, ih _ _ (by omega), ih _ _ (by omega)]
    by_cases q : A 163 1 ≤ i
    · rw [if_pos q, if_pos q]
    · rw [if_neg q, if_neg q, h.w2 i h0 (by omega)]
      grind
theorem F_kno_a {C A : Int → Int → Int} (h : y_F C A) (hn : A 163 1 ≤ 60) {a : Int} : ∀ (k : Nat) (n i : Int), 0 ≤ i → l_knownBroken_a C k n i = l_n_count_b a A k n i := by
  intro k
  induction k with
  | zero => intro n i h0; rfl
  | succ k ih =>
    intro n i h0
    rw [l_knownBroken_a, l_n_count_b, h.nw, ih _ _ (by omega), ih _ _ (by omega)]
    by_cases q : A 163 1 ≤ i
    · rw [if_pos q, if_pos q]
    · rw [if_neg q, if_neg q, h.wn i h0 (by omega)]
      grind
theorem V_count {C A : Int → Int → Int} (h : y_F C A) (hI : y_I A) (a : Int) : v_x_count a C = v_n_count a A := by
  have hn := hI.nw
  unfold v_x_count v_n_count v_wheelsIn v_knownBroken
  rw [h.n, h.nw, h.nc, h.hr, F_win_a h hn.2 (a := 3) (by omega) _ _ _ (by omega), F_win_a h hn.2 (a := 4) (by omega) _ _ _ (by omega), F_win_a h hn.2 (a := 5) (by omega) _ _ _ (by omega), F_win_a h hn.2 (a := 6) (by omega) _ _ _ (by omega), F_kno_a h hn.2 (a := 7) _ _ _ (by omega)]
  grind
theorem V_dock {C A : Int → Int → Int} (h : y_F C A) (hI : y_I A) (a b : Int) : v_x_dock a b C = v_n_dock a b A := by
  have hn := hI.n
  unfold v_x_dock v_n_dock
  rw [h.n]
  by_cases q : 0 ≤ a ∧ a < A 163 0
  · rw [h.dk a q.1 (by omega)]
    by_cases q2 : 0 ≤ b ∧ b < A 163 (10 + 80 * a)
    · have := hI.dk a q.1 (by omega) q.2
      rw [h.ct a b q.1 (by omega) q2.1 (by omega) q2.2]; grind
    · grind
  · grind
theorem V_tell {C A : Int → Int → Int} (h : y_F C A) (hI : y_I A) (a b : Int) : v_x_tell a b C = v_n_tell a b A := by
  have hn := hI.n
  unfold v_x_tell v_n_tell
  rw [h.n]
  by_cases q : 0 ≤ a ∧ a < A 163 0
  · have hs : 0 ≤ a ∧ a < 12 := by omega
    rw [h.dk a q.1 (by omega), F_free h hs (hI.dk a q.1 hs.2 q.2).2, F_wat h hI.nw.2 (by omega), F_wat h hI.nw.2 (by omega), F_mov h hI.nw.2, h.oc a hs.1 hs.2, h.wa a hs.1 hs.2, h.fl a hs.1 hs.2]
  · grind
theorem V_wheel {C A : Int → Int → Int} (h : y_F C A) (hI : y_I A) (a b : Int) (hb : b ≠ 5) : v_x_wheel a b C = v_n_wheel a b A := by
  have hn := hI.nw
  unfold v_x_wheel v_n_wheel
  rw [h.nw]
  by_cases q : 0 ≤ a ∧ a < A 163 1
  · have hs : 0 ≤ a ∧ a < 60 := by omega
    have pa := hI.pa a q.1 hs.2 q.2
    have pn := hI.pn a q.1 hs.2 q.2
    rw [h.w0 a q.1 (by omega), h.w1 a q.1 (by omega), h.w2 a q.1 (by omega), h.w3 a q.1 (by omega), h.w4 a q.1 (by omega), h.wn a q.1 (by omega), h.w7 a q.1 (by omega)]
    grind
  · grind
theorem V_round {C A : Int → Int → Int} (a : Int) (h1 : C 156 1 = A 162 11) (h2 : ∀ k, 0 ≤ k → k < A 162 11 → C 157 k = A 169 k) (h7 : A 162 11 ≤ 7) : v_x_round a C = v_n_round a A := by
  unfold v_x_round v_n_round v_stopAt
  have := h2 a
  grind
