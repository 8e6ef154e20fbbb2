/-! END -/
theorem N_end {A : Int → Int → Int} {a b c v : Int} {A1 : Int → Int → Int} {L : (Int → Int → Int) × Int × Int × Int × Int} (ha : 0 ≤ a ∧ a < A 163 1) (hp : A 163 (1116 + 8 * a) = 2) (hk : ¬ A 163 (1114 + 8 * a) = 3) (hb : 0 ≤ b ∧ b < A 163 0) (hc : A 163 (1121 + 8 * a) = c) (e1 : u_m_goes a (A 163 (970 + 12 * A 163 (1117 + 8 * a) + b)) A = A1) (ev : v_m_arrives a c b A1 = v) (eL : l_n_end_a a b c 20 (u_m_arrives a c b A1) b 0 v (if v = 0 then 1 else 0) = L) : v_n_end a b A = (if L.2.2.2.1 = 0 then 100 + L.2.1 else L.2.1) ∧ u_n_end a b A = (if c < 0 then x_up (if L.2.2.2.1 = 0 then u_m_streets a L.2.1 L.1 else L.1) 163 (1121 + 8 * a) (-1) else x_up (x_up (if L.2.2.2.1 = 0 then u_m_streets c L.2.1 (u_m_streets a L.2.1 L.1) else L.1) 163 (1121 + 8 * a) (-1)) 163 (1121 + 8 * c) (-1)) := by
  unfold v_n_end u_n_end
  rw [if_pos ha, if_pos ha, if_neg (show ¬ ¬ A 163 (1116 + 8 * a) = 2 by omega), if_neg (show ¬ ¬ A 163 (1116 + 8 * a) = 2 by omega), if_neg hk, if_neg hk, if_pos hb, if_pos hb]
  simp only [hc, e1, ev]
  by_cases hv : v = 0
  · rw [if_pos hv] at eL
    simp only [eL, hv, not_true, if_false]
    rw [hv] at eL
    simp only [eL]
    by_cases hT : L.2.2.2.1 = 0
    · by_cases hn : c < 0
      · simp only [hT, hn, not_true, if_false, if_true, ite_self]; exact ⟨trivial, trivial⟩
      · simp only [hT, hn, not_true, if_false, if_true, ite_self]; exact ⟨trivial, trivial⟩
    · by_cases hn : c < 0
      · simp only [hT, hn, not_false_iff, if_false, if_true, ite_self]; exact ⟨trivial, trivial⟩
      · simp only [hT, hn, not_false_iff, if_false, if_true, ite_self]; exact ⟨trivial, trivial⟩
  · rw [if_neg hv] at eL
    simp only [eL, hv, not_false_iff, if_true]
    by_cases hT : L.2.2.2.1 = 0
    · by_cases hn : c < 0
      · simp only [hT, hn, not_true, if_false, if_true, ite_self]; exact ⟨trivial, trivial⟩
      · simp only [hT, hn, not_true, if_false, if_true, ite_self]; exact ⟨trivial, trivial⟩
    · by_cases hn : c < 0
      · simp only [hT, hn, not_false_iff, if_false, if_true, ite_self]; exact ⟨trivial, trivial⟩
      · simp only [hT, hn, not_false_iff, if_false, if_true, ite_self]; exact ⟨trivial, trivial⟩
theorem PA_end {A A2 : Int → Int → Int} {w c : Int} (h : y_IW A) (hW : A 163 1 ≤ 60) (H : y_hi A w c) (e : ∀ k, (k < 11 ∨ 1114 ≤ k) → ¬ (1115 + 8 * w ≤ k ∧ k < 1119 + 8 * w) → k ≠ 1121 + 8 * w → ¬ (1115 + 8 * c ≤ k ∧ k < 1119 + 8 * c) → k ≠ 1121 + 8 * c → A2 163 k = A 163 k) (pw : A2 163 (1121 + 8 * w) = -1) (pc : c = -1 ∨ A2 163 (1121 + 8 * c) = -1) : y_PA A2 := by
  obtain ⟨hw, p2, k3, hc, hh⟩ := H
  intro x x0 x1 x2
  have e1 := e 1 (by omega) (by omega) (by omega) (by omega) (by omega)
  rw [e1] at x2
  by_cases xw : x = w
  · subst xw; exact Or.inl pw
  by_cases xc : x = c
  · subst xc
    rcases pc with z | z
    · omega
    · exact Or.inl z
  rw [e (1121 + 8 * x) (by omega) (by omega) (by omega) (by omega) (by omega)]
  rcases h.pa x x0 x1 x2 with q | q
  · exact Or.inl q
  · right
    have n1 : A 163 (1121 + 8 * x) ≠ w := by
      intro z
      have := q.2.2.2.2.1
      rw [z, hc] at this
      exact xc this.symm
    have n2 : A 163 (1121 + 8 * x) ≠ c := by
      intro z
      rcases hh with g | g
      · omega
      · have := q.2.2.2.2.1
        rw [z, g.2.2.2.2] at this
        exact xw this.symm
    rw [e (1116 + 8 * x) (by omega) (by omega) (by omega) (by omega) (by omega), e (1114 + 8 * x) (by omega) (by omega) (by omega) (by omega) (by omega), e (1116 + 8 * A 163 (1121 + 8 * x)) (by omega) (by omega) (by omega) (by omega) (by omega), e (1121 + 8 * A 163 (1121 + 8 * x)) (by omega) (by omega) (by omega) (by omega) (by omega), e (1114 + 8 * A 163 (1121 + 8 * x)) (by omega) (by omega) (by omega) (by omega) (by omega), e1]
    exact q
theorem up_id {C : Int → Int → Int} {a k v : Int} (h : C a k = v) : x_up C a k v = C := by
  funext b j
  simp only [x_up]
  split
  · rename_i q; rw [q.1, q.2]; exact h.symm
  · rfl
theorem ride_eq {C : Int → Int → Int} {w l c0 kd : Int} (e1 : C (88 + w) 1 = kd) (e2 : C (88 + w) 2 = c0) : u_ride w l C = x_up C (88 + w) 2 (max 0 (c0 - y_fa kd * l)) := by
  unfold u_ride v_chargeFor y_fa
  rw [e1, e2]
  congr 2
  split
  · split <;> rfl
  · omega
/-- both loops from the start -/
theorem end_go {V : Int → (Int → Int → Int) → Int} {U : Int → (Int → Int → Int) → Int → Int → Int} {C A : Int → Int → Int} {w c b : Int} (H : y_ARR w c V U) (h : y_B C A) (hi : y_hi A w c) (hb : 0 ≤ b ∧ b < A 163 0) : ∃ C2 A2 h2 rd2 dk2 i2 j2, gl V U b 9 (U b C) b (v_lengthBetween (C (88 + w) 4) b C) (V b C) 0 = (C2, h2, rd2, dk2, i2) ∧ l_n_end_a w b c 20 (u_m_arrives w c b (u_m_goes w (A 163 (970 + 12 * A 163 (1117 + 8 * w) + b)) A)) b 0 (v_m_arrives w c b (u_m_goes w (A 163 (970 + 12 * A 163 (1117 + 8 * w) + b)) A)) (if (v_m_arrives w c b (u_m_goes w (A 163 (970 + 12 * A 163 (1117 + 8 * w) + b)) A)) = 0 then 1 else 0) = (A2, h2, j2, dk2, 0) ∧ (0 ≤ h2 ∧ h2 < A 163 0) ∧ 0 ≤ rd2 ∧ C2 (88 + w) 1 = C (88 + w) 1 ∧ C2 (88 + w) 2 = C (88 + w) 2 ∧ y_fx w c A A2 ∧ ((dk2 = 0 ∧ y_B (x_up C2 (88 + w) 2 (max 0 (C (88 + w) 2 - y_fa (C (88 + w) 1) * rd2))) A2 ∧ y_hi A2 w c) ∨ (dk2 = 1 ∧ y_By (x_up C2 (88 + w) 2 (max 0 (C (88 + w) 2 - y_fa (C (88 + w) 1) * rd2))) A2 (-1) (-1) ∧ C2 (88 + w) 3 = 0 ∧ C2 (88 + w) 4 = h2)) := by
  have hw := hi.1
  have hW := h.i.nw
  have hn := h.i.n
  have kd := h.i.kd w hw.1 (by omega) hw.2
  have ps := h.i.ps w hw.1 (by omega) hw.2 (by have := hi.2.1; omega)
  have w3 := h.f.w3 w hw.1 (by omega)
  have w1 := h.f.w1 w hw.1 (by omega)
  rw [if_neg (by have := hi.2.1; omega)] at w3
  have lb := F_lb h.f hn.2 ps ⟨hb.1, show b < 12 by omega⟩
  have ln := h.i.ln (A 163 (1117 + 8 * w)) b ps.1 (by omega) hb.1 (by omega)
  rw [w3, lb]
  generalize hl : A 163 (970 + 12 * A 163 (1117 + 8 * w) + b) = l at *
  have B0 : y_B (x_up C (88 + w) 2 (max 0 (C (88 + w) 2 - y_fa (C (88 + w) 1) * 0))) A := by
    rw [up_id (by rw [w1]; omega)]; exact h
  have G := B_goes (l := l) B0 hw rfl ln.1
  have hi1 := hi_fr hi (G.2 1 (by omega)) (fun k q1 q2 => G.2 k (by omega))
  have fr2 : y_fx w c A (u_m_goes w l A) := fun k q1 q2 q3 => G.2 k (by omega)
  obtain ⟨G1, G2⟩ := G
  have s0 := G2 0 (by omega)
  rw [show (0 : Int) + l = l by omega] at G1
  revert G1 G2 hi1 fr2 s0
  generalize u_m_goes w l A = A1
  intro hi1 fr2 G1 G2 s0
  rcases H C A1 b _ G1 hi1 (by rw [s0]; exact hb) with R | R
  · obtain ⟨r1, r2, r3, r4⟩ := R
    rw [r1, r2, r3, r4, if_pos rfl]
    have hB2 := B_fl G1 (a := b) (v := x_w (1 + C (3 + 7 * b) 7)) (by rw [s0]; exact hb)
    rw [x_up_cm (by omega)] at hB2
    have fe := G1.f.fl b hb.1 (by omega)
    rw [x_up_ne (by omega)] at fe
    obtain ⟨C2, A2, h2, rd2, dk2, i2, j2, a1, a2, a3, a4, a5, a6, a7, a8⟩ := gl_end H (f := b) (c0 := C (88 + w) 2) (kd := C (88 + w) 1) 9 20 (x_up C (3 + 7 * b) 7 (x_w (1 + C (3 + 7 * b) 7))) A1 b l 0 (by omega) (by omega) (by omega) (by omega) (by omega) (by rw [← fe]; exact hB2) hi1 (by rw [x_up_ne (by omega)]) (by rw [x_up_ne (by omega)]) (by rw [s0]; exact hb) (by rw [s0]; exact hb)
    rw [s0] at a3
    exact ⟨C2, A2, h2, rd2, dk2, i2, j2, a1, a2, a3, a4, a5, a6, fr_tr fr2 a7, a8⟩
  · obtain ⟨r1, r2, r3, r4, r5, r6⟩ := R
    rw [r1, r2, if_neg (show ¬ (1 : Int) = 0 by omega), ne_in, gl_in]
    exact ⟨_, _, _, _, _, _, _, rfl, rfl, hb, by omega, r4.1, r4.2, fr_tr fr2 r6, Or.inr ⟨rfl, r3, r5.1, r5.2⟩⟩
theorem fin_a {C A C2 A2 : Int → Int → Int} {w h2 v dk2 : Int} (h : y_B C A) (hi : y_hi A w (-1)) (hh : 0 ≤ h2 ∧ h2 < A 163 0) (fr : y_fx w (-1) A A2) (a8 : (dk2 = 0 ∧ y_B (x_up C2 (88 + w) 2 v) A2 ∧ y_hi A2 w (-1)) ∨ (dk2 = 1 ∧ y_By (x_up C2 (88 + w) 2 v) A2 (-1) (-1) ∧ C2 (88 + w) 3 = 0 ∧ C2 (88 + w) 4 = h2)) : y_B (x_up (if ¬ dk2 = 0 then x_up C2 (88 + w) 2 v else x_up (u_leaveOnStreet0 w h2 C2) (88 + w) 2 v) (88 + w) 9 (-1)) (x_up (if dk2 = 0 then u_m_streets w h2 A2 else A2) 163 (1121 + 8 * w) (-1)) := by
  have hw := hi.1
  have hW := h.i.nw
  have f0 := fr 0 (by omega) (by omega) (by omega)
  have f1 := fr 1 (by omega) (by omega) (by omega)
  rcases a8 with ⟨z, b, hi2⟩ | ⟨z, b, _, _⟩
  · rw [if_neg (by omega), if_pos z]
    have o := By_of b
    have p2 := hi2.2.1
    unfold u_leaveOnStreet0
    rw [← move_cm (by omega)]
    have st := By_street (s := h2) ⟨o.f, o.s, X_open o.x hw.1 (by omega), o.k, o.t⟩ (by rw [f1]; exact hw) (by omega) (by rw [f0]; exact hh)
    refine By_to (By_par st ?_) (PA_end h.i.toy_IW hW.2 hi (fun k q1 q2 q3 q4 q5 => ?_) x_up_self (Or.inl rfl))
    · unfold u_m_streets; rw [x_up_nk (by omega), x_up_nk (by omega), x_up_nk (by omega), f1]; exact hw
    · rw [x_up_nk (by omega)]; unfold u_m_streets; rw [x_up_nk (by omega), x_up_nk (by omega), x_up_nk (by omega)]; exact fr k q1 q2 q4
  · rw [if_pos (by omega), if_neg (by omega)]
    exact By_to (By_par b (by rw [f1]; exact hw)) (PA_end h.i.toy_IW hW.2 hi (fun k q1 q2 q3 q4 q5 => by rw [x_up_nk (by omega)]; exact fr k q1 q2 q4) x_up_self (Or.inl rfl))
theorem fin_b {C A C2 A2 : Int → Int → Int} {w c h2 v dk2 : Int} (h : y_B C A) (hc0 : 0 ≤ c) (hi : y_hi A w c) (hh : 0 ≤ h2 ∧ h2 < A 163 0) (fr : y_fx w c A A2) (a8 : (dk2 = 0 ∧ y_B (x_up C2 (88 + w) 2 v) A2 ∧ y_hi A2 w c) ∨ (dk2 = 1 ∧ y_By (x_up C2 (88 + w) 2 v) A2 (-1) (-1) ∧ C2 (88 + w) 3 = 0 ∧ C2 (88 + w) 4 = h2)) : y_B (x_up (x_up (if ¬ dk2 = 0 then x_up C2 (88 + w) 2 v else x_up (u_leaveOnStreet1 w c h2 C2) (88 + w) 2 v) (88 + w) 9 (-1)) (88 + c) 9 (-1)) (x_up (x_up (if dk2 = 0 then u_m_streets c h2 (u_m_streets w h2 A2) else A2) 163 (1121 + 8 * w) (-1)) 163 (1121 + 8 * c) (-1)) := by
  have hw := hi.1
  have hc : (0 ≤ c ∧ c < A 163 1) ∧ w ≠ c := by
    rcases hi.2.2.2.2 with z | z
    · omega
    · exact ⟨z.1, z.2.2.2.1⟩
  have hW := h.i.nw
  have f0 := fr 0 (by omega) (by omega) (by omega)
  have f1 := fr 1 (by omega) (by omega) (by omega)
  rcases a8 with ⟨z, b, hi2⟩ | ⟨z, b, _, _⟩
  · rw [if_neg (by omega), if_pos z]
    have o := By_of b
    have p2 := hi2.2.1
    have p3 : A2 163 (1116 + 8 * c) = 2 := by
      rcases hi2.2.2.2.2 with y | y
      · omega
      · exact y.2.1
    unfold u_leaveOnStreet1
    rw [← move_cm (w := c) (a := 88 + w) (j := 2) (v := v) (by omega), ← move_cm (w := w) (a := 88 + w) (j := 2) (v := v) (by omega)]
    have S := fun (x k : Int) (B : Int → Int → Int) (q : ¬ (1116 + 8 * x ≤ k ∧ k < 1119 + 8 * x)) => show u_m_streets x h2 B 163 k = B 163 k from by unfold u_m_streets; rw [x_up_nk (by omega), x_up_nk (by omega), x_up_nk (by omega)]
    have st := By_street (s := h2) ⟨o.f, o.s, X_open o.x hw.1 (by omega), o.k, o.t⟩ (by rw [f1]; exact hw) (by omega) (by rw [f0]; exact hh)
    have st2 := By_street (w := c) (s := h2) ⟨st.f, st.s, X_open st.x hc.1.1 (by rw [S _ _ _ (by omega)]; omega), st.k, st.t⟩ (by rw [S _ _ _ (by omega), f1]; exact hc.1) (by rw [S _ _ _ (by omega)]; omega) (by rw [S _ _ _ (by omega), f0]; exact hh)
    refine By_to (By_par (By_par st2 ?_) ?_) (PA_end h.i.toy_IW hW.2 hi (fun k q1 q2 q3 q4 q5 => ?_) ?_ (Or.inr x_up_self))
    · rw [S _ _ _ (by omega), S _ _ _ (by omega), f1]; exact hw
    · rw [x_up_nk (by omega), S _ _ _ (by omega), S _ _ _ (by omega), f1]; exact hc.1
    · rw [x_up_nk (by omega), x_up_nk (by omega), S _ _ _ (by omega), S _ _ _ (by omega)]; exact fr k q1 q2 q4
    · rw [x_up_nk (by omega), x_up_self]
  · rw [if_pos (by omega), if_neg (by omega)]
    exact By_to (By_par (By_par b (by rw [f1]; exact hw)) (by rw [x_up_nk (by omega), f1]; exact hc.1)) (PA_end h.i.toy_IW hW.2 hi (fun k q1 q2 q3 q4 q5 => by rw [x_up_nk (by omega), x_up_nk (by omega)]; exact fr k q1 q2 q4) (by rw [x_up_nk (by omega), x_up_self]) (Or.inr x_up_self))
theorem O_end {C A : Int → Int → Int} (h : y_B C A) (a b : Int) : v_x_end a b C = v_n_end a b A ∧ y_B (u_x_end a b C) (u_n_end a b A) := by
  have hW := h.i.nw
  have hn := h.i.n
  by_cases ha : 0 ≤ a ∧ a < A 163 1
  · have w2 := h.f.w2 a ha.1 (by omega)
    have w0 := h.f.w0 a ha.1 (by omega)
    have w7 := h.f.w7 a ha.1 (by omega)
    by_cases hb : 0 ≤ b ∧ b < A 163 0
    · by_cases hp : A 163 (1116 + 8 * a) = 2
      · by_cases hk : A 163 (1114 + 8 * a) = 3
        · unfold v_x_end u_x_end v_n_end u_n_end
          rw [h.f.nw, h.f.n, w2, w0]
          simp only [if_pos ha, if_pos hb, if_neg (show ¬ ¬ A 163 (1116 + 8 * a) = 2 by omega), if_neg (show ¬ ¬ A 163 (1114 + 8 * a) = 3 by omega), if_pos hk]
          exact ⟨trivial, h⟩
        · have hi := hi_of h.i.toy_IW hW.2 ha hp hk rfl
          unfold v_x_end u_x_end
          rw [h.f.nw, h.f.n, w2, w0]
          simp only [if_pos ha, if_pos hb, if_neg (show ¬ ¬ A 163 (1116 + 8 * a) = 2 by omega), if_pos hk, ite_self]
          rcases hi.2.2.2.2 with hc | hc
          · rw [hc] at hi w7
            obtain ⟨C2, A2, h2, rd2, dk2, i2, j2, a1, a2, a3, a4, a5, a6, a7, a8⟩ := end_go ARR0 h hi hb
            have N := N_end ha hp hk hb hc rfl rfl a2
            have F := fin_a h hi a3 a7 a8
            rw [if_pos (show (-1 : Int) < 0 by omega)] at N
            have eU : u_bringBack a b C = x_up (if ¬ dk2 = 0 then x_up C2 (88 + a) 2 (max 0 (C (88 + a) 2 - y_fa (C (88 + a) 1) * rd2)) else x_up (u_leaveOnStreet0 a h2 C2) (88 + a) 2 (max 0 (C (88 + a) 2 - y_fa (C (88 + a) 1) * rd2))) (88 + a) 9 (-1) := by
              unfold u_bringBack
              rw [w7, if_neg (by omega), gl_a, a1]
              by_cases q : dk2 = 0
              · rw [if_neg (by show ¬ ¬ dk2 = 0; omega), if_neg (by omega)]
                show x_up (u_ride a rd2 (u_leaveOnStreet0 a h2 C2)) (88 + a) 9 (-1) = _
                rw [ride_eq (c0 := C (88 + a) 2) (kd := C (88 + a) 1) (by unfold u_leaveOnStreet0; rw [move_ne (by omega)]; exact a5) (by unfold u_leaveOnStreet0; rw [move_ne (by omega)]; exact a6)]
              · rw [if_pos (by show ¬ dk2 = 0; omega), if_pos (by omega)]
                show x_up (u_ride a rd2 C2) (88 + a) 9 (-1) = _
                rw [ride_eq (c0 := C (88 + a) 2) (kd := C (88 + a) 1) a5 a6]
            rw [eU, N.2]
            refine ⟨?_, F⟩
            rw [N.1]
            show _ = if dk2 = 0 then 100 + h2 else h2
            rcases a8 with ⟨z, _⟩ | ⟨z, _, z3, z4⟩
            · subst z
              have n3 : (u_leaveOnStreet0 a h2 C2) (88 + a) 3 = 3 := by unfold u_leaveOnStreet0 u_moveTo; rw [x_up_nk (by omega), x_up_nk (by omega), x_up_self]
              have n4 : (u_leaveOnStreet0 a h2 C2) (88 + a) 4 = h2 := by unfold u_leaveOnStreet0 u_moveTo; rw [x_up_nk (by omega), x_up_self]
              rw [if_neg (show ¬ ¬ (0 : Int) = 0 by omega), x_up_nk (by omega), x_up_nk (by omega), x_up_nk (by omega), x_up_nk (by omega), n3, n4, if_neg (show ¬ ¬ (3 : Int) = 3 by omega), if_pos rfl]
            · subst z
              rw [if_pos (show ¬ (1 : Int) = 0 by omega), x_up_nk (by omega), x_up_nk (by omega), x_up_nk (by omega), x_up_nk (by omega), z3, z4, if_pos (show ¬ (0 : Int) = 3 by omega), if_neg (show ¬ (1 : Int) = 0 by omega)]
          · obtain ⟨hcr, _, _, hne, _⟩ := hc
            generalize hc : A 163 (1121 + 8 * a) = c at hcr hne
            rw [hc] at hi w7
            obtain ⟨C2, A2, h2, rd2, dk2, i2, j2, a1, a2, a3, a4, a5, a6, a7, a8⟩ := end_go (ARR1 hcr.1) h hi hb
            have N := N_end ha hp hk hb hc rfl rfl a2
            have F := fin_b h hcr.1 hi a3 a7 a8
            rw [if_neg (show ¬ c < 0 by omega)] at N
            have eU : u_bringBack a b C = x_up (x_up (if ¬ dk2 = 0 then x_up C2 (88 + a) 2 (max 0 (C (88 + a) 2 - y_fa (C (88 + a) 1) * rd2)) else x_up (u_leaveOnStreet1 a c h2 C2) (88 + a) 2 (max 0 (C (88 + a) 2 - y_fa (C (88 + a) 1) * rd2))) (88 + a) 9 (-1)) (88 + c) 9 (-1) := by
              unfold u_bringBack
              rw [w7, h.f.nw, if_pos hcr, gl_b, a1]
              by_cases q : dk2 = 0
              · rw [if_neg (by show ¬ ¬ dk2 = 0; omega), if_neg (by omega)]
                show x_up (x_up (u_ride a rd2 (u_leaveOnStreet1 a c h2 C2)) (88 + a) 9 (-1)) (88 + c) 9 (-1) = _
                rw [ride_eq (c0 := C (88 + a) 2) (kd := C (88 + a) 1) (by unfold u_leaveOnStreet1; rw [move_ne (by omega), move_ne (by omega)]; exact a5) (by unfold u_leaveOnStreet1; rw [move_ne (by omega), move_ne (by omega)]; exact a6)]
              · rw [if_pos (by show ¬ dk2 = 0; omega), if_pos (by omega)]
                show x_up (x_up (u_ride a rd2 C2) (88 + a) 9 (-1)) (88 + c) 9 (-1) = _
                rw [ride_eq (c0 := C (88 + a) 2) (kd := C (88 + a) 1) a5 a6]
            rw [eU, N.2]
            refine ⟨?_, F⟩
            rw [N.1]
            show _ = if dk2 = 0 then 100 + h2 else h2
            rcases a8 with ⟨z, _⟩ | ⟨z, _, z3, z4⟩
            · subst z
              have n3 : (u_leaveOnStreet1 a c h2 C2) (88 + a) 3 = 3 := by unfold u_leaveOnStreet1; rw [move_ne (by omega)]; unfold u_moveTo; rw [x_up_nk (by omega), x_up_nk (by omega), x_up_self]
              have n4 : (u_leaveOnStreet1 a c h2 C2) (88 + a) 4 = h2 := by unfold u_leaveOnStreet1; rw [move_ne (by omega)]; unfold u_moveTo; rw [x_up_nk (by omega), x_up_self]
              rw [if_neg (show ¬ ¬ (0 : Int) = 0 by omega), x_up_no (by omega), x_up_nk (by omega), x_up_nk (by omega), x_up_no (by omega), x_up_nk (by omega), x_up_nk (by omega), n3, n4, if_neg (show ¬ ¬ (3 : Int) = 3 by omega), if_pos rfl]
            · subst z
              rw [if_pos (show ¬ (1 : Int) = 0 by omega), x_up_no (by omega), x_up_nk (by omega), x_up_nk (by omega), x_up_no (by omega), x_up_nk (by omega), x_up_nk (by omega), z3, z4, if_pos (show ¬ (0 : Int) = 3 by omega), if_neg (show ¬ (1 : Int) = 0 by omega)]
      · unfold v_x_end u_x_end v_n_end u_n_end
        rw [h.f.nw, h.f.n, w2]
        simp only [if_pos ha, if_pos hb, if_pos hp]
        exact ⟨trivial, h⟩
    · unfold v_x_end u_x_end v_n_end u_n_end
      rw [h.f.nw, h.f.n]
      simp only [if_pos ha, if_neg hb]
      refine ⟨?_, ?_⟩
      · split
        · rfl
        · split <;> rfl
      · have : ∀ (p q : Prop) [Decidable p] [Decidable q], y_B C (if p then A else if q then A else A) := fun p q _ _ => by
          split
          · exact h
          · split <;> exact h
        exact this _ _
  · unfold v_x_end u_x_end v_n_end u_n_end
    rw [h.f.nw, h.f.n]
    simp only [if_neg ha, ite_self]
    exact ⟨trivial, h⟩
