theorem e_takeOn {C A : Int → Int → Int} {c w : Int} (F : y_F C A) (K : y_IK A) (T : y_FT C A) (hN : A 163 2 ≤ 3) (hW : A 163 1 ≤ 60) (hc : 0 ≤ c ∧ c < A 163 2) (hw : 0 ≤ w ∧ w < A 163 1) (hl : y_tk A c + y_sz (A 163 (1114 + 8 * w)) ≤ A 163 (1594 + 12 * c)) : u_takeOn c w C = (x_up ((x_up ((x_up ((x_up ((x_up ((x_up C (150 + 2 * c) (A 163 (1597 + 12 * c)) w)) (149 + 2 * c) 6 (1 + A 163 (1597 + 12 * c)))) (149 + 2 * c) 3 (y_tk A c + y_sz (A 163 (1114 + 8 * w))))) (88 + w) 3 1)) (88 + w) 4 (-1))) (88 + w) 5 c) := by
  have kk := K.kk c hc.1 (by omega)
  have kl := K.kl c hc.1 (by omega) hc.2
  have t := tk_cnt (A := A) (c := c) ⟨kk.1, kk.2.1⟩
  have z := y_sz_in (A 163 (1114 + 8 * w))
  unfold u_takeOn
  rw [if_pos ((F_room2 F K T hN hW hc hw).mpr hl)]
  unfold u_moveTo
  rw [F.k3 c hc.1 (by omega), (T c hc.1 (by omega)).1, x_up_ne (by omega), x_up_ne (by omega), F.w0 w hw.1 (by omega), x_wn (w := y_tk A c + y_sz (A 163 (1114 + 8 * w))) ⟨rfl, by omega, by omega⟩]
theorem C_climb {C A : Int → Int → Int} (F : y_F C A) (S : y_IS A) {w c : Int} (X : y_IX A w (-1)) (K : y_IK A) (T : y_FT C A) (hc : 0 ≤ c ∧ c < A 163 2) (hw : 0 ≤ w ∧ w < A 163 1) (hp : A 163 (1116 + 8 * w) ≠ 1) (hl : y_tk A c + y_sz (A 163 (1114 + 8 * w)) ≤ A 163 (1594 + 12 * c)) : y_Bx (u_takeOn c w C) (u_m_climbs c w A) := by
  have hN := S.nc
  have hW := S.nw
  have kk := K.kk c hc.1 (by omega)
  have kl := K.kl c hc.1 (by omega) hc.2
  have t := tk_cnt (A := A) (c := c) ⟨kk.1, kk.2.1⟩
  have z := y_sz_in (A 163 (1114 + 8 * w))
  rw [e_takeOn F K T hN.2 hW.2 hc hw hl]
  unfold u_m_climbs
  have R := C_climb0 F S X K T hc hw hp rfl ⟨kk.1, by omega⟩ rfl hl
  have e : (x_up A 163 (1598 + 12 * c + A 163 (1597 + 12 * c)) w) 163 (1597 + 12 * c) = A 163 (1597 + 12 * c) := x_up_nk (by omega)
  exact R
theorem R_climb {A : Int → Int → Int} {w c : Int} (hc : 0 ≤ c) (h8 : 0 ≤ A 163 (1597 + 12 * c)) : (∀ k, k < 1594 → ¬ (1116 + 8 * w ≤ k ∧ k < 1119 + 8 * w) → u_m_climbs c w A 163 k = A 163 k) := by
  intro k q q2
  unfold u_m_climbs
  rw [x_up_nk (by omega), x_up_nk (by omega), x_up_nk (by omega), x_up_nk (by omega), x_up_nk (by omega)]
/-- partners stay when a wheel without partner changes its place -/
theorem PA_fr {A A2 : Int → Int → Int} {w : Int} (h : y_IW A) (hw : 0 ≤ w ∧ w < A 163 1) (hW : A 163 1 ≤ 60) (hp : A 163 (1116 + 8 * w) ≠ 2) (e1 : A2 163 1 = A 163 1) (f : ∀ k, 1114 ≤ k → k < 1594 → ¬ (1116 + 8 * w ≤ k ∧ k < 1119 + 8 * w) → (k - 1114) % 8 ≠ 1 → (k - 1114) % 8 ≠ 5 → A2 163 k = A 163 k) : y_PA A2 := by
  intro x x0 x1 x2
  rw [e1] at x2
  have pa := h.pa x x0 x1 x2
  have pw := h.pa w hw.1 (by omega) hw.2
  rw [f (1121 + 8 * x) (by omega) (by omega) (by omega) (by omega) (by omega)]
  rcases pa with q | q
  · exact Or.inl q
  · right
    have n : A 163 (1121 + 8 * x) ≠ w := by intro z; have := q.2.2.2.1; rw [z] at this; omega
    have n2 : x ≠ w := by intro z; rw [z] at q; exact hp q.1
    rw [f (1116 + 8 * x) (by omega) (by omega) (by omega) (by omega) (by omega), f (1114 + 8 * x) (by omega) (by omega) (by omega) (by omega) (by omega), f (1116 + 8 * A 163 (1121 + 8 * x)) (by omega) (by omega) (by omega) (by omega) (by omega), f (1121 + 8 * A 163 (1121 + 8 * x)) (by omega) (by omega) (by omega) (by omega) (by omega), f (1114 + 8 * A 163 (1121 + 8 * x)) (by omega) (by omega) (by omega) (by omega) (by omega), e1]
    exact q
theorem B_fetch {C A : Int → Int → Int} (h : y_B C A) {w c : Int} (hc : 0 ≤ c ∧ c < A 163 2) (hw : 0 ≤ w ∧ w < A 163 1) (hp : A 163 (1116 + 8 * w) = 3) (hl : y_tk A c + y_sz (A 163 (1114 + 8 * w)) ≤ A 163 (1594 + 12 * c)) : y_B (u_takeOn c w C) (u_m_climbs c w A) := by
  have hN := h.i.nc
  have hW := h.i.nw
  have kk := h.i.kk c hc.1 (by omega)
  have r := R_climb (A := A) (w := w) (c := c) hc.1 kk.1
  exact Bx_to (C_climb h.f h.i.toy_IS (X_open (X_of h.i) hw.1 (by omega)) h.i.toy_IK h.t hc hw (by omega) hl) (PA_fr h.i.toy_IW hw hW.2 (by omega) (r 1 (by omega) (by omega)) (fun k q1 q2 q3 _ _ => r k q2 q3))
theorem O_fetch {C A : Int → Int → Int} (h : y_B C A) (a b : Int) : v_x_fetch a b C = v_n_fetch a b A ∧ y_B (u_x_fetch a b C) (u_n_fetch a b A) := by
  have hc := h.f.nc
  have hC := h.i.nc
  have hw := h.f.nw
  have hW := h.i.nw
  unfold v_x_fetch v_n_fetch u_x_fetch u_n_fetch
  rw [hc, hw]
  by_cases ca : 0 ≤ a ∧ a < A 163 2
  · rw [if_pos ca, if_pos ca, if_pos ca, if_pos ca]
    by_cases cb : 0 ≤ b ∧ b < A 163 1
    · have k2 := h.f.w2 b cb.1 (by omega)
      have k3 := h.f.w3 b cb.1 (by omega)
      have k1 := h.f.k1 a ca.1 (by omega)
      have kk := h.i.kk a ca.1 (by omega)
      rw [if_pos cb, if_pos cb, if_pos cb, if_pos cb, k2]
      by_cases p : A 163 (1116 + 8 * b) = 3
      · have np : ¬ ¬ A 163 (1116 + 8 * b) = 3 := by omega
        rw [if_neg (by omega)] at k3
        rw [if_neg np, if_neg np, if_neg np, if_neg np, k3, k1]
        by_cases s : A 163 (1117 + 8 * b) = A 163 (1595 + 12 * a)
        · have ns : ¬ ¬ A 163 (1117 + 8 * b) = A 163 (1595 + 12 * a) := by omega
          rw [if_neg ns, if_neg ns, if_neg ns, if_neg ns]
          have R := F_room2 h.f h.i.toy_IK h.t hC.2 hW.2 ca cb
          have Q := P_allows (A := A) (c := a) (w := b) ⟨kk.1, kk.2.1⟩
          rw [k1] at *
          by_cases l : y_tk A a + y_sz (A 163 (1114 + 8 * b)) ≤ A 163 (1594 + 12 * a)
          · rw [if_pos (R.mpr l), if_pos (R.mpr l), if_pos (Q.mpr l), if_pos (Q.mpr l)]
            exact ⟨rfl, B_fetch h ca cb p l⟩
          · rw [if_neg (fun z => l (R.mp z)), if_neg (fun z => l (R.mp z)), if_neg (fun z => l (Q.mp z)), if_neg (fun z => l (Q.mp z))]; exact ⟨rfl, h⟩
        · rw [if_pos s, if_pos s, if_pos s, if_pos s]; exact ⟨rfl, h⟩
      · rw [if_pos p, if_pos p, if_pos p, if_pos p]; exact ⟨rfl, h⟩
    · rw [if_neg cb, if_neg cb, if_neg cb, if_neg cb]; exact ⟨rfl, h⟩
  · rw [if_neg ca, if_neg ca, if_neg ca, if_neg ca]
    refine ⟨by split <;> rfl, by split <;> exact h⟩
