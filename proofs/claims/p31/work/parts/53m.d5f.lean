theorem c_nw_lend {C A : Int → Int → Int} (h : y_Bx C A) : C 1 3 = A 163 1 := h.f.nw
theorem O_hire {C A : Int → Int → Int} (h : y_B C A) (a b d : Int) : v_x_hire a b d C = v_n_hire a b d A ∧ y_B (u_x_hire a b d C) (u_n_hire a b d A) := by
  have hn := h.f.n
  have hN := h.i.n
  have hw := h.f.nw
  have hW := h.i.nw
  by_cases G : (0 ≤ a ∧ a < A 163 0) ∧ 0 ≤ b ∧ b < A 163 (10 + 80 * a)
  · have dk := h.f.dk a G.1.1 (by omega)
    have hD := h.i.dk a G.1.1 (by omega) G.1.2
    have cb := h.f.ct a b G.1.1 (by omega) G.2.1 (by omega) G.2.2
    have crb := h.i.cr a b G.1.1 (by omega) G.2.1 (by omega) G.1.2 G.2.2
    by_cases g0 : 0 ≤ A 163 (11 + 80 * a + b)
    · -- the wheel
      have ctb := h.i.ct a b _ G.1.1 (by omega) G.2.1 (by omega) g0 (by omega) G.1.2 G.2.2 rfl
      have ex : ((0 ≤ a ∧ a < C 1 1) ∧ 0 ≤ b ∧ b < C (3 + 7 * a) 1) ∧ 0 ≤ C (4 + 7 * a) b ∧ C (4 + 7 * a) b < C 1 3 := by
        rw [hn, dk, cb, hw]; exact ⟨G, g0, crb.2⟩
      have L := F_lasts h.f h.i (w := A 163 (11 + 80 * a + b)) (s := a) G.1 ⟨g0, crb.2⟩
      have k0 := h.f.w0 _ g0 (by omega)
      have k6 := h.f.w6 _ g0 (by omega)
      unfold v_x_hire v_n_hire u_x_hire u_n_hire
      rw [if_pos ex, if_pos G, if_pos ex, if_pos G, if_pos g0, if_pos g0]
      rw [cb]
      generalize hwv : A 163 (11 + 80 * a + b) = w at *
      rw [k0, k6]
      by_cases k3 : A 163 (1114 + 8 * w) = 3
      · rw [if_neg (show ¬ ¬ A 163 (1114 + 8 * w) = 3 by omega), if_neg (show ¬ ¬ A 163 (1114 + 8 * w) = 3 by omega), if_neg (show ¬ ¬ A 163 (1114 + 8 * w) = 3 by omega), if_neg (show ¬ ¬ A 163 (1114 + 8 * w) = 3 by omega)]; exact ⟨rfl, h⟩
      rw [if_pos k3, if_pos k3, if_pos k3, if_pos k3]
      by_cases k7 : A 163 (1120 + 8 * w) ≤ 0
      · have nk : ¬ 0 < A 163 (1120 + 8 * w) := by omega
        rw [if_neg nk, if_pos k7, if_pos k7, if_pos rfl, if_pos rfl]
        by_cases ln : v_chargeFor w (v_nearestLength a C) C ≤ C (88 + w) 2
        · rw [if_pos ln, if_pos ln, if_pos (L.mp ln), if_pos (L.mp ln)]
          by_cases d1 : d = -1
          · subst d1
            have nd : ¬ ¬ (-1 : Int) = -1 := by omega
            simp only [if_neg nd, if_true]
            refine ⟨rfl, ?_⟩
            have B := B_hire0 h (w := w) ⟨g0, crb.2⟩ ctb.1
            unfold u_lend0
            exact B_dbt B (fun c k q => P_lend0 _ _ _ (by omega) (by rw [B.f.nw]; exact B.i.nw.2) _ _ q) (fun k q => P_nhire _ _ _ (by omega) B.i.nw.2 _ q)
          · simp only [if_pos d1, if_neg d1]
            by_cases G2 : (0 ≤ a ∧ a < A 163 0) ∧ 0 ≤ d ∧ d < A 163 (10 + 80 * a)
            · have cd := h.f.ct a d G.1.1 (by omega) G2.2.1 (by omega) G2.2.2
              have crd := h.i.cr a d G.1.1 (by omega) G2.2.1 (by omega) G.1.2 G2.2.2
              rw [if_pos G2, if_pos G2]
              by_cases g1 : A 163 (11 + 80 * a + d) < 0
              · have nx : ¬ (((0 ≤ a ∧ a < C 1 1) ∧ 0 ≤ d ∧ d < C (3 + 7 * a) 1) ∧ 0 ≤ C (4 + 7 * a) d ∧ C (4 + 7 * a) d < C 1 3) := by
                  rw [cd]; omega
                simp only [if_neg nx, if_pos g1]; exact ⟨trivial, h⟩
              · have ctd := h.i.ct a d _ G.1.1 (by omega) G2.2.1 (by omega) (by omega) (by omega) G.1.2 G2.2.2 rfl
                have ex2 : (((0 ≤ a ∧ a < C 1 1) ∧ 0 ≤ d ∧ d < C (3 + 7 * a) 1) ∧ 0 ≤ C (4 + 7 * a) d ∧ C (4 + 7 * a) d < C 1 3) := by
                  rw [hn, dk, cd, hw]; exact ⟨G2, by omega, crd.2⟩
                have q0 := h.f.w0 _ (show 0 ≤ A 163 (11 + 80 * a + d) by omega) (by omega)
                have q6 := h.f.w6 _ (show 0 ≤ A 163 (11 + 80 * a + d) by omega) (by omega)
                simp only [if_pos ex2, if_neg g1]
                simp only [cd]
                generalize hcv : A 163 (11 + 80 * a + d) = c at *
                rw [q0, q6]
                by_cases c3 : A 163 (1114 + 8 * c) = 3
                · have n3 : ¬ ¬ A 163 (1114 + 8 * c) = 3 := by omega
                  rw [if_neg n3, if_neg n3, if_neg n3, if_neg n3]
                  by_cases c7 : A 163 (1120 + 8 * c) ≤ 0
                  · have nk2 : ¬ 0 < A 163 (1120 + 8 * c) := by omega
                    rw [if_neg nk2, if_pos c7, if_pos c7, if_pos rfl, if_pos rfl]
                    refine ⟨rfl, ?_⟩
                    have B := B_hire1 h (w := w) (c := c) ⟨g0, crb.2⟩ ctb.1 ⟨by omega, crd.2⟩ ctd.1 k3 c3
                    unfold u_lend1
                    exact B_dbt B (fun c k q => P_lend1 _ _ _ (by omega) (by rw [B.f.nw]; exact B.i.nw.2) _ _ q) (fun k q => P_nhire _ _ _ (by omega) B.i.nw.2 _ q)
                  · have nk2 : 0 < A 163 (1120 + 8 * c) := by omega
                    rw [if_pos nk2, if_neg c7, if_neg c7, if_neg (by omega), if_neg (by omega)]; exact ⟨rfl, h⟩
                · rw [if_pos c3, if_pos c3, if_pos c3, if_pos c3]; exact ⟨rfl, h⟩
            · have nx : ¬ (((0 ≤ a ∧ a < C 1 1) ∧ 0 ≤ d ∧ d < C (3 + 7 * a) 1) ∧ 0 ≤ C (4 + 7 * a) d ∧ C (4 + 7 * a) d < C 1 3) := by
                rw [hn, dk]; exact fun q => G2 q.1
              simp only [if_neg nx, if_neg G2]; exact ⟨trivial, h⟩
        · have ln2 : ¬ ¬ v_m_enough w a A = 0 := fun q => ln (L.mpr q)
          rw [if_neg ln, if_neg ln, if_neg ln2, if_neg ln2]; exact ⟨rfl, h⟩
      · have nk : 0 < A 163 (1120 + 8 * w) := by omega
        rw [if_pos nk, if_neg k7, if_neg k7, if_neg (by omega), if_neg (by omega)]; exact ⟨rfl, h⟩
    · have nx : ¬ (((0 ≤ a ∧ a < C 1 1) ∧ 0 ≤ b ∧ b < C (3 + 7 * a) 1) ∧ 0 ≤ C (4 + 7 * a) b ∧ C (4 + 7 * a) b < C 1 3) := by
        rw [cb]; omega
      unfold v_x_hire v_n_hire u_x_hire u_n_hire
      rw [if_neg nx, if_pos G, if_neg nx, if_pos G, if_neg g0, if_neg g0]; exact ⟨rfl, h⟩
  · have nx : ¬ (((0 ≤ a ∧ a < C 1 1) ∧ 0 ≤ b ∧ b < C (3 + 7 * a) 1) ∧ 0 ≤ C (4 + 7 * a) b ∧ C (4 + 7 * a) b < C 1 3) := by
      rw [hn]
      rintro ⟨⟨q1, q2⟩, _⟩
      rw [h.f.dk a q1.1 (by omega)] at q2
      exact G ⟨q1, q2⟩
    unfold v_x_hire v_n_hire u_x_hire u_n_hire
    rw [if_neg nx, if_neg G, if_neg nx, if_neg G]; exact ⟨rfl, h⟩
