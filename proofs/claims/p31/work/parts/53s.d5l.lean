theorem O_drop {C A : Int → Int → Int} (h : y_B C A) (a : Int) : v_x_drop a C = v_n_drop a A ∧ y_B (u_x_drop a C) (u_n_drop a A) := by
  have hn := h.i.n
  have hc := h.f.nc
  have hC := h.i.nc
  have hw := h.f.nw
  have hW := h.i.nw
  by_cases ca : 0 ≤ a ∧ a < A 163 2
  · have k1 := h.f.k1 a ca.1 (by omega)
    have k3 := h.f.k3 a ca.1 (by omega)
    have r0 := h.f.kr a 0 ca.1 (by omega) (by omega) (by omega)
    have kl := h.i.kl a ca.1 (by omega) ca.2
    have kk := h.i.kk a ca.1 (by omega)
    have wo : v_wheelOn a 0 C = if A 163 (1597 + 12 * a) ≤ 0 then -1 else A 163 (1598 + 12 * a) := by
      unfold v_wheelOn
      rw [if_neg (by omega), k3]
      split
      · rfl
      · rw [if_neg (by omega), r0, show 1598 + 12 * a + 0 = 1598 + 12 * a by omega]
    unfold v_x_drop v_n_drop u_x_drop u_n_drop
    rw [hc, if_pos ca, if_pos ca, if_pos ca, if_pos ca, wo, hw]
    by_cases z : A 163 (1597 + 12 * a) = 0
    · have nz : ¬ ¬ A 163 (1597 + 12 * a) = 0 := by omega
      rw [if_pos (show A 163 (1597 + 12 * a) ≤ 0 by omega), if_neg nz, if_neg nz, if_neg (by omega), if_neg (by omega)]; exact ⟨rfl, h⟩
    · have kr := h.i.kr a 0 ca.1 (by omega) (by omega) (by omega) (by omega)
      rw [show 1598 + 12 * a + 0 = 1598 + 12 * a by omega] at kr
      rw [if_neg (show ¬ A 163 (1597 + 12 * a) ≤ 0 by omega), if_pos z, if_pos z]
      rw [if_neg (show ¬ A 163 (1597 + 12 * a) ≤ 0 by omega)] at wo
      generalize hwr : A 163 (1598 + 12 * a) = w at *
      have g : 0 ≤ w ∧ w < A 163 1 := ⟨kr.1.1, kr.2.1⟩
      rw [if_pos g, if_pos g]
      have hD := h.i.dk _ kl.2.1 (show A 163 (1595 + 12 * a) < 12 by omega) kl.2.2
      have R := F_room h.f (s := A 163 (1595 + 12 * a)) (kd := A 163 (1114 + 8 * w)) kl.2 hn.2 hD.2
      have Q := A_room (A := A) (s := A 163 (1595 + 12 * a)) (kd := A 163 (1114 + 8 * w)) ⟨by omega, hD.2⟩
      unfold v_giveFirst u_giveFirst
      rw [k1, h.f.n, if_pos kl.2, if_pos kl.2, h.f.w0 w g.1 (by omega), R, wo]
      generalize v_m_room (A 163 (1114 + 8 * w)) (A 163 (1595 + 12 * a)) A = d at *
      rcases Q with q | q
      · rw [if_pos q, if_pos q, if_neg (show ¬ 0 ≤ d by omega), if_neg (show ¬ 0 ≤ d by omega)]
        exact ⟨rfl, h⟩
      · rw [if_neg (show ¬ d = -1 by omega), if_neg (show ¬ d = -1 by omega), if_pos q.1, if_pos q.1, if_pos rfl, if_pos rfl, if_pos (show ¬ (1 : Int) = 0 by omega), if_pos (show ¬ (1 : Int) = 0 by omega)]
        have B := B_drop h (c := a) (w := w) (d := d) ca (by omega) hwr ⟨q.1, q.2.1⟩ q.2.2.1 q.2.2.2
        refine ⟨B.2, ?_⟩
        have e5 : (y_dr a w d A) 163 (1595 + 12 * a) = A 163 (1595 + 12 * a) := by rw [P_dr kk.2.1, if_neg (by omega), if_neg (by omega)]
        unfold y_dr at e5
        rw [e5]
        exact B_dbt B.1 (fun c k q => x_up_no (by omega)) (fun k q => x_up_nk (by omega))
  · unfold v_x_drop v_n_drop u_x_drop u_n_drop
    rw [hc, if_neg ca, if_neg ca, if_neg ca, if_neg ca]; exact ⟨rfl, h⟩
