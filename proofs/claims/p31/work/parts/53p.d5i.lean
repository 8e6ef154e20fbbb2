theorem e_clear {C A : Int → Int → Int} {w : Int} (F : y_F C A) (X : y_IX A (-1) (-1)) (hw : 0 ≤ w ∧ w < A 163 1) (hp : A 163 (1116 + 8 * w) = 0) (a k : Int) (q : a < 4 ∨ 88 ≤ a) : u_clearDock w C a k = C a k := by
  have hn := X.n
  have hN := X.nw
  have D := X_dock X hw (by omega) hp
  have k0 := F.w0 w hw.1 (by omega)
  have k2 := F.w2 w hw.1 (by omega)
  have k3 := F.w3 w hw.1 (by omega)
  have k4 := F.w4 w hw.1 (by omega)
  rw [if_neg (by omega)] at k3 k4
  have dk := F.dk _ D.1.1 (show A 163 (1117 + 8 * w) < 12 by omega)
  unfold u_clearDock
  rw [k3, F.n, if_pos D.1, k2, if_neg (by omega), k0, k4, F_fill D.2.1.1 (by rw [dk]; exact D.2.1.2)]
  split
  · rw [x_up_ne (by omega), x_up_ne (by omega)]
  · rw [x_up_ne (by omega)]
theorem B_pick {C A : Int → Int → Int} (h : y_B C A) {w c : Int} (hc : 0 ≤ c ∧ c < A 163 2) (hw : 0 ≤ w ∧ w < A 163 1) (hp : A 163 (1116 + 8 * w) = 0) (hl : y_tk A c + y_sz (A 163 (1114 + 8 * w)) ≤ A 163 (1594 + 12 * c)) : y_B (u_takeOn c w (u_clearDock w C)) (u_m_climbs c w (u_m_leaves w A)) := by
  have hn := h.i.n
  have hN := h.i.nc
  have hW := h.i.nw
  have X := X_of h.i
  have D := X_dock X hw (by omega) hp
  have RL := R_leaves X hw hp
  have F1 := F_leaves h.f ⟨hw.1, by omega⟩ hp D.1 hn.2 D.2.1 D.2.2
  have X1 := X_sw (X_leaves X hw (by omega) hp)
  have S1 : y_IS (u_m_leaves w A) := IS_fr h.i.toy_IS (by rw [RL 1 (by omega)]; exact hW) (fun k q1 q2 q3 q4 => RL k (by omega))
  have K1 : y_IK (u_m_leaves w A) := IK_fr h.i.toy_IK (RL 0 (by omega)) (by rw [RL 1 (by omega)]; omega) (RL 2 (by omega)) (fun k q1 q2 => RL k (by omega)) (fun v q1 q2 q3 q4 => ⟨by rw [RL _ (by omega)]; exact q4, RL _ (by omega)⟩)
  have T1 : y_FT (u_clearDock w C) (u_m_leaves w A) := FT_fr h.t h.i.toy_IK (fun c q1 q2 => e_clear h.f X hw hp _ _ (by omega)) (RL 2 (by omega)) (fun k q1 q2 => RL k (by omega)) (fun v q1 q2 q3 => RL _ (by omega))
  have tk : y_tk (u_m_leaves w A) c = y_tk A c := tk_fr (RL _ (by omega)) (fun k k0 k1 k2 => ⟨RL _ (by omega), RL _ (by have := h.i.kr c k hc.1 (by omega) k0 k1 k2; omega)⟩)
  have kk := K1.kk c hc.1 (by omega)
  have r := R_climb (A := u_m_leaves w A) (w := w) (c := c) hc.1 kk.1
  have e1 := RL 1 (by omega)
  have e2 := RL 2 (by omega)
  refine Bx_to (C_climb F1 S1 X1 K1 T1 (by rw [e2]; exact hc) (by rw [e1]; exact hw) (by rw [RL _ (by omega)]; omega) (by rw [tk, RL _ (by omega), RL _ (by omega)]; exact hl)) (PA_fr h.i.toy_IW hw hW.2 (by omega) ((r 1 (by omega) (by omega)).trans e1) (fun k q1 q2 q3 _ _ => (r k q2 q3).trans (RL k (by omega))))
theorem O_pick {C A : Int → Int → Int} (h : y_B C A) (a b : Int) : v_x_pick a b C = v_n_pick a b A ∧ y_B (u_x_pick a b C) (u_n_pick a b A) := by
  have hn := h.f.n
  have hN := h.i.n
  have hc := h.f.nc
  have hC := h.i.nc
  have hw := h.f.nw
  have hW := h.i.nw
  by_cases ca : 0 ≤ a ∧ a < A 163 2
  · have k1 := h.f.k1 a ca.1 (by omega)
    have kl := h.i.kl a ca.1 (by omega) ca.2
    have kk := h.i.kk a ca.1 (by omega)
    have kt := (h.t a ca.1 (by omega)).2 ca.2
    unfold v_x_pick v_n_pick u_x_pick u_n_pick
    rw [hc, if_pos ca, if_pos ca, if_pos ca, if_pos ca, k1, hn, hw]
    generalize A 163 (1595 + 12 * a) = s at *
    have dk := h.f.dk s kl.2.1 (by omega)
    have hD := h.i.dk s kl.2.1 (by omega) kl.2.2
    rw [dk]
    by_cases cb : 0 ≤ b ∧ b < A 163 (10 + 80 * s)
    · have ct := h.f.ct s b kl.2.1 (by omega) cb.1 (by omega) cb.2
      have cr := h.i.cr s b kl.2.1 (by omega) cb.1 (by omega) kl.2.2 cb.2
      rw [ct]
      by_cases g : A 163 (11 + 80 * s + b) < 0
      · have n1 : ¬ (((0 ≤ s ∧ s < A 163 0) ∧ 0 ≤ b ∧ b < A 163 (10 + 80 * s)) ∧ 0 ≤ A 163 (11 + 80 * s + b) ∧ A 163 (11 + 80 * s + b) < A 163 1) := by omega
        have n2 : (0 ≤ s ∧ s < A 163 0) ∧ 0 ≤ b ∧ b < A 163 (10 + 80 * s) := ⟨kl.2, cb⟩
        rw [if_neg n1, if_neg n1, if_pos n2, if_pos n2, if_pos g, if_pos g]; exact ⟨rfl, h⟩
      · have n1 : (((0 ≤ s ∧ s < A 163 0) ∧ 0 ≤ b ∧ b < A 163 (10 + 80 * s)) ∧ 0 ≤ A 163 (11 + 80 * s + b) ∧ A 163 (11 + 80 * s + b) < A 163 1) := ⟨⟨kl.2, cb⟩, by omega, cr.2⟩
        have n2 : (0 ≤ s ∧ s < A 163 0) ∧ 0 ≤ b ∧ b < A 163 (10 + 80 * s) := ⟨kl.2, cb⟩
        have cc := h.i.ct s b _ kl.2.1 (by omega) cb.1 (by omega) (by omega) (by omega) kl.2.2 cb.2 rfl
        rw [if_pos n1, if_pos n1, if_pos n2, if_pos n2, if_neg g, if_neg g]
        generalize A 163 (11 + 80 * s + b) = w at *
        have hww : 0 ≤ w ∧ w < A 163 1 := ⟨by omega, cr.2⟩
        have R := F_room2 h.f h.i.toy_IK h.t hC.2 hW.2 ca hww
        have Q := P_allows (A := A) (c := a) (w := w) ⟨kk.1, kk.2.1⟩
        by_cases l : y_tk A a + y_sz (A 163 (1114 + 8 * w)) ≤ A 163 (1594 + 12 * a)
        · have l2 := R.mpr l
          unfold u_takeFromDock
          rw [if_pos l2, if_pos l2, if_pos (Q.mpr l), if_pos (Q.mpr l), if_pos l2]
          exact ⟨rfl, B_pick h ca hww cc.1 l⟩
        · have l2 : ¬ _ := fun z => l (R.mp z)
          have l3 : ¬ _ := fun z => l (Q.mp z)
          rw [if_neg l2, if_neg l2, if_neg l3, if_neg l3]; exact ⟨rfl, h⟩
    · have n1 : ¬ (((0 ≤ s ∧ s < A 163 0) ∧ 0 ≤ b ∧ b < A 163 (10 + 80 * s)) ∧ 0 ≤ C (4 + 7 * s) b ∧ C (4 + 7 * s) b < A 163 1) := fun z => cb z.1.2
      have n2 : ¬ ((0 ≤ s ∧ s < A 163 0) ∧ 0 ≤ b ∧ b < A 163 (10 + 80 * s)) := fun z => cb z.2
      rw [if_neg n1, if_neg n1, if_neg n2, if_neg n2]; exact ⟨rfl, h⟩
  · unfold v_x_pick v_n_pick u_x_pick u_n_pick
    rw [hc, if_neg ca, if_neg ca, if_neg ca, if_neg ca]; exact ⟨rfl, h⟩
theorem O_load {C A : Int → Int → Int} (h : y_B C A) (a b : Int) : v_x_load a b C = v_n_load a b A := by
  have hc := h.f.nc
  have hC := h.i.nc
  unfold v_x_load v_n_load v_wheelOn
  rw [hc]
  by_cases ca : 0 ≤ a ∧ a < A 163 2
  · have kk := h.i.kk a ca.1 (by omega)
    rw [if_pos ca, if_pos ca, h.f.k0 a ca.1 (by omega), h.f.k1 a ca.1 (by omega), h.f.k2 a ca.1 (by omega), h.f.k3 a ca.1 (by omega), (h.t a ca.1 (by omega)).1, P_taken ⟨kk.1, kk.2.1⟩]
    have e := h.f.kr a (-4 + b) ca.1 (by omega)
    grind
  · rw [if_neg ca, if_neg ca]
