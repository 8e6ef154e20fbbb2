def y_dr (a w d : Int) (A : Int → Int → Int) : Int → Int → Int := (l_n_drop_a a w d 9 ((x_up A 163 (1597 + 12 * a) ((-1) + A 163 (1597 + 12 * a)))) 0).1
theorem P_dr {a w d : Int} {A : Int → Int → Int} (h8 : A 163 (1597 + 12 * a) ≤ 8) (k : Int) : y_dr a w d A 163 k = if 1598 + 12 * a ≤ k ∧ k < 1597 + 12 * a + A 163 (1597 + 12 * a) then A 163 (1 + k) else if k = 1597 + 12 * a then -1 + A 163 (1597 + 12 * a) else A 163 k := by
  unfold y_dr
  rw [P_ndr _ _ _ (by omega) (by rw [x_up_self]; omega), x_up_self]
  by_cases q : 1598 + 12 * a ≤ k ∧ k < 1597 + 12 * a + A 163 (1597 + 12 * a)
  · rw [if_pos q, if_pos (by omega), x_up_nk (by omega)]
  · rw [if_neg q, if_neg (by omega)]; simp only [x_up]; grind
theorem P_lg {c w n0 : Int} {C : Int → Int → Int} (hc : 0 ≤ c) (hn : C (149 + 2 * c) 6 = n0) (h8 : n0 ≤ 8) (a j : Int) (hne : ¬ (a = 149 + 2 * c ∧ j = 3)) : u_letFirstGo c w C a j = if a = 150 + 2 * c ∧ 0 ≤ j ∧ j < n0 - 1 then C a (1 + j) else if a = 149 + 2 * c ∧ j = 6 then -1 + n0 else C a j := by
  have P := fun a j => P_lfg (c := c) (w := w) 9 C 1 (by omega) (by omega) hc a j
  rw [hn] at P
  unfold u_letFirstGo
  rw [x_up_no hne]
  by_cases q : a = 149 + 2 * c ∧ j = 6
  · rw [if_neg (by omega), if_pos q, q.1, q.2, x_up_self, P, if_neg (by omega), hn]
  · rw [x_up_no q, P, if_neg q]
    by_cases q2 : a = 150 + 2 * c ∧ 0 ≤ j ∧ j < n0 - 1
    · rw [if_pos q2, if_pos (by omega)]
    · rw [if_neg q2, if_neg (by omega)]
theorem B_drop {C A : Int → Int → Int} (h : y_B C A) {c w d : Int} (hc : 0 ≤ c ∧ c < A 163 2) (h0 : 0 < A 163 (1597 + 12 * c)) (hwr : A 163 (1598 + 12 * c) = w) (hd : 0 ≤ d ∧ d + y_sz (A 163 (1114 + 8 * w)) ≤ A 163 (10 + 80 * A 163 (1595 + 12 * c))) (f0 : A 163 (11 + 80 * A 163 (1595 + 12 * c) + d) = -1) (f1 : A 163 (1114 + 8 * w) = 2 → A 163 (12 + 80 * A 163 (1595 + 12 * c) + d) = -1) : y_B (u_putInDock w (A 163 (1595 + 12 * c)) d (u_letFirstGo c w C)) (u_m_comes w (A 163 (1595 + 12 * c)) d (y_dr c w d A)) ∧ (u_putInDock w (A 163 (1595 + 12 * c)) d (u_letFirstGo c w C)) (88 + w) 5 = d := by
  have hn := h.i.n
  have hN := h.i.nc
  have hW := h.i.nw
  have kk := h.i.kk c hc.1 (by omega)
  have kl := h.i.kl c hc.1 (by omega) hc.2
  have kr := h.i.kr c 0 hc.1 (by omega) (by omega) (by omega) (by omega)
  rw [show 1598 + 12 * c + 0 = 1598 + 12 * c by omega, hwr] at kr
  have hw : 0 ≤ w ∧ w < A 163 1 := ⟨kr.1.1, kr.2.1⟩
  have hD := h.i.dk _ kl.2.1 (show A 163 (1595 + 12 * c) < 12 by omega) kl.2.2
  have q9 : d < 12 ∧ (A 163 (1114 + 8 * w) = 2 → d < 11) := by have := hd.2; unfold y_sz at this; split at this <;> omega
  have PA := fun k => P_dr (a := c) (w := w) (d := d) (A := A) kk.2.1 k
  have PC := fun a j => P_lg (c := c) (w := w) (C := C) hc.1 (h.f.k3 c hc.1 (by omega)) kk.2.1 a j
  have rl : ∀ k, k < 1594 → y_dr c w d A 163 k = A 163 k := fun k q => by rw [PA, if_neg (by omega), if_neg (by omega)]
  have F1 : y_F (u_letFirstGo c w C) (y_dr c w d A) := by
    refine ⟨FS_fr h.f.toy_FS (fun a k q1 q2 => by rw [PC _ _ (by omega), if_neg (by omega), if_neg (by omega)]) (fun k q1 q2 => rl k (by omega)), FW_fr h.f.toy_FW (fun a k q1 q2 q3 => by rw [PC _ _ (by omega), if_neg (by omega), if_neg (by omega)]) (fun k q1 q2 q3 => rl k q2), ?_⟩
    refine ⟨fun v v0 v1 => ?_, fun v v0 v1 => ?_, fun v v0 v1 => ?_, fun v v0 v1 => ?_, fun v k v0 v1 k0 k1 => ?_⟩
    · rw [PC _ _ (by omega), if_neg (by omega), if_neg (by omega), PA, if_neg (by omega), if_neg (by omega)]; exact h.f.k0 v v0 v1
    · rw [PC _ _ (by omega), if_neg (by omega), if_neg (by omega), PA, if_neg (by omega), if_neg (by omega)]; exact h.f.k1 v v0 v1
    · rw [PC _ _ (by omega), if_neg (by omega), if_neg (by omega), PA, if_neg (by omega), if_neg (by omega)]; exact h.f.k2 v v0 v1
    · by_cases q : v = c
      · rw [PC _ _ (by omega), if_neg (by omega), if_pos (by omega), PA, if_neg (by omega), if_pos (by omega)]
      · rw [PC _ _ (by omega), if_neg (by omega), if_neg (by omega), PA, if_neg (by omega), if_neg (by omega)]; exact h.f.k3 v v0 v1
    · rw [PC _ _ (by omega), PA]
      by_cases q : v = c ∧ k < A 163 (1597 + 12 * c) - 1
      · rw [if_pos (by omega), if_pos (by omega), show 1 + (1598 + 12 * v + k) = 1598 + 12 * v + (1 + k) by omega]; exact h.f.kr v (1 + k) v0 v1 (by omega) (by omega)
      · rw [if_neg (by omega), if_neg (by omega), if_neg (by omega), if_neg (by omega)]; exact h.f.kr v k v0 v1 k0 k1
  have X1 : y_IX (y_dr c w d A) w (-1) := X_rec (X_open (X_of h.i) hw.1 (by omega)) ⟨hw.1, by omega⟩ (fun k q1 _ => rl k q1) (fun _ => by rw [rl _ (by omega), rl _ (by omega), rl _ (by omega)]; exact h.i.kd w hw.1 (by omega) hw.2) (by rw [rl _ (by omega)]; exact h.i.bk w hw.1 (by omega))
  have e0 := rl 0 (by omega)
  have e1 := rl 1 (by omega)
  have ek := rl (1114 + 8 * w) (by omega)
  have ed := rl (10 + 80 * A 163 (1595 + 12 * c)) (by omega)
  have X2 := X_comes (w := w) (c := -1) (s0 := A 163 (1595 + 12 * c)) (d0 := d) X1 (by rw [e1]; exact hw) (by omega) (by rw [e0]; exact kl.2) (by rw [ek, ed]; exact hd) (by rw [rl _ (by omega)]; exact f0) (fun z => by rw [ek] at z; have := q9.2 z; rw [rl _ (by omega)]; exact f1 z)
  have F2 := F_comes (w := w) (s := A 163 (1595 + 12 * c)) (d := d) F1 ⟨hw.1, by omega⟩ ⟨kl.2.1, by omega⟩ (by rw [ek, ed]; exact hd) (by rw [ed]; exact hD.2)
  have Q := fun k => P_comes (A := y_dr c w d A) (w := w) (s := A 163 (1595 + 12 * c)) (d := d) 163 k
  rw [ek] at Q
  have r : ∀ k, (k < 11 ∨ 970 ≤ k ∨ (k - 10) % 80 = 0 ∨ 13 ≤ (k - 10) % 80) → k < 1594 → ¬ (1116 + 8 * w ≤ k ∧ k < 1119 + 8 * w) → u_m_comes w (A 163 (1595 + 12 * c)) d (y_dr c w d A) 163 k = A 163 k := fun k q q1 q2 => by
    rw [Q, if_neg (by omega), if_neg (by omega), if_neg (by omega), if_neg (by omega)]; exact rl k q1
  have rk : ∀ k, 1594 ≤ k → u_m_comes w (A 163 (1595 + 12 * c)) d (y_dr c w d A) 163 k = y_dr c w d A 163 k := fun k q => by
    rw [Q, if_neg (by omega), if_neg (by omega), if_neg (by omega), if_neg (by omega)]
  have dk := h.f.dk _ kl.2.1 (show A 163 (1595 + 12 * c) < 12 by omega)
  have k0 := F1.w0 w hw.1 (by omega)
  have eC : u_putInDock w (A 163 (1595 + 12 * c)) d (u_letFirstGo c w C) = u_moveTo w 0 (A 163 (1595 + 12 * c)) d (if A 163 (1114 + 8 * w) = 2 then x_up (x_up (u_letFirstGo c w C) (4 + 7 * A 163 (1595 + 12 * c)) d w) (4 + 7 * A 163 (1595 + 12 * c)) (1 + d) w else x_up (u_letFirstGo c w C) (4 + 7 * A 163 (1595 + 12 * c)) d w) := by
    unfold u_putInDock
    rw [k0, ek, F_fill hd.1 (by rw [PC _ _ (by omega), if_neg (by omega), if_neg (by omega), dk]; exact hd.2)]
  refine ⟨Bx_to ⟨F2, ?_, X2, ?_, ?_⟩ (PA_fr h.i.toy_IW hw hW.2 (by omega) (r 1 (by omega) (by omega) (by omega)) (fun k q1 q2 q3 _ _ => r k (by omega) q2 q3)), ?_⟩
  · exact IS_fr h.i.toy_IS (by rw [r 1 (by omega) (by omega) (by omega)]; exact hW) (fun k q1 q2 q3 q4 => r k (by omega) (by omega) (by omega))
  · refine ⟨fun v v0 v1 v2 => ?_, fun v v0 v1 => ?_, fun v k v0 v1 g0 g1 g2 => ?_, fun v k l v0 v1 g0 g1 g2 g3 => ?_⟩
    · rw [r 2 (by omega) (by omega) (by omega)] at v2
      rw [rk _ (by omega), rk _ (by omega), PA, PA, if_neg (by omega), if_neg (by omega), if_neg (by omega), if_neg (by omega), r 0 (by omega) (by omega) (by omega)]; exact h.i.kl v v0 v1 v2
    · have e := h.i.kk v v0 v1
      rw [rk _ (by omega), PA, if_neg (by omega), r 2 (by omega) (by omega) (by omega)]
      by_cases q : v = c
      · subst q; rw [if_pos rfl]; omega
      · rw [if_neg (by omega)]; exact e
    · rw [rk _ (by omega), PA, if_neg (by omega)] at g2
      rw [rk _ (by omega), PA, r 1 (by omega) (by omega) (by omega)]
      by_cases q : v = c
      · subst q
        rw [if_pos rfl] at g2
        have e := h.i.kr v (1 + k) v0 v1 (by omega) (by omega) (by omega)
        have ne := h.i.ki v 0 (1 + k) v0 v1 (by omega) (by omega) (by omega) (by omega)
        rw [show 1598 + 12 * v + 0 = 1598 + 12 * v by omega, hwr] at ne
        rw [if_pos (by omega), show 1 + (1598 + 12 * v + k) = 1598 + 12 * v + (1 + k) by omega, r (1116 + 8 * A 163 (1598 + 12 * v + (1 + k))) (by omega) (by omega) (by omega), r (1117 + 8 * A 163 (1598 + 12 * v + (1 + k))) (by omega) (by omega) (by omega)]
        exact e
      · rw [if_neg (by omega)] at g2
        have e := h.i.kr v k v0 v1 g0 g1 g2
        have ne : A 163 (1598 + 12 * v + k) ≠ w := by intro z; rw [z] at e; omega
        rw [if_neg (by omega), if_neg (by omega), r (1116 + 8 * A 163 (1598 + 12 * v + k)) (by omega) (by omega) (by omega), r (1117 + 8 * A 163 (1598 + 12 * v + k)) (by omega) (by omega) (by omega)]
        exact e
    · rw [rk _ (by omega), PA, if_neg (by omega)] at g3
      rw [rk _ (by omega), rk _ (by omega), PA, PA]
      by_cases q : v = c
      · subst q
        rw [if_pos rfl] at g3
        have e := h.i.ki v (1 + k) (1 + l) v0 v1 (by omega) (by omega) (by omega) (by omega)
        rw [if_pos (by omega), if_pos (by omega), show 1 + (1598 + 12 * v + k) = 1598 + 12 * v + (1 + k) by omega, show 1 + (1598 + 12 * v + l) = 1598 + 12 * v + (1 + l) by omega]; exact e
      · rw [if_neg (by omega)] at g3
        rw [if_neg (by omega), if_neg (by omega), if_neg (by omega), if_neg (by omega)]; exact h.i.ki v k l v0 v1 g0 g1 g2 g3
  · intro v v0 v1
    have e := h.t v v0 v1
    have kd : ∀ x, 0 ≤ x → x < 60 → u_m_comes w (A 163 (1595 + 12 * c)) d (y_dr c w d A) 163 (1114 + 8 * x) = A 163 (1114 + 8 * x) := fun x x0 x1 => r _ (by omega) (by omega) (by omega)
    have cc : ∀ a j, 149 ≤ a → (u_putInDock w (A 163 (1595 + 12 * c)) d (u_letFirstGo c w C)) a j = u_letFirstGo c w C a j := fun a j q => by
      rw [eC]
      unfold u_moveTo
      rw [x_up_ne (by omega), x_up_ne (by omega), x_up_ne (by omega)]
      split
      · rw [x_up_ne (by omega), x_up_ne (by omega)]
      · rw [x_up_ne (by omega)]
    rw [cc _ _ (by omega), r 2 (by omega) (by omega) (by omega), rk _ (by omega), PA (1594 + 12 * v), if_neg (by omega), if_neg (by omega)]
    by_cases q : v = c
    · subst q
      have key : ∀ k, 0 ≤ k → k < 8 → y_s1 (u_m_comes w (A 163 (1595 + 12 * v)) d (y_dr v w d A)) v k = if k = 7 then 0 else y_s1 A v (1 + k) := fun k g0 g1 => by
        unfold y_s1
        have cnt : u_m_comes w (A 163 (1595 + 12 * v)) d (y_dr v w d A) 163 (1597 + 12 * v) = -1 + A 163 (1597 + 12 * v) := by rw [rk _ (by omega), PA, if_neg (by omega), if_pos rfl]
        rw [cnt]
        by_cases z : k < -1 + A 163 (1597 + 12 * v)
        · have e := h.i.kr v (1 + k) v0 v1 (by omega) (by omega) (by omega)
          have row : u_m_comes w (A 163 (1595 + 12 * v)) d (y_dr v w d A) 163 (1598 + 12 * v + k) = A 163 (1598 + 12 * v + (1 + k)) := by rw [rk _ (by omega), PA, if_pos (by omega), show 1 + (1598 + 12 * v + k) = 1598 + 12 * v + (1 + k) by omega]
          rw [if_pos z, if_neg (show ¬ k = 7 by omega), if_pos (show 1 + k < A 163 (1597 + 12 * v) by omega), row, kd _ e.1.1 e.1.2]
        · rw [if_neg z]
          split
          · rfl
          · rw [if_neg (show ¬ 1 + k < A 163 (1597 + 12 * v) by omega)]
      have s0 : y_s1 A v 0 = y_sz (A 163 (1114 + 8 * w)) := by
        unfold y_s1
        rw [if_pos h0, show 1598 + 12 * v + 0 = 1598 + 12 * v by omega, hwr]
      have tk : y_tk (u_m_comes w (A 163 (1595 + 12 * v)) d (y_dr v w d A)) v = y_tk A v - y_sz (A 163 (1114 + 8 * w)) := by
        unfold y_tk
        rw [key 0 (by omega) (by omega), key 1 (by omega) (by omega), key 2 (by omega) (by omega), key 3 (by omega) (by omega), key 4 (by omega) (by omega), key 5 (by omega) (by omega), key 6 (by omega) (by omega), key 7 (by omega) (by omega), ← s0]
        simp only [show (1 : Int) + 0 = 1 by omega, show (1 : Int) + 1 = 2 by omega, show (1 : Int) + 2 = 3 by omega, show (1 : Int) + 3 = 4 by omega, show (1 : Int) + 4 = 5 by omega, show (1 : Int) + 5 = 6 by omega, show (1 : Int) + 6 = 7 by omega]
        rw [if_neg (by omega), if_neg (by omega), if_neg (by omega), if_neg (by omega), if_neg (by omega), if_neg (by omega), if_neg (by omega), if_pos trivial]
        omega
      have t := tk_cnt (A := A) (c := v) ⟨kk.1, kk.2.1⟩
      have z := y_sz_in (A 163 (1114 + 8 * w))
      have e3 : u_letFirstGo v w C (149 + 2 * v) 3 = y_tk A v - y_sz (A 163 (1114 + 8 * w)) := by
        have PL := fun a j => P_lfg (c := v) (w := w) 9 C 1 (by omega) (by have := h.f.k3 v v0 v1; omega) v0 a j
        unfold u_letFirstGo
        rw [x_up_self, PL, if_neg (by omega), x_up_ne (by omega), PL, if_neg (by omega), e.1, h.f.w0 w hw.1 (by omega), x_wn (w := y_tk A v - y_sz (A 163 (1114 + 8 * w))) ⟨rfl, by omega, by omega⟩]
      rw [tk, e3]
      exact ⟨rfl, fun q => by have := e.2 q; omega⟩
    · have tk : y_tk (u_m_comes w (A 163 (1595 + 12 * c)) d (y_dr c w d A)) v = y_tk A v := tk_fr (by rw [rk _ (by omega), PA, if_neg (by omega), if_neg (by omega)]) (fun k g0 g1 g2 => by
        have e := h.i.kr v k v0 v1 g0 g1 g2
        exact ⟨by rw [rk _ (by omega), PA, if_neg (by omega), if_neg (by omega)], kd _ e.1.1 e.1.2⟩)
      rw [tk, PC _ _ (by omega), if_neg (by omega), if_neg (by omega)]; exact e
  · rw [eC]; unfold u_moveTo; rw [x_up_self]
