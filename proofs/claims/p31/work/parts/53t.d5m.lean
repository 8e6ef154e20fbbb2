/-! END: arriving -/
theorem room_cg {C C2 : Int → Int → Int} {s n : Int} (e1 : C2 (3 + 7 * s) 1 = C (3 + 7 * s) 1) (e2 : ∀ d, C2 (4 + 7 * s) d = C (4 + 7 * s) d) : ∀ (k : Nat) (d : Int), w_roomFor_a s n C2 k d = w_roomFor_a s n C k d := by
  intro k
  induction k with
  | zero => intro d; rfl
  | succ k ih => intro d; rw [w_roomFor_a, w_roomFor_a, e1, e2, e2, ih]
theorem arr0 {C A : Int → Int → Int} (h : y_F C A) {w s c : Int} (hw : 0 ≤ w ∧ w < 60) (hs : 0 ≤ s ∧ s < A 163 0) (hn : A 163 0 ≤ 12) (hd : 0 ≤ A 163 (10 + 80 * s) ∧ A 163 (10 + 80 * s) ≤ 12) (hc : c < 0) : (v_docksBoth0 w s C = 0 ∧ v_m_arrives w c s A = 0 ∧ u_docksBoth0 w s C = x_up C (3 + 7 * s) 7 (x_w (1 + C (3 + 7 * s) 7)) ∧ u_m_arrives w c s A = A) ∨ (v_docksBoth0 w s C = 1 ∧ v_m_arrives w c s A = 1 ∧ ∃ d, (0 ≤ d ∧ d + y_sz (A 163 (1114 + 8 * w)) ≤ A 163 (10 + 80 * s)) ∧ A 163 (11 + 80 * s + d) = -1 ∧ (A 163 (1114 + 8 * w) = 2 → A 163 (12 + 80 * s + d) = -1) ∧ u_docksBoth0 w s C = u_putInDock w s d C ∧ u_m_arrives w c s A = u_m_comes w s d A) := by
  have R := F_room h (s := s) (kd := A 163 (1114 + 8 * w)) hs hn hd.2
  have Q := A_room (A := A) (s := s) (kd := A 163 (1114 + 8 * w)) hd
  have k0 := h.w0 w hw.1 hw.2
  unfold v_docksBoth0 v_m_arrives u_docksBoth0 u_m_arrives
  rw [k0, R]
  generalize v_m_room (A 163 (1114 + 8 * w)) s A = d at *
  rcases Q with q | q
  · left
    have n1 : ¬ ¬ d = -1 := by omega
    have n2 : ¬ 0 ≤ d := by omega
    simp only [if_neg n1, if_neg n2]
    exact ⟨trivial, trivial, trivial, trivial⟩
  · right
    have n1 : ¬ d = -1 := by omega
    have n3 : ¬ 0 ≤ c := by omega
    simp only [if_pos n1, if_pos q.1, if_neg n3, if_pos hc]
    exact ⟨trivial, trivial, d, ⟨q.1, q.2.1⟩, q.2.2.1, q.2.2.2, rfl, rfl⟩
theorem back_A {A : Int → Int → Int} {w s d : Int} (hw : 0 ≤ w) (hs : 0 ≤ s ∧ s < 12) (hd : 0 ≤ d ∧ d < 12) (hd2 : A 163 (1114 + 8 * w) = 2 → d < 11) (f0 : A 163 (11 + 80 * s + d) = -1) (f1 : A 163 (1114 + 8 * w) = 2 → A 163 (12 + 80 * s + d) = -1) (p2 : A 163 (1116 + 8 * w) = 2) (p4 : A 163 (1118 + 8 * w) = -1) : x_up (x_up (x_up (u_m_leaves w (u_m_comes w s d A)) 163 (1116 + 8 * w) 2) 163 (1117 + 8 * w) (A 163 (1117 + 8 * w))) 163 (1118 + 8 * w) (-1) = A := by
  funext c k
  have Q := fun k => P_comes (A := A) (w := w) (s := s) (d := d) 163 k
  have q3 : (u_m_comes w s d A) 163 (1117 + 8 * w) = s := by rw [Q, if_neg (by omega), if_pos (by omega)]
  have q4 : (u_m_comes w s d A) 163 (1118 + 8 * w) = d := by rw [Q, if_pos (by omega)]
  have q0 : (u_m_comes w s d A) 163 (1114 + 8 * w) = A 163 (1114 + 8 * w) := by rw [Q, if_neg (by omega), if_neg (by omega), if_neg (by omega), if_neg (by omega)]
  by_cases hc : c = 163
  · subst hc
    simp only [x_up]
    rw [P_leaves, q3, q4, q0, Q]
    clear Q
    by_cases z4 : k = 1118 + 8 * w
    · subst z4; rw [if_pos ⟨trivial, rfl⟩]; exact p4.symm
    rw [if_neg (by omega)]
    by_cases z3 : k = 1117 + 8 * w
    · subst z3; rw [if_pos ⟨trivial, rfl⟩]
    rw [if_neg (by omega)]
    by_cases z2 : k = 1116 + 8 * w
    · subst z2; rw [if_pos ⟨trivial, rfl⟩]; exact p2.symm
    rw [if_neg (by omega)]
    by_cases z : k = 11 + 80 * s + d ∨ (A 163 (1114 + 8 * w) = 2 ∧ k = 12 + 80 * s + d)
    · rw [if_pos ⟨rfl, z⟩]
      rcases z with z | ⟨z1, z⟩
      · rw [z]; exact f0.symm
      · rw [z]; exact (f1 z1).symm
    · rw [if_neg (fun h => z h.2), if_neg (by omega), if_neg (by omega), if_neg (by omega), if_neg (fun h => z h.2)]
  · rw [x_up_ne hc, x_up_ne hc, x_up_ne hc, P_leaves, if_neg (fun h => hc h.1), P_comes, if_neg (fun h => hc h.1), if_neg (fun h => hc h.1), if_neg (fun h => hc h.1), if_neg (fun h => hc h.1)]
theorem sw_docks {C : Int → Int → Int} {w c s d e kd : Int} (hw : 0 ≤ w) (hc : 0 ≤ c) (hwc : w ≠ c) (hs : 0 ≤ s ∧ s < 12) (ed : e ≠ d) (ed2 : kd = 2 → e ≠ 1 + d) : u_moveTo w 0 s d (if kd = 2 then x_up (x_up (u_moveTo c 0 s e (x_up (if kd = 2 then x_up (x_up C (4 + 7 * s) d w) (4 + 7 * s) (1 + d) w else x_up C (4 + 7 * s) d w) (4 + 7 * s) e c)) (4 + 7 * s) d w) (4 + 7 * s) (1 + d) w else x_up (u_moveTo c 0 s e (x_up (if kd = 2 then x_up (x_up C (4 + 7 * s) d w) (4 + 7 * s) (1 + d) w else x_up C (4 + 7 * s) d w) (4 + 7 * s) e c)) (4 + 7 * s) d w) = u_moveTo c 0 s e (x_up (u_moveTo w 0 s d (if kd = 2 then x_up (x_up C (4 + 7 * s) d w) (4 + 7 * s) (1 + d) w else x_up C (4 + 7 * s) d w)) (4 + 7 * s) e c) := by
  unfold u_moveTo
  by_cases z : kd = 2
  · have := ed2 z
    simp only [if_pos z]
    funext a k
    simp only [x_up]
    grind (splits := 24)
  · simp only [if_neg z]
    funext a k
    simp only [x_up]
    grind (splits := 24)
theorem arr1 {C A : Int → Int → Int} (h : y_F C A) {w s c : Int} (hw : 0 ≤ w ∧ w < 60) (hc : 0 ≤ c ∧ c < 60) (hwc : w ≠ c) (hs : 0 ≤ s ∧ s < A 163 0) (hn : A 163 0 ≤ 12) (hd : 0 ≤ A 163 (10 + 80 * s) ∧ A 163 (10 + 80 * s) ≤ 12) (kc : A 163 (1114 + 8 * c) = 3) (p2 : A 163 (1116 + 8 * w) = 2) (p4 : A 163 (1118 + 8 * w) = -1) : (v_docksBoth1 w c s C = 0 ∧ v_m_arrives w c s A = 0 ∧ u_docksBoth1 w c s C = x_up C (3 + 7 * s) 7 (x_w (1 + C (3 + 7 * s) 7)) ∧ u_m_arrives w c s A = A) ∨ (v_docksBoth1 w c s C = 1 ∧ v_m_arrives w c s A = 1 ∧ ∃ d e, (0 ≤ d ∧ d + y_sz (A 163 (1114 + 8 * w)) ≤ A 163 (10 + 80 * s)) ∧ A 163 (11 + 80 * s + d) = -1 ∧ (A 163 (1114 + 8 * w) = 2 → A 163 (12 + 80 * s + d) = -1) ∧ (0 ≤ e ∧ e + 1 ≤ A 163 (10 + 80 * s)) ∧ (u_m_comes w s d A) 163 (11 + 80 * s + e) = -1 ∧ u_docksBoth1 w c s C = u_putInDock c s e (u_putInDock w s d C) ∧ u_m_arrives w c s A = u_m_comes c s e (u_m_comes w s d A)) := by
  have R := F_room h (s := s) (kd := A 163 (1114 + 8 * w)) hs hn hd.2
  have Q := A_room (A := A) (s := s) (kd := A 163 (1114 + 8 * w)) hd
  have k0 := h.w0 w hw.1 hw.2
  have kc0 := h.w0 c hc.1 hc.2
  have dk := h.dk s hs.1 (by omega)
  have nc : ¬ c < 0 := by omega
  unfold v_docksBoth1 v_m_arrives u_docksBoth1 u_m_arrives
  rw [k0, R]
  generalize v_m_room (A 163 (1114 + 8 * w)) s A = d at *
  rcases Q with q | q
  · left
    have n1 : ¬ ¬ d = -1 := by omega
    have n2 : ¬ 0 ≤ d := by omega
    simp only [if_neg n1, if_neg n2]
    exact ⟨trivial, trivial, trivial, trivial⟩
  obtain ⟨d0, d1, f0, f1⟩ := q
  have n1 : ¬ d = -1 := by omega
  have q9 : d < 12 ∧ (A 163 (1114 + 8 * w) = 2 → d < 11) := by have := d1; unfold y_sz at this; split at this <;> omega
  have F1 := F_comes h (w := w) (s := s) (d := d) hw ⟨hs.1, by omega⟩ ⟨d0, d1⟩ hd.2
  have Ff := F_fill (C := C) (s := s) (d := d) (x := w) (kd := A 163 (1114 + 8 * w)) d0 (by rw [dk]; exact d1)
  have Q := fun k => P_comes (A := A) (w := w) (s := s) (d := d) 163 k
  have a0 : (u_m_comes w s d A) 163 0 = A 163 0 := by rw [Q, if_neg (by omega), if_neg (by omega), if_neg (by omega), if_neg (by omega)]
  have ad : (u_m_comes w s d A) 163 (10 + 80 * s) = A 163 (10 + 80 * s) := by rw [Q, if_neg (by omega), if_neg (by omega), if_neg (by omega), if_neg (by omega)]
  have ac : (u_m_comes w s d A) 163 (1114 + 8 * c) = 3 := by rw [Q, if_neg (by omega), if_neg (by omega), if_neg (by omega), if_neg (by omega)]; exact kc
  have R2 := F_room F1 (s := s) (kd := 3) (by rw [a0]; exact hs) (by rw [a0]; exact hn) (by rw [ad]; exact hd.2)
  have A2 := A_room (A := u_m_comes w s d A) (s := s) (kd := 3) (by rw [ad]; exact hd)
  have ep : u_putInDock w s d C = u_moveTo w 0 s d (u_fill s d (y_sz (A 163 (1114 + 8 * w))) w C) := by unfold u_putInDock; rw [k0]
  have fc : ∀ a k, a ≠ 4 + 7 * s → u_fill s d (y_sz (A 163 (1114 + 8 * w))) w C a k = C a k := fun a k z => by
    rw [Ff]; split
    · rw [x_up_ne z, x_up_ne z]
    · rw [x_up_ne z]
  have cg : v_roomFor s (y_sz 3) (u_fill s d (y_sz (A 163 (1114 + 8 * w))) w C) = v_m_room 3 s (u_m_comes w s d A) := by
    rw [← R2, ep]
    unfold v_roomFor
    refine (room_cg ?_ (fun x => ?_) _ _).symm
    · unfold u_moveTo; rw [x_up_ne (by omega), x_up_ne (by omega), x_up_ne (by omega)]
    · unfold u_moveTo; rw [x_up_ne (by omega), x_up_ne (by omega), x_up_ne (by omega)]
  have g1 : u_fill s d (y_sz (A 163 (1114 + 8 * w))) w C (88 + c) 1 = 3 := by rw [fc _ _ (by omega), kc0]; exact kc
  have g2 : u_fill s d (y_sz (A 163 (1114 + 8 * w))) w C (88 + w) 1 = A 163 (1114 + 8 * w) := by rw [fc _ _ (by omega), k0]
  have n2 : 0 ≤ d := d0
  rw [g1, g2, cg]
  generalize he : v_m_room 3 s (u_m_comes w s d A) = e at *
  rcases A2 with q | q
  · left
    have m1 : ¬ ¬ e = -1 := by omega
    have m2 : ¬ 0 ≤ e := by omega
    simp only [if_pos n1, if_neg m1, if_pos n2, if_pos hc.1, if_neg m2]
    refine ⟨trivial, trivial, ?_, back_A hw.1 ⟨hs.1, by omega⟩ ⟨d0, q9.1⟩ q9.2 f0 f1 p2 p4⟩
    have hb : u_fill s d (y_sz (A 163 (1114 + 8 * w))) (-1) (u_fill s d (y_sz (A 163 (1114 + 8 * w))) w C) = C := by
      rw [F_fill d0 (by rw [fc _ _ (by omega), dk]; exact d1), Ff]
      have c0 := h.ct s d hs.1 (by omega) d0 q9.1 (by have := d1; unfold y_sz at this; split at this <;> omega)
      have c1 : A 163 (1114 + 8 * w) = 2 → C (4 + 7 * s) (1 + d) = -1 := fun z => by
        have := h.ct s (1 + d) hs.1 (by omega) (by omega) (by have := q9.2 z; omega) (by have := d1; unfold y_sz at this; rw [if_pos z] at this; omega)
        rw [this, show (11 : Int) + 80 * s + (1 + d) = 12 + 80 * s + d by omega]; exact f1 z
      rw [f0] at c0
      funext a k
      by_cases z : A 163 (1114 + 8 * w) = 2
      · rw [if_pos z, if_pos z]
        have c1 := c1 z
        simp only [x_up]
        by_cases z1 : a = 4 + 7 * s ∧ k = 1 + d
        · rw [if_pos z1, z1.1, z1.2]; exact c1.symm
        · rw [if_neg z1]
          by_cases z2 : a = 4 + 7 * s ∧ k = d
          · rw [if_pos z2, z2.1, z2.2]; exact c0.symm
          · rw [if_neg z2, if_neg z1, if_neg z2]
      · rw [if_neg z, if_neg z]
        simp only [x_up]
        by_cases z2 : a = 4 + 7 * s ∧ k = d
        · rw [if_pos z2, z2.1, z2.2]; exact c0.symm
        · rw [if_neg z2, if_neg z2]
    rw [hb]
  · right
    have m1 : ¬ e = -1 := by omega
    simp only [if_pos n1, if_pos m1, if_pos n2, if_pos hc.1, if_pos q.1, if_neg nc]
    refine ⟨trivial, trivial, d, e, ⟨d0, d1⟩, f0, f1, ⟨q.1, by have := q.2.1; rw [ad] at this; unfold y_sz at this; exact this⟩, q.2.2.1, ?_, rfl⟩
    have eb : 0 ≤ e ∧ e + 1 ≤ A 163 (10 + 80 * s) := ⟨q.1, by have := q.2.1; rw [ad] at this; unfold y_sz at this; exact this⟩
    have ed : e ≠ d := by
      intro z
      have := q.2.2.1
      rw [Q, if_neg (by omega), if_neg (by omega), if_neg (by omega), if_pos (by omega)] at this
      omega
    have ed2 : A 163 (1114 + 8 * w) = 2 → e ≠ 1 + d := by
      intro z2 z
      have := q.2.2.1
      rw [Q, if_neg (by omega), if_neg (by omega), if_neg (by omega), if_pos (by omega)] at this
      omega
    have L1 : u_putInDock c s e (u_fill s d (y_sz (A 163 (1114 + 8 * w))) w C) = u_moveTo c 0 s e (x_up (u_fill s d (y_sz (A 163 (1114 + 8 * w))) w C) (4 + 7 * s) e c) := by
      unfold u_putInDock
      rw [g1, F_fill (kd := 3) q.1 (by rw [fc _ _ (by omega), dk]; unfold y_sz; exact eb.2), if_neg (by omega)]
    have h1 : (u_moveTo c 0 s e (x_up (u_fill s d (y_sz (A 163 (1114 + 8 * w))) w C) (4 + 7 * s) e c)) (88 + w) 1 = A 163 (1114 + 8 * w) := by
      unfold u_moveTo; rw [x_up_ne (by omega), x_up_ne (by omega), x_up_ne (by omega), x_up_ne (by omega), g2]
    have h2 : (u_moveTo c 0 s e (x_up (u_fill s d (y_sz (A 163 (1114 + 8 * w))) w C) (4 + 7 * s) e c)) (3 + 7 * s) 1 = A 163 (10 + 80 * s) := by
      unfold u_moveTo; rw [x_up_ne (by omega), x_up_ne (by omega), x_up_ne (by omega), x_up_ne (by omega), fc _ _ (by omega), dk]
    have L2 : u_putInDock w s d (u_putInDock c s e (u_fill s d (y_sz (A 163 (1114 + 8 * w))) w C)) = u_moveTo w 0 s d (if A 163 (1114 + 8 * w) = 2 then x_up (x_up (u_moveTo c 0 s e (x_up (u_fill s d (y_sz (A 163 (1114 + 8 * w))) w C) (4 + 7 * s) e c)) (4 + 7 * s) d w) (4 + 7 * s) (1 + d) w else x_up (u_moveTo c 0 s e (x_up (u_fill s d (y_sz (A 163 (1114 + 8 * w))) w C) (4 + 7 * s) e c)) (4 + 7 * s) d w) := by
      rw [L1]
      show u_moveTo w 0 s d (u_fill s d (y_sz ((u_moveTo c 0 s e (x_up (u_fill s d (y_sz (A 163 (1114 + 8 * w))) w C) (4 + 7 * s) e c)) (88 + w) 1)) w _) = _
      rw [h1, F_fill d0 (by rw [h2]; exact d1)]
    have L3 : u_putInDock c s e (u_putInDock w s d C) = u_moveTo c 0 s e (x_up (u_moveTo w 0 s d (u_fill s d (y_sz (A 163 (1114 + 8 * w))) w C)) (4 + 7 * s) e c) := by
      have i1 : (u_putInDock w s d C) (88 + c) 1 = 3 := by rw [ep]; unfold u_moveTo; rw [x_up_ne (by omega), x_up_ne (by omega), x_up_ne (by omega), g1]
      have i2 : (u_putInDock w s d C) (3 + 7 * s) 1 = A 163 (10 + 80 * s) := by rw [ep]; unfold u_moveTo; rw [x_up_ne (by omega), x_up_ne (by omega), x_up_ne (by omega), fc _ _ (by omega), dk]
      show u_moveTo c 0 s e (u_fill s e (y_sz ((u_putInDock w s d C) (88 + c) 1)) c _) = _
      rw [i1, F_fill (kd := 3) q.1 (by rw [i2]; unfold y_sz; exact eb.2), if_neg (by omega), ep]
    rw [L2, L3, Ff]
    exact sw_docks hw.1 hc.1 hwc ⟨hs.1, by omega⟩ ed ed2
