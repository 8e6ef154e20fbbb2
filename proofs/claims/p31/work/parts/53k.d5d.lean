/-! PUT -/
def y_put0 (a v : Int) (A : Int → Int → Int) : Int → Int → Int := (x_up ((x_up ((x_up ((x_up ((x_up ((x_up A 163 1 (1 + A 163 1))) 163 (1114 + 8 * A 163 1) a)) 163 (1115 + 8 * A 163 1) v)) 163 (1119 + 8 * A 163 1) 0)) 163 (1120 + 8 * A 163 1) 0)) 163 (1121 + 8 * A 163 1) ((-1)))
theorem P_put0 {A : Int → Int → Int} {a v : Int} (k : Int) : y_put0 a v A 163 k = if k = 1121 + 8 * A 163 1 then -1 else if k = 1120 + 8 * A 163 1 then 0 else if k = 1119 + 8 * A 163 1 then 0 else if k = 1115 + 8 * A 163 1 then v else if k = 1114 + 8 * A 163 1 then a else if k = 1 then 1 + A 163 1 else A 163 k := by
  unfold y_put0; simp only [x_up]; grind
theorem P_wSetUp {M : Int → Int → Int} {w a : Int} (c k : Int) : u_wSetUp w a M c k = if c = 88 + w then (if k = 5 then -1 else if k = 4 then -1 else if k = 3 then 3 else if k = 9 then -1 else if k = 8 then 0 else if k = 7 then 0 else if k = 6 then 0 else if k = 2 then (if a = 1 ∨ a = 2 then 1000 else 0) else if k = 1 then a else M c k) else M c k := by
  unfold u_wSetUp u_moveTo
  rw [x_up_self]
  by_cases q : a = 1 ∨ a = 2
  · rw [if_pos q, if_pos q]; simp only [x_up]; grind
  · rw [if_neg q, if_neg q]; simp only [x_up]; grind
/-- a new wheel, still out -/
theorem X_new {A : Int → Int → Int} {a v : Int} (h : y_IX A (-1) (-1)) (h60 : A 163 1 < 60) (ha : 0 ≤ a ∧ a ≤ 3) (hv : 0 ≤ v ∧ v ≤ 1000) (kp : 0 ≤ A 163 (1116 + 8 * A 163 1) ∧ A 163 (1116 + 8 * A 163 1) ≤ 3) : y_IX (y_put0 a v A) (A 163 1) (-1) := by
  have hn := h.n
  have hw := h.nw
  have P := fun k => P_put0 (A := A) (a := a) (v := v) k
  have l : ∀ k, k < 1114 → k ≠ 1 → y_put0 a v A 163 k = A 163 k := fun k q q2 => by rw [P, if_neg (by omega), if_neg (by omega), if_neg (by omega), if_neg (by omega), if_neg (by omega), if_neg (by omega)]
  have lw : ∀ x j, 0 ≤ x → x ≠ A 163 1 → 0 ≤ j → j < 8 → y_put0 a v A 163 (1114 + j + 8 * x) = A 163 (1114 + j + 8 * x) := fun x j x0 q j0 j1 => by rw [P, if_neg (by omega), if_neg (by omega), if_neg (by omega), if_neg (by omega), if_neg (by omega), if_neg (by omega)]
  have e1 : y_put0 a v A 163 1 = 1 + A 163 1 := by rw [P, if_neg (by omega), if_neg (by omega), if_neg (by omega), if_neg (by omega), if_neg (by omega), if_pos rfl]
  have w0 : ∀ x, 0 ≤ x → x ≠ A 163 1 → y_put0 a v A 163 (1114 + 8 * x) = A 163 (1114 + 8 * x) := fun x q1 q2 => lw x 0 q1 q2 (by omega) (by omega)
  have w1 : ∀ x, 0 ≤ x → x ≠ A 163 1 → y_put0 a v A 163 (1115 + 8 * x) = A 163 (1115 + 8 * x) := fun x q1 q2 => lw x 1 q1 q2 (by omega) (by omega)
  have w2 : ∀ x, 0 ≤ x → x ≠ A 163 1 → y_put0 a v A 163 (1116 + 8 * x) = A 163 (1116 + 8 * x) := fun x q1 q2 => lw x 2 q1 q2 (by omega) (by omega)
  have w3 : ∀ x, 0 ≤ x → x ≠ A 163 1 → y_put0 a v A 163 (1117 + 8 * x) = A 163 (1117 + 8 * x) := fun x q1 q2 => lw x 3 q1 q2 (by omega) (by omega)
  have w4 : ∀ x, 0 ≤ x → x ≠ A 163 1 → y_put0 a v A 163 (1118 + 8 * x) = A 163 (1118 + 8 * x) := fun x q1 q2 => lw x 4 q1 q2 (by omega) (by omega)
  have w6 : ∀ x, 0 ≤ x → x ≠ A 163 1 → y_put0 a v A 163 (1120 + 8 * x) = A 163 (1120 + 8 * x) := fun x q1 q2 => lw x 6 q1 q2 (by omega) (by omega)
  have v0 : y_put0 a v A 163 (1114 + 8 * A 163 1) = a := by rw [P]; grind
  have v1 : y_put0 a v A 163 (1115 + 8 * A 163 1) = v := by rw [P]; grind
  have v2 : y_put0 a v A 163 (1116 + 8 * A 163 1) = A 163 (1116 + 8 * A 163 1) := by rw [P]; grind
  have v6 : y_put0 a v A 163 (1120 + 8 * A 163 1) = 0 := by rw [P]; grind
  clear P lw
  have e0 := l 0 (by omega) (by omega)
  revert l e0 e1 w0 w1 w2 w3 w4 w6 v0 v1 v2 v6
  generalize y_put0 a v A = A2
  intro l e1 w0 w1 w2 w3 w4 w6 v0 v1 v2 v6 e0
  refine ⟨by rw [e0]; exact hn, by rw [e1]; omega, ?_, ?_, ?_, ?_, ?_, ?_, ?_, ?_⟩
  · intro s s0 s1; rw [l (10 + 80 * s) (by omega) (by omega), e0]; exact h.dk s s0 s1
  · intro s d s0 s1 d0 d1 s2 d2
    rw [e0] at s2; rw [l (10 + 80 * s) (by omega) (by omega)] at d2
    have g := h.cr s d s0 s1 d0 d1 s2 d2
    rw [l (11 + 80 * s + d) (by omega) (by omega), e1]
    exact ⟨by omega, fun q => ⟨by omega, by omega⟩⟩
  · intro s d x s0 s1 d0 d1 x0 x1 s2 d2 e
    rw [e0] at s2; rw [l (10 + 80 * s) (by omega) (by omega)] at d2; rw [l (11 + 80 * s + d) (by omega) (by omega)] at e
    have g := h.cr s d s0 s1 d0 d1 s2 d2
    rw [w0 x x0 (by omega), w2 x x0 (by omega), w3 x x0 (by omega), w4 x x0 (by omega)]
    exact h.ct s d x s0 s1 d0 d1 x0 x1 s2 d2 e
  · intro x x0 x1 x2
    rw [e1] at x2
    by_cases xw : x = A 163 1
    · subst xw; rw [v0, v1, v2]; exact ⟨ha, kp, hv⟩
    · rw [w0 x x0 xw, w1 x x0 xw, w2 x x0 xw]; exact h.kd x x0 x1 (by omega)
  · intro x x0 x1 x2 xw xc xp
    rw [e1] at x2; rw [w2 x x0 xw] at xp
    have g := h.pd x x0 x1 (by omega) (by omega) (by omega) xp
    have q8 : A 163 (1118 + 8 * x) < 12 ∧ (A 163 (1114 + 8 * x) = 2 → A 163 (1118 + 8 * x) < 11) := by have := g.2.1.2; split at this <;> omega
    rw [w0 x x0 xw, w3 x x0 xw, w4 x x0 xw, l (10 + 80 * A 163 (1117 + 8 * x)) (by omega) (by omega), l (11 + 80 * A 163 (1117 + 8 * x) + A 163 (1118 + 8 * x)) (by omega) (by omega), l (12 + 80 * A 163 (1117 + 8 * x) + A 163 (1118 + 8 * x)) (by omega) (by omega)]
    exact g
  · intro x x0 x1 x2 xw xc; rw [e1] at x2; rw [w2 x x0 xw, w3 x x0 xw, e0]; exact h.ps x x0 x1 (by omega) (by omega) (by omega)
  · intro x x0 x1 x2 xw xc; rw [e1] at x2; rw [w2 x x0 xw, w4 x x0 xw]; exact h.pn x x0 x1 (by omega) (by omega) (by omega)
  · intro x x0 x1
    by_cases xw : x = A 163 1
    · subst xw; rw [v6]; omega
    · rw [w6 x x0 xw]; exact h.bk x x0 x1
theorem nw_put {W : Int → Int → Int} {w s d kd v : Int} (hw : 0 ≤ w) (hs : 0 ≤ s) : x_up (x_up (x_up (if kd = 2 then x_up (x_up (x_up W 1 3 v) (4 + 7 * s) d w) (4 + 7 * s) (1 + d) w else x_up (x_up W 1 3 v) (4 + 7 * s) d w) (88 + w) 3 0) (88 + w) 4 s) (88 + w) 5 d = x_up (x_up (x_up (x_up (if kd = 2 then x_up (x_up W (4 + 7 * s) d w) (4 + 7 * s) (1 + d) w else x_up W (4 + 7 * s) d w) (88 + w) 3 0) (88 + w) 4 s) (88 + w) 5 d) 1 3 v := by
  funext c k
  split <;> (simp only [x_up]; grind)
theorem B_put {C A : Int → Int → Int} (h : y_B C A) {a b d : Int} (h60 : A 163 1 < 60) (ha : 0 ≤ a ∧ a ≤ 3) (kp : 0 ≤ A 163 (1116 + 8 * A 163 1) ∧ A 163 (1116 + 8 * A 163 1) ≤ 3) (hb : 0 ≤ b ∧ b < A 163 0) (hd : 0 ≤ d ∧ d + y_sz a ≤ A 163 (10 + 80 * b)) (f0 : A 163 (11 + 80 * b + d) = -1) (f1 : a = 2 → A 163 (12 + 80 * b + d) = -1) : y_B (x_up (u_putInDock (A 163 1) b d (u_wSetUp (A 163 1) a C)) 1 3 (1 + A 163 1)) (u_m_comes (A 163 1) b d (y_put0 a (if a = 1 ∨ a = 2 then 1000 else 0) A)) := by
  have hn := h.i.n
  have hw := h.i.nw
  have hD := h.i.dk b hb.1 (by omega) hb.2
  have hv : 0 ≤ (if a = 1 ∨ a = 2 then 1000 else 0 : Int) ∧ (if a = 1 ∨ a = 2 then 1000 else 0 : Int) ≤ 1000 := by split <;> omega
  generalize hvv : (if a = 1 ∨ a = 2 then 1000 else 0 : Int) = v at hv ⊢
  have P := fun k => P_put0 (A := A) (a := a) (v := v) k
  have X1 := X_new (a := a) (v := v) (X_of h.i) h60 ha hv kp
  have g0 : y_put0 a v A 163 (1114 + 8 * A 163 1) = a := by rw [P]; grind
  have g1 : y_put0 a v A 163 (1115 + 8 * A 163 1) = v := by rw [P]; grind
  have g6 : y_put0 a v A 163 (1120 + 8 * A 163 1) = 0 := by rw [P]; grind
  have g7 : y_put0 a v A 163 (1121 + 8 * A 163 1) = -1 := by rw [P]; grind
  have l : ∀ k, k < 1114 → k ≠ 1 → y_put0 a v A 163 k = A 163 k := fun k q q2 => by rw [P, if_neg (by omega), if_neg (by omega), if_neg (by omega), if_neg (by omega), if_neg (by omega), if_neg (by omega)]
  have l1 : y_put0 a v A 163 1 = 1 + A 163 1 := by rw [P, if_neg (by omega), if_neg (by omega), if_neg (by omega), if_neg (by omega), if_neg (by omega), if_pos rfl]
  have X2 := X_comes (w := A 163 1) (c := -1) (s0 := b) (d0 := d) X1 ⟨by omega, by omega⟩ (by omega) (by rw [l 0 (by omega) (by omega)]; exact hb) (by rw [g0, l _ (by omega) (by omega)]; exact hd) (by rw [l _ (by have := hd.2; unfold y_sz at this; split at this <;> omega) (by omega)]; exact f0) (fun z => by rw [g0] at z; rw [l _ (by have := hd.2; unfold y_sz at this; rw [if_pos z] at this; omega) (by omega)]; exact f1 z)
  have q9 : d < 12 ∧ (a = 2 → d < 11) := by have := hd.2; unfold y_sz at this; split at this <;> omega
  have Q := fun k => P_comes (A := y_put0 a v A) (w := A 163 1) (s := b) (d := d) 163 k
  rw [g0] at Q
  -- what stays of the row
  have r : ∀ k, k < 1114 → k ≠ 1 → (k < 10 ∨ 970 ≤ k ∨ (k - 10) % 80 = 0 ∨ 13 ≤ (k - 10) % 80) → (u_m_comes (A 163 1) b d (y_put0 a v A)) 163 k = A 163 k := fun k q q1 q2 => by
    rw [Q, if_neg (by omega), if_neg (by omega), if_neg (by omega), if_neg (by omega), l k q q1]
  have r1 : (u_m_comes (A 163 1) b d (y_put0 a v A)) 163 1 = 1 + A 163 1 := by rw [Q, if_neg (by omega), if_neg (by omega), if_neg (by omega), if_neg (by omega), l1]
  have rw' : ∀ k, 1114 ≤ k → ¬ (1114 + 8 * A 163 1 ≤ k ∧ k < 1122 + 8 * A 163 1) → (u_m_comes (A 163 1) b d (y_put0 a v A)) 163 k = A 163 k := fun k q q1 => by
    rw [Q, if_neg (by omega), if_neg (by omega), if_neg (by omega), if_neg (by omega), P, if_neg (by omega), if_neg (by omega), if_neg (by omega), if_neg (by omega), if_neg (by omega), if_neg (by omega)]
  have r7 : (u_m_comes (A 163 1) b d (y_put0 a v A)) 163 (1121 + 8 * A 163 1) = -1 := by rw [Q, if_neg (by omega), if_neg (by omega), if_neg (by omega), if_neg (by omega), g7]
  refine ⟨?_, ⟨?_, ?_, ?_⟩, ?_⟩
  · -- the relation
    have F1 := F_nw (v := 1 + A 163 1) h.f
    have S := fun c k => P_wSetUp (M := x_up C 1 3 (1 + A 163 1)) (w := A 163 1) (a := a) c k
    have s1 : u_wSetUp (A 163 1) a (x_up C 1 3 (1 + A 163 1)) (88 + A 163 1) 1 = a := by rw [S]; simp
    have s2 : u_wSetUp (A 163 1) a (x_up C 1 3 (1 + A 163 1)) (88 + A 163 1) 2 = v := by rw [S]; simp [hvv]
    have s3 : u_wSetUp (A 163 1) a (x_up C 1 3 (1 + A 163 1)) (88 + A 163 1) 3 = 3 := by rw [S]; simp
    have s4 : u_wSetUp (A 163 1) a (x_up C 1 3 (1 + A 163 1)) (88 + A 163 1) 4 = -1 := by rw [S]; simp
    have s5 : u_wSetUp (A 163 1) a (x_up C 1 3 (1 + A 163 1)) (88 + A 163 1) 5 = -1 := by rw [S]; simp
    have s7 : u_wSetUp (A 163 1) a (x_up C 1 3 (1 + A 163 1)) (88 + A 163 1) 7 = 0 := by rw [S]; simp
    have s8 : u_wSetUp (A 163 1) a (x_up C 1 3 (1 + A 163 1)) (88 + A 163 1) 8 = 0 := by rw [S]; simp
    have s9 : u_wSetUp (A 163 1) a (x_up C 1 3 (1 + A 163 1)) (88 + A 163 1) 9 = -1 := by rw [S]; simp
    have F2 : y_F (u_wSetUp (A 163 1) a (x_up C 1 3 (1 + A 163 1))) (x_up (x_up (x_up (y_put0 a v A) 163 (1116 + 8 * A 163 1) 3) 163 (1117 + 8 * A 163 1) (-1)) 163 (1118 + 8 * A 163 1) (-1)) := by
      refine F_rec F1 (A 163 1) ⟨hw.1, h60⟩ (fun c k q => by rw [S, if_neg q]) (fun k q => ?_) ?_ ?_ ?_ ?_ ?_ ?_ ?_ ?_
      · rw [x_up_nk (by omega), x_up_nk (by omega), x_up_nk (by omega), P, if_neg (by omega), if_neg (by omega), if_neg (by omega), if_neg (by omega), if_neg (by omega)]
        by_cases z : k = 1
        · rw [if_pos z, z, x_up_self]
        · rw [if_neg z, x_up_nk z]
      · rw [s1, x_up_nk (by omega), x_up_nk (by omega), x_up_nk (by omega), g0]
      · rw [s2, x_up_nk (by omega), x_up_nk (by omega), x_up_nk (by omega), g1]
      · rw [s3, x_up_nk (by omega), x_up_nk (by omega), x_up_self]
      · rw [s4, x_up_nk (by omega), x_up_nk (by omega), x_up_self, x_up_nk (by omega), x_up_self]; rfl
      · rw [s5, x_up_nk (by omega), x_up_nk (by omega), x_up_self, x_up_nk (by omega), x_up_self, x_up_self]; rfl
      · rw [s7, x_up_nk (by omega), x_up_nk (by omega), x_up_nk (by omega), g6]; rfl
      · rw [s8, x_up_nk (by omega), x_up_nk (by omega), x_up_nk (by omega), g6]; rfl
      · rw [s9, x_up_nk (by omega), x_up_nk (by omega), x_up_nk (by omega), g7]
    have F3 := F_comes (w := A 163 1) (s := b) (d := d) F2 ⟨hw.1, h60⟩ ⟨hb.1, by omega⟩ (by
      rw [x_up_nk (by omega), x_up_nk (by omega), x_up_nk (by omega), g0, x_up_nk (by omega), x_up_nk (by omega), x_up_nk (by omega), l _ (by omega) (by omega)]; exact hd) (by
      rw [x_up_nk (by omega), x_up_nk (by omega), x_up_nk (by omega), l _ (by omega) (by omega)]; exact hD.2)
    have eA : u_m_comes (A 163 1) b d (x_up (x_up (x_up (y_put0 a v A) 163 (1116 + 8 * A 163 1) 3) 163 (1117 + 8 * A 163 1) (-1)) 163 (1118 + 8 * A 163 1) (-1)) = u_m_comes (A 163 1) b d (y_put0 a v A) := by
      funext c k
      rw [P_comes, P_comes, x_up_nk (by omega), x_up_nk (by omega), x_up_nk (by omega)]
      simp only [x_up]
      grind
    have eC : u_putInDock (A 163 1) b d (u_wSetUp (A 163 1) a (x_up C 1 3 (1 + A 163 1))) = x_up (u_putInDock (A 163 1) b d (u_wSetUp (A 163 1) a C)) 1 3 (1 + A 163 1) := by
      have S2 := fun c k => P_wSetUp (M := C) (w := A 163 1) (a := a) c k
      have dk := h.f.dk b hb.1 (by omega)
      have k1 : u_wSetUp (A 163 1) a (x_up C 1 3 (1 + A 163 1)) (88 + A 163 1) 1 = a := by rw [S]; grind
      have k2 : u_wSetUp (A 163 1) a C (88 + A 163 1) 1 = a := by rw [S2]; grind
      have d1 : u_wSetUp (A 163 1) a (x_up C 1 3 (1 + A 163 1)) (3 + 7 * b) 1 = A 163 (10 + 80 * b) := by rw [S, if_neg (by omega), x_up_ne (by omega), dk]
      have d2 : u_wSetUp (A 163 1) a C (3 + 7 * b) 1 = A 163 (10 + 80 * b) := by rw [S2, if_neg (by omega), dk]
      unfold u_putInDock u_moveTo
      rw [k1, k2, F_fill hd.1 (by rw [d1]; exact hd.2), F_fill hd.1 (by rw [d2]; exact hd.2)]
      have e : ∀ c k, u_wSetUp (A 163 1) a (x_up C 1 3 (1 + A 163 1)) c k = x_up (u_wSetUp (A 163 1) a C) 1 3 (1 + A 163 1) c k := fun c k => by
        by_cases z : c = 88 + A 163 1
        · rw [S, if_pos z, x_up_ne (by omega), x_up_ne (by omega), S2, if_pos z]
        · rw [S, if_neg z]; simp only [x_up]; rw [S2, if_neg z]
      have e' : u_wSetUp (A 163 1) a (x_up C 1 3 (1 + A 163 1)) = x_up (u_wSetUp (A 163 1) a C) 1 3 (1 + A 163 1) := funext fun c => funext fun k => e c k
      rw [e']
      exact nw_put hw.1 hb.1
    rw [eA, eC] at F3
    exact F3
  · exact IS_fr h.i.toy_IS (by rw [r1]; omega) (fun k _ => r k)
  · refine X_to X2 (fun x x0 x1 x2 => ?_)
    rw [r1] at x2
    by_cases xw : x = A 163 1
    · left; rw [xw]; exact r7
    · have pa := h.i.pa x x0 x1 (by omega)
      rw [rw' (1121 + 8 * x) (by omega) (by omega)]
      rcases pa with q | q
      · exact Or.inl q
      · right
        rw [rw' (1116 + 8 * x) (by omega) (by omega), rw' (1114 + 8 * x) (by omega) (by omega), rw' (1116 + 8 * A 163 (1121 + 8 * x)) (by omega) (by omega), rw' (1121 + 8 * A 163 (1121 + 8 * x)) (by omega) (by omega), rw' (1114 + 8 * A 163 (1121 + 8 * x)) (by omega) (by omega), r1]
        exact ⟨q.1, q.2.1, by omega, q.2.2.2⟩
  · exact IK_fr h.i.toy_IK (r 0 (by omega) (by omega) (by omega)) (by rw [r1]; omega) (r 2 (by omega) (by omega) (by omega)) (fun k q1 q2 => rw' k (by omega) (by omega)) (fun w q1 q2 q3 q4 => ⟨by rw [rw' _ (by omega) (by omega)]; exact q4, rw' _ (by omega) (by omega)⟩)
  · refine FT_fr h.t h.i.toy_IK (fun c q1 q2 => ?_) (r 2 (by omega) (by omega) (by omega)) (fun k q1 q2 => rw' k (by omega) (by omega)) (fun w q1 q2 q3 => rw' _ (by omega) (by omega))
    have S2 := fun c k => P_wSetUp (M := C) (w := A 163 1) (a := a) c k
    have dk := h.f.dk b hb.1 (by omega)
    have k2 : u_wSetUp (A 163 1) a C (88 + A 163 1) 1 = a := by rw [S2]; grind
    have d2 : u_wSetUp (A 163 1) a C (3 + 7 * b) 1 = A 163 (10 + 80 * b) := by rw [S2, if_neg (by omega), dk]
    unfold u_putInDock u_moveTo
    rw [k2, F_fill hd.1 (by rw [d2]; exact hd.2), x_up_ne (by omega), x_up_ne (by omega), x_up_ne (by omega), x_up_ne (by omega)]
    split
    · rw [x_up_ne (by omega), x_up_ne (by omega), S2, if_neg (by omega)]
    · rw [x_up_ne (by omega), S2, if_neg (by omega)]
theorem O_put {C A : Int → Int → Int} (h : y_B C A) (a b d : Int) (kp : ∀ w, 0 ≤ w → w < 60 → 0 ≤ A 163 (1116 + 8 * w) ∧ A 163 (1116 + 8 * w) ≤ 3) : v_x_put a b d C = v_n_put a b d A ∧ y_B (u_x_put a b d C) (u_n_put a b d A) := by
  have hn := h.f.n
  have hN := h.i.n
  have hw := h.f.nw
  have hW := h.i.nw
  have S2 := fun c k => P_wSetUp (M := C) (w := A 163 1) (a := a) c k
  by_cases G : (0 ≤ b ∧ b < A 163 0) ∧ (0 ≤ a ∧ a ≤ 3) ∧ (0 ≤ d ∧ d + y_sz a ≤ A 163 (10 + 80 * b)) ∧ A 163 (11 + 80 * b + d) = -1 ∧ (a = 2 → A 163 (12 + 80 * b + d) = -1)
  · obtain ⟨hb, ha, hd, f0, f1⟩ := G
    have dk := h.f.dk b hb.1 (by omega)
    have hD := h.i.dk b hb.1 (by omega) hb.2
    have q9 : d < 12 ∧ (a = 2 → d < 11) := by have := hd.2; unfold y_sz at this; split at this <;> omega
    have z1 := y_sz_in a
    have c0 := h.f.ct b d hb.1 (by omega) hd.1 q9.1 (by omega)
    have c1 : C (4 + 7 * b) (-1 + d + y_sz a) = -1 := by
      have z3 : d + y_sz a ≤ 12 := by omega
      have := h.f.ct b (-1 + d + y_sz a) hb.1 (by omega) (by omega) (by omega) (by omega)
      rw [this]
      by_cases q : a = 2
      · have z2 := z1.2.2.1 q
        rw [show (11 : Int) + 80 * b + (-1 + d + y_sz a) = 12 + 80 * b + d by omega]; exact f1 q
      · have z2 := z1.2.2.2 q
        rw [show (11 : Int) + 80 * b + (-1 + d + y_sz a) = 11 + 80 * b + d by omega]; exact f0
    have g1 : (0 ≤ d ∧ (-1) + d + (y_sz a) < A 163 (10 + 80 * b)) ∧ C (4 + 7 * b) d = -1 ∧ C (4 + 7 * b) ((-1) + d + (y_sz a)) = -1 := ⟨⟨hd.1, by omega⟩, by rw [c0]; exact f0, c1⟩
    have g2 : (((0 ≤ b ∧ b < A 163 0) ∧ 0 ≤ d ∧ d < A 163 (10 + 80 * b)) ∧ A 163 (11 + 80 * b + d) = -1) ∧ (a = 2 → 1 + d < A 163 (10 + 80 * b) ∧ A 163 (12 + 80 * b + d) = -1) := ⟨⟨⟨hb, hd.1, by omega⟩, f0⟩, fun q => ⟨by have := z1.2.2.1 q; omega, f1 q⟩⟩
    unfold v_x_put u_x_put v_n_put u_n_put v_addWheel u_addWheel
    rw [hn, dk, hw, if_pos hb, if_neg (show ¬ a < 0 by omega), if_neg (show ¬ 3 < a by omega), if_pos g1, if_pos hb, if_neg (show ¬ a < 0 by omega), if_neg (show ¬ 3 < a by omega), if_pos g1]
    by_cases h60 : A 163 1 = 60
    · rw [if_neg (show ¬ A 163 1 < 60 by omega), if_neg (show ¬ A 163 1 < 60 by omega), if_pos h60, if_pos h60]; exact ⟨rfl, h⟩
    · rw [if_pos (show A 163 1 < 60 by omega), if_pos (show A 163 1 < 60 by omega), if_neg h60, if_neg h60, if_pos (show 0 ≤ a ∧ a < 4 by omega), if_pos (show 0 ≤ a ∧ a < 4 by omega), if_pos g2, if_pos g2]
      refine ⟨by split <;> rfl, ?_⟩
      have k2 : u_wSetUp (A 163 1) a C (88 + A 163 1) 1 = a := by rw [S2]; grind
      have d2 : u_wSetUp (A 163 1) a C (3 + 7 * b) 1 = A 163 (10 + 80 * b) := by rw [S2, if_neg (by omega), dk]
      have e3 : (u_putInDock (A 163 1) b d (u_wSetUp (A 163 1) a C)) 1 3 = A 163 1 := by
        unfold u_putInDock u_moveTo
        rw [k2, F_fill hd.1 (by rw [d2]; exact hd.2), x_up_ne (by omega), x_up_ne (by omega), x_up_ne (by omega)]
        split
        · rw [x_up_ne (by omega), x_up_ne (by omega), S2, if_neg (by omega), hw]
        · rw [x_up_ne (by omega), S2, if_neg (by omega), hw]
      rw [e3]
      have B := B_put h (a := a) (b := b) (d := d) (by omega) ha (kp _ hW.1 (by omega)) hb hd f0 f1
      unfold y_put0 at B
      by_cases q : a = 1 ∨ a = 2
      · rw [if_pos q]; rw [if_pos q] at B; exact B
      · rw [if_neg q]; rw [if_neg q] at B; exact B
  · have e1 : v_x_put a b d C = -1 ∧ u_x_put a b d C = C := by
      unfold v_x_put u_x_put
      rw [hn]
      by_cases hb : 0 ≤ b ∧ b < A 163 0
      · rw [if_pos hb, if_pos hb]
        by_cases a0 : a < 0
        · rw [if_pos a0, if_pos a0]; exact ⟨rfl, rfl⟩
        rw [if_neg a0, if_neg a0]
        by_cases a3 : 3 < a
        · rw [if_pos a3, if_pos a3]; exact ⟨rfl, rfl⟩
        have dk := h.f.dk b hb.1 (by omega)
        have hD := h.i.dk b hb.1 (by omega) hb.2
        have z1 := y_sz_in a
        rw [if_neg a3, if_neg a3, dk, if_neg, if_neg]
        · exact ⟨rfl, rfl⟩
        all_goals
          rintro ⟨⟨g0, g1⟩, g2, g3⟩
          apply G
          have c0 := h.f.ct b d hb.1 (by omega) g0 (by omega) (by omega)
          refine ⟨hb, ⟨by omega, by omega⟩, ⟨g0, by omega⟩, by rw [← c0]; exact g2, fun q => ?_⟩
          have := z1.2.2.1 q
          have c1 := h.f.ct b (-1 + d + y_sz a) hb.1 (by omega) (by omega) (by omega) (by omega)
          rw [g3, show (11 : Int) + 80 * b + (-1 + d + y_sz a) = 12 + 80 * b + d by omega] at c1
          exact c1.symm
      · rw [if_neg hb, if_neg hb]; exact ⟨rfl, rfl⟩
    have e2 : v_n_put a b d A = -1 ∧ u_n_put a b d A = A := by
      unfold v_n_put u_n_put
      by_cases q : A 163 1 = 60
      · rw [if_pos q, if_pos q]; exact ⟨rfl, rfl⟩
      rw [if_neg q, if_neg q]
      by_cases a4 : 0 ≤ a ∧ a < 4
      · have z1 := y_sz_in a
        rw [if_pos a4, if_pos a4, if_neg, if_neg]
        · exact ⟨rfl, rfl⟩
        all_goals
          rintro ⟨⟨⟨g0, g1⟩, g2⟩, g3⟩
          apply G
          refine ⟨g0, ⟨by omega, by omega⟩, ⟨g1.1, ?_⟩, g2, fun q => (g3 q).2⟩
          by_cases q : a = 2
          · have := z1.2.2.1 q; have := (g3 q).1; omega
          · have := z1.2.2.2 q; omega
      · rw [if_neg a4, if_neg a4]; exact ⟨rfl, rfl⟩
    rw [e1.1, e1.2, e2.1, e2.2]; exact ⟨rfl, h⟩
