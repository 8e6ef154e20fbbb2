/-! END: the loop -/
def gl (V : Int → (Int → Int → Int) → Int) (U : Int → (Int → Int → Int) → Int → Int → Int) (f : Int) : Nat → (Int → Int → Int) → Int → Int → Int → Int → (Int → Int → Int) × Int × Int × Int × Int
  | 0, M, h, rd, dk, i => (M, h, rd, dk, i)
  | k + 1, M, h, rd, dk, i => if M (3 + 7 * f) 5 ≤ i then (M, h, rd, dk, i) else if ¬ dk = 0 then (M, h, rd, dk, i) else if 0 ≤ (v_otherAt f i M) ∧ (v_otherAt f i M) < M 1 1 then gl V U f k (U (v_otherAt f i M) M) (v_otherAt f i M) (rd + v_lengthBetween h (v_otherAt f i M) M) (V (v_otherAt f i M) M) (1 + i) else gl V U f k M h rd dk (1 + i)
theorem gl_a {w f : Int} : ∀ (k : Nat) (M : Int → Int → Int) (h rd dk i : Int), l_bringBack_a w f k M h rd dk i = gl (v_docksBoth0 w) (u_docksBoth0 w) f k M h rd dk i := by
  intro k
  induction k with
  | zero => intro M h rd dk i; rfl
  | succ k ih => intro M h rd dk i; rw [l_bringBack_a, gl, ih, ih]
theorem gl_b {w f c : Int} : ∀ (k : Nat) (M : Int → Int → Int) (h rd dk i : Int), l_bringBack_b w f c k M h rd dk i = gl (v_docksBoth1 w c) (u_docksBoth1 w c) f k M h rd dk i := by
  intro k
  induction k with
  | zero => intro M h rd dk i; rfl
  | succ k ih => intro M h rd dk i; rw [l_bringBack_b, gl, ih, ih]
theorem gl_in {V : Int → (Int → Int → Int) → Int} {U : Int → (Int → Int → Int) → Int → Int → Int} {f : Int} (k : Nat) (M : Int → Int → Int) (h rd i : Int) : gl V U f k M h rd 1 i = (M, h, rd, 1, i) := by
  cases k with
  | zero => rfl
  | succ k =>
    rw [gl]
    split
    · rfl
    · rw [if_pos (by omega)]
theorem ne_in {a b c : Int} (k : Nat) (M : Int → Int → Int) (p j th : Int) : l_n_end_a a b c k M p j th 0 = (M, p, j, th, 0) := by
  cases k with
  | zero => rfl
  | succ k => rw [l_n_end_a, if_pos rfl]
/-- a hired wheel and its child, or none -/
def y_hi (A : Int → Int → Int) (w c : Int) : Prop := (0 ≤ w ∧ w < A 163 1) ∧ A 163 (1116 + 8 * w) = 2 ∧ A 163 (1114 + 8 * w) ≠ 3 ∧ A 163 (1121 + 8 * w) = c ∧ (c = -1 ∨ ((0 ≤ c ∧ c < A 163 1) ∧ A 163 (1116 + 8 * c) = 2 ∧ A 163 (1114 + 8 * c) = 3 ∧ w ≠ c ∧ A 163 (1121 + 8 * c) = w))
def y_fx (w c : Int) (A A2 : Int → Int → Int) : Prop := ∀ k, (k < 11 ∨ 1114 ≤ k) → ¬ (1115 + 8 * w ≤ k ∧ k < 1119 + 8 * w) → ¬ (1115 + 8 * c ≤ k ∧ k < 1119 + 8 * c) → A2 163 k = A 163 k
theorem fr_tr {w c : Int} {A A2 A3 : Int → Int → Int} (h : y_fx w c A A2) (g : y_fx w c A2 A3) : y_fx w c A A3 := fun k q q1 q2 => (g k q q1 q2).trans (h k q q1 q2)
theorem hi_of {A : Int → Int → Int} {w c : Int} (h : y_IW A) (hW : A 163 1 ≤ 60) (hw : 0 ≤ w ∧ w < A 163 1) (h2 : A 163 (1116 + 8 * w) = 2) (h3 : A 163 (1114 + 8 * w) ≠ 3) (hc : A 163 (1121 + 8 * w) = c) : y_hi A w c := by
  refine ⟨hw, h2, h3, hc, ?_⟩
  have q := h.pa w hw.1 (by omega) hw.2
  rw [hc] at q
  rcases q with q | q
  · exact Or.inl q
  · right
    have k3 : A 163 (1114 + 8 * c) = 3 := by
      have := q.2.2.2.2.2
      by_cases z : A 163 (1114 + 8 * c) = 3
      · exact z
      · exact absurd (this.2 z) h3
    exact ⟨⟨q.2.1.1, q.2.2.1⟩, q.2.2.2.1, k3, fun z => by rw [z] at h3; exact h3 k3, q.2.2.2.2.1⟩
theorem hi_fr {A A2 : Int → Int → Int} {w c : Int} (h : y_hi A w c) (e1 : A2 163 1 = A 163 1) (e : ∀ k, 1114 ≤ k → k ≠ 1115 + 8 * w → A2 163 k = A 163 k) : y_hi A2 w c := by
  obtain ⟨h1, h2, h3, h4, h5⟩ := h
  refine ⟨by rw [e1]; exact h1, by rw [e _ (by omega) (by omega)]; exact h2, by rw [e _ (by omega) (by omega)]; exact h3, by rw [e _ (by omega) (by omega)]; exact h4, ?_⟩
  rcases h5 with q | q
  · exact Or.inl q
  · right
    rw [e1, e _ (by omega) (by omega), e _ (by omega) (by omega), e _ (by omega) (by omega)]
    exact q
def y_ARR (w c : Int) (V : Int → (Int → Int → Int) → Int) (U : Int → (Int → Int → Int) → Int → Int → Int) : Prop := ∀ (C A : Int → Int → Int) (s v : Int), y_B (x_up C (88 + w) 2 v) A → y_hi A w c → (0 ≤ s ∧ s < A 163 0) → (V s C = 0 ∧ v_m_arrives w c s A = 0 ∧ U s C = x_up C (3 + 7 * s) 7 (x_w (1 + C (3 + 7 * s) 7)) ∧ u_m_arrives w c s A = A) ∨ (V s C = 1 ∧ v_m_arrives w c s A = 1 ∧ y_By (x_up (U s C) (88 + w) 2 v) (u_m_arrives w c s A) (-1) (-1) ∧ (U s C (88 + w) 1 = C (88 + w) 1 ∧ U s C (88 + w) 2 = C (88 + w) 2) ∧ (U s C (88 + w) 3 = 0 ∧ U s C (88 + w) 4 = s) ∧ y_fx w c A (u_m_arrives w c s A))
theorem up_inj {C D : Int → Int → Int} {w v : Int} (h : x_up C (88 + w) 2 v = x_up D (88 + w) 2 v) (e : C (88 + w) 2 = D (88 + w) 2) : C = D := by
  funext a k
  have := congrFun (congrFun h a) k
  simp only [x_up] at this
  by_cases q : a = 88 + w ∧ k = 2
  · rw [q.1, q.2]; exact e
  · rw [if_neg q, if_neg q] at this; exact this
theorem ARR0 {w : Int} : y_ARR w (-1) (v_docksBoth0 w) (u_docksBoth0 w) := by
  intro C A s v h H hs
  obtain ⟨hw, p2, k3, hc, _⟩ := H
  have hn := h.i.n
  have hW := h.i.nw
  have hD := h.i.dk s hs.1 (by omega) hs.2
  have cm := d0_cm (w := w) (s := s) (v := v) (M := C) ⟨hs.1, by omega⟩ hw.1
  have ne := fun (x j : Int) (h0 : 0 ≤ x) (hj : j < 3) => d0_ne (w := w) (s := s) (x := x) (j := j) (M := C) ⟨hs.1, by omega⟩ hw.1 h0 hj
  rcases arr0 h.f (w := w) (s := s) (c := -1) ⟨hw.1, by omega⟩ hs hn.2 ⟨by omega, hD.2⟩ (by omega) with q | q
  · left
    rw [cm.1, cm.2] at q
    refine ⟨q.1, q.2.1, ?_, q.2.2.2⟩
    refine up_inj (w := w) (v := v) ?_ (by rw [ne w 2 hw.1 (by omega), x_up_ne (by omega)])
    rw [q.2.2.1, x_up_ne (f := C) (a := 88 + w) (by omega), x_up_cm (by omega)]
  · right
    obtain ⟨q1, q2, d, hd, f0, f1, eU, eA⟩ := q
    rw [cm.1] at q1
    rw [cm.2] at eU
    rw [eA]
    refine ⟨q1, q2, ?_, ⟨ne w 1 hw.1 (by omega), ne w 2 hw.1 (by omega)⟩, ?_, ?_⟩
    · rw [eU]
      have o := By_of h
      exact By_comes ⟨o.f, o.s, X_open o.x hw.1 (by omega), o.k, o.t⟩ hw (by omega) (by omega) hs hd f0 f1
    · have := congrFun (congrFun eU (88 + w)) 3
      have t := congrFun (congrFun eU (88 + w)) 4
      rw [x_up_nk (by omega)] at this t
      rw [this, t]
      exact put_at
    · intro k q q1 q2
      have q9 : d < 12 := by have := hd.2; have := y_sz_in (A 163 (1114 + 8 * w)); omega
      rw [P_comes, if_neg (by omega), if_neg (by omega), if_neg (by omega), if_neg (by omega)]
theorem ARR1 {w c : Int} (h0 : 0 ≤ c) : y_ARR w c (v_docksBoth1 w c) (u_docksBoth1 w c) := by
  intro C A s v h H hs
  obtain ⟨hw, p2, k3, hc, hh⟩ := H
  have hn := h.i.n
  have hW := h.i.nw
  have hD := h.i.dk s hs.1 (by omega) hs.2
  have cm := d1_cm (w := w) (p := c) (s := s) (v := v) (M := C) ⟨hs.1, by omega⟩ hw.1 h0
  have ne := fun (x j : Int) (x0 : 0 ≤ x) (hj : j < 3) => d1_ne (w := w) (p := c) (s := s) (x := x) (j := j) (M := C) ⟨hs.1, by omega⟩ hw.1 h0 x0 hj
  have hh : ((0 ≤ c ∧ c < A 163 1) ∧ A 163 (1116 + 8 * c) = 2 ∧ A 163 (1114 + 8 * c) = 3 ∧ w ≠ c ∧ A 163 (1121 + 8 * c) = w) := by
    rcases hh with z | z
    · omega
    · exact z
  have pn := h.i.pn w hw.1 (by omega) hw.2 (by omega)
  rcases arr1 h.f (w := w) (s := s) (c := c) ⟨hw.1, by omega⟩ ⟨h0, by omega⟩ hh.2.2.2.1 hs hn.2 ⟨by omega, hD.2⟩ hh.2.2.1 p2 pn with q | q
  · left
    rw [cm.1, cm.2] at q
    refine ⟨q.1, q.2.1, ?_, q.2.2.2⟩
    refine up_inj (w := w) (v := v) ?_ (by rw [ne w 2 hw.1 (by omega), x_up_ne (by omega)])
    rw [q.2.2.1, x_up_ne (f := C) (a := 88 + w) (by omega), x_up_cm (by omega)]
  · right
    obtain ⟨q1, q2, d, e, hd, f0, f1, he, g0, eU, eA⟩ := q
    rw [cm.1] at q1
    rw [cm.2] at eU
    rw [eA]
    have z := y_sz_in (A 163 (1114 + 8 * w))
    have q9 : d < 12 := by omega
    have Q := fun k => P_comes (A := A) (w := w) (s := s) (d := d) 163 k
    have r : ∀ k, (k < 11 ∨ 970 ≤ k ∨ (k - 10) % 80 = 0 ∨ 13 ≤ (k - 10) % 80) → ¬ (1116 + 8 * w ≤ k ∧ k < 1119 + 8 * w) → u_m_comes w s d A 163 k = A 163 k := fun k q q1 => by
      rw [Q, if_neg (by omega), if_neg (by omega), if_neg (by omega), if_neg (by omega)]
    refine ⟨q1, q2, ?_, ⟨ne w 1 hw.1 (by omega), ne w 2 hw.1 (by omega)⟩, ?_, ?_⟩
    · rw [eU]
      have o := By_of h
      have xo := X_open (X_open o.x hh.1.1 (by omega)) hw.1 (by omega)
      have b1 := By_comes (C := x_up C (88 + w) 2 v) ⟨o.f, o.s, xo, o.k, o.t⟩ hw hh.2.2.2.1 (by omega) hs hd f0 f1
      exact By_comes b1 (by rw [r 1 (by omega) (by omega)]; exact hh.1) (by omega) (by rw [r _ (by omega) (by omega)]; omega) (by rw [r 0 (by omega) (by omega)]; exact hs) (by rw [r _ (by omega) (by omega), r _ (by omega) (by omega), hh.2.2.1]; unfold y_sz; exact he) g0 (fun zz => by rw [r _ (by omega) (by omega)] at zz; omega)
    · have := congrFun (congrFun eU (88 + w)) 3
      have t := congrFun (congrFun eU (88 + w)) 4
      rw [x_up_nk (by omega)] at this t
      rw [this, t, put_ne (w := c) (j := 3) (by omega) (by omega), put_ne (w := c) (j := 4) (by omega) (by omega)]
      exact put_at
    · intro k q q1 q2
      rw [P_comes, if_neg (by omega), if_neg (by omega), if_neg (by omega), if_neg (by omega), r k (by omega) (by omega)]
def y_fa (kd : Int) : Int := if kd = 1 ∨ kd = 2 then (if ¬ kd = 2 then 2 else 3) else 0
theorem B_goes {C A : Int → Int → Int} {w c0 kd rd l : Int} (h : y_B (x_up C (88 + w) 2 (max 0 (c0 - y_fa kd * rd))) A) (hw : 0 ≤ w ∧ w < A 163 1) (hk : C (88 + w) 1 = kd) (hl : 0 ≤ l) : y_B (x_up C (88 + w) 2 (max 0 (c0 - y_fa kd * (rd + l)))) (u_m_goes w l A) ∧ ∀ k, k ≠ 1115 + 8 * w → u_m_goes w l A 163 k = A 163 k := by
  have hW := h.i.nw
  have e0 := h.f.w0 w hw.1 (by omega)
  have e1 := h.f.w1 w hw.1 (by omega)
  rw [x_up_nk (by omega), hk] at e0
  rw [x_up_self] at e1
  have kdr := h.i.kd w hw.1 (by omega) hw.2
  have key : u_m_goes w l A = x_up A 163 (1115 + 8 * w) (max 0 (c0 - y_fa kd * (rd + l))) := by
    unfold u_m_goes v_m_falls
    rw [← e0, ← e1]
    unfold y_fa
    by_cases z1 : kd = 1
    · subst z1
      simp only [show ¬ ((1 : Int) = 2) by omega, if_true, if_false, not_true, not_false_iff, true_or, false_or, or_false]
      split <;> congr 1 <;> omega
    · by_cases z2 : kd = 2
      · subst z2
        simp only [show ¬ ((2 : Int) = 1) by omega, if_true, if_false, not_true, not_false_iff, true_or, false_or, or_true]
        split <;> congr 1 <;> omega
      · simp only [z1, z2, if_true, if_false, not_true, not_false_iff, or_self]
        split <;> congr 1 <;> omega
  have rng : 0 ≤ max 0 (c0 - y_fa kd * (rd + l)) ∧ max 0 (c0 - y_fa kd * (rd + l)) ≤ 1000 := by
    have := kdr.2.2
    rw [← e1] at this
    unfold y_fa at *
    by_cases z1 : kd = 1
    · subst z1
      simp only [show ¬ ((1 : Int) = 2) by omega, if_true, if_false, not_true, not_false_iff, true_or, false_or, or_false] at *
      omega
    · by_cases z2 : kd = 2
      · subst z2
        simp only [show ¬ ((2 : Int) = 1) by omega, if_true, if_false, not_true, not_false_iff, true_or, false_or, or_true] at *
        omega
      · simp only [z1, z2, if_true, if_false, not_true, not_false_iff, or_self] at *
        omega
  rw [key]
  refine ⟨?_, fun k q => x_up_nk q⟩
  have := B_charge h hw rng
  rwa [x_up_up] at this
theorem lb_cm {h o w v : Int} {C : Int → Int → Int} (hh : 0 ≤ h ∧ h < 12) (hw : 0 ≤ w) : v_lengthBetween h o (x_up C (88 + w) 2 v) = v_lengthBetween h o C := by
  unfold v_lengthBetween v_lengthTo
  rw [x_up_ne (by omega), x_up_ne (by omega)]
theorem gl_end {V : Int → (Int → Int → Int) → Int} {U : Int → (Int → Int → Int) → Int → Int → Int} {w c f c0 kd : Int} (H : y_ARR w c V U) : ∀ (kc km : Nat) (C A : Int → Int → Int) (h rd i : Int), 8 - i < (kc : Int) → 17 - 2 * i < (km : Int) → 0 ≤ i → 0 ≤ rd → i ≤ 8 → y_B (x_up C (88 + w) 2 (max 0 (c0 - y_fa kd * rd))) (x_up A 163 (23 + 80 * h) (x_w (1 + A 163 (23 + 80 * h)))) → y_hi A w c → C (88 + w) 1 = kd → C (88 + w) 2 = c0 → (0 ≤ h ∧ h < A 163 0) → (0 ≤ f ∧ f < A 163 0) → ∃ C2 A2 h2 rd2 dk2 i2 j2, gl V U f kc C h rd 0 i = (C2, h2, rd2, dk2, i2) ∧ l_n_end_a w f c km A h i 0 1 = (A2, h2, j2, dk2, 0) ∧ (0 ≤ h2 ∧ h2 < A 163 0) ∧ 0 ≤ rd2 ∧ C2 (88 + w) 1 = kd ∧ C2 (88 + w) 2 = c0 ∧ y_fx w c A A2 ∧ ((dk2 = 0 ∧ y_B (x_up C2 (88 + w) 2 (max 0 (c0 - y_fa kd * rd2))) A2 ∧ y_hi A2 w c) ∨ (dk2 = 1 ∧ y_By (x_up C2 (88 + w) 2 (max 0 (c0 - y_fa kd * rd2))) A2 (-1) (-1) ∧ C2 (88 + w) 3 = 0 ∧ C2 (88 + w) 4 = h2)) := by
  intro kc
  induction kc with
  | zero => intro km C A h rd i z1 z2 z3 z4 z5; omega
  | succ kc ih =>
    intro km C A h rd i z1 z2 z3 z4 z5 hB hi e1 e2 hh hf
    cases km with
    | zero => omega
    | succ km =>
    have hW := hB.i.nw
    have hn := hB.i.n
    have hw0 := hi.1
    have nA : ∀ k, k ≠ 23 + 80 * h → x_up A 163 (23 + 80 * h) (x_w (1 + A 163 (23 + 80 * h))) 163 k = A 163 k := fun k q => x_up_nk q
    rw [nA _ (by omega)] at hW hn
    have oc := hB.f.oc f hf.1 (by omega)
    rw [x_up_ne (by omega), nA _ (by omega)] at oc
    rw [gl, l_n_end_a, if_neg (show ¬ (1 : Int) = 0 by omega), oc]
    have fr1 : y_fx w c A (x_up A 163 (23 + 80 * h) (x_w (1 + A 163 (23 + 80 * h)))) := fun k q1 q2 q3 => nA k (by omega)
    by_cases q : A 163 (25 + 80 * f) ≤ i
    · rw [if_pos q, if_pos q, ne_in]
      exact ⟨_, _, _, _, _, _, _, rfl, rfl, hh, z4, e1, e2, fr1, Or.inl ⟨rfl, hB, hi_fr hi (nA 1 (by omega)) (fun k q1 q2 => nA k (by omega))⟩⟩
    · rw [if_neg q, if_neg q, if_neg (show ¬ ¬ (0 : Int) = 0 by omega)]
      have ocr := hB.i.oc f hf.1 (by omega) (by rw [nA _ (by omega)]; exact hf.2)
      rw [nA _ (by omega)] at ocr
      have os := hB.i.os f i hf.1 (by omega) z3 (by omega) (by rw [nA _ (by omega)]; exact hf.2) (by rw [nA _ (by omega)]; omega)
      rw [nA _ (by omega), nA _ (by omega)] at os
      have ot := hB.f.ot f i hf.1 (by omega) z3 (by omega)
      rw [x_up_ne (by omega), nA _ (by omega)] at ot
      have n1 := hB.f.n
      rw [x_up_ne (by have := hi.1; omega), nA _ (by omega)] at n1
      have eo : v_otherAt f i C = A 163 (26 + 80 * f + i) := by
        unfold v_otherAt
        rw [oc, if_neg (by omega), if_neg (by omega), if_neg (by omega), ot]
      rw [eo, n1, if_pos os]
      have ln := hB.i.ln h (A 163 (26 + 80 * f + i)) hh.1 (by omega) os.1 (by omega)
      have lb := F_lb hB.f (a := h) (b := A 163 (26 + 80 * f + i)) (by rw [nA _ (by omega)]; omega) (by rw [nA _ (by omega)]; exact hh) ⟨os.1, by omega⟩
      rw [lb_cm ⟨hh.1, by omega⟩ hi.1.1] at lb
      rw [nA _ (by omega)] at ln lb
      rw [lb]
      have G := B_goes (l := A 163 (970 + 12 * h + A 163 (26 + 80 * f + i))) hB (by rw [nA _ (by omega)]; exact hi.1) e1 ln.1
      have hi1 := hi_fr (hi_fr hi (nA 1 (by omega)) (fun k q1 q2 => nA k (by omega))) (G.2 1 (by omega)) (fun k q1 q2 => G.2 k (by omega))
      have fr2 : y_fx w c A (u_m_goes w (A 163 (970 + 12 * h + A 163 (26 + 80 * f + i))) (x_up A 163 (23 + 80 * h) (x_w (1 + A 163 (23 + 80 * h))))) := fr_tr fr1 (fun k q1 q2 q3 => G.2 k (by omega))
      obtain ⟨G1, G2⟩ := G
      have s0 := (G2 0 (by omega)).trans (nA 0 (by omega))
      revert G1 G2 hi1 fr2 s0
      generalize u_m_goes w (A 163 (970 + 12 * h + A 163 (26 + 80 * f + i))) (x_up A 163 (23 + 80 * h) (x_w (1 + A 163 (23 + 80 * h)))) = A1
      intro hi1 fr2 G1 G2 s0
      rcases H C A1 (A 163 (26 + 80 * f + i)) _ G1 hi1 (by rw [s0]; exact os) with R | R
      · obtain ⟨r1, r2, r3, r4⟩ := R
        rw [r1, r2, r3, r4, if_neg (show ¬ ¬ (0 : Int) = 0 by omega)]
        have hB2 := B_fl G1 (a := A 163 (26 + 80 * f + i)) (v := x_w (1 + C (3 + 7 * A 163 (26 + 80 * f + i)) 7)) (by rw [s0]; exact os)
        rw [x_up_cm (by omega)] at hB2
        have fe := G1.f.fl (A 163 (26 + 80 * f + i)) os.1 (by omega)
        rw [x_up_ne (by omega)] at fe
        obtain ⟨C2, A2, h2, rd2, dk2, i2, j2, a1, a2, a3, a4, a5, a6, a7, a8⟩ := ih km _ A1 (A 163 (26 + 80 * f + i)) (rd + A 163 (970 + 12 * h + A 163 (26 + 80 * f + i))) (1 + i) (by omega) (by omega) (by omega) (by omega) (by omega) (by rw [← fe]; exact hB2) hi1 (by rw [x_up_ne (by omega)]; exact e1) (by rw [x_up_ne (by omega)]; exact e2) (by rw [s0]; exact os) (by rw [s0]; exact hf)
        rw [s0] at a3
        exact ⟨C2, A2, h2, rd2, dk2, i2, j2, a1, a2, a3, a4, a5, a6, fr_tr fr2 a7, a8⟩
      · obtain ⟨r1, r2, r3, r4, r5, r6⟩ := R
        rw [r1, r2, if_pos (show ¬ (1 : Int) = 0 by omega), ne_in, gl_in]
        exact ⟨_, _, _, _, _, _, _, rfl, rfl, os, by omega, r4.1.trans e1, r4.2.trans e2, fr_tr fr2 r6, Or.inr ⟨rfl, r3, r5.1, r5.2⟩⟩
