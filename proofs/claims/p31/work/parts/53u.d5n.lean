/-! END: parts -/
theorem B_fl {C A : Int → Int → Int} (h : y_B C A) {a v : Int} (ha : 0 ≤ a ∧ a < A 163 0) : y_B (x_up C (3 + 7 * a) 7 v) (x_up A 163 (23 + 80 * a) v) := by
  have hn := h.i.n
  have hc := h.i.nc
  have hw := h.i.nw
  have hf := h.f
  have hI := h.i
  refine ⟨⟨?_, ?_, ?_⟩, ⟨?_, ?_, ?_⟩, ?_⟩
  · refine ⟨?_, ?_, ?_, ?_, ?_, ?_, ?_, ?_, ?_, ?_, ?_, ?_, ?_, ?_⟩
    · have e := hf.n
      simp only [x_up] at *
      grind (splits := 24)
    · have e := hf.nw
      simp only [x_up] at *
      grind (splits := 24)
    · have e := hf.nc
      simp only [x_up] at *
      grind (splits := 24)
    · have e := hf.hr
      simp only [x_up] at *
      grind (splits := 24)
    · intro s g0 g1
      have e := hf.dk s
      simp only [x_up] at *
      grind (splits := 24)
    · intro s g0 g1
      have e := hf.oc s
      simp only [x_up] at *
      grind (splits := 24)
    · intro s g0 g1
      have e := hf.wa s
      simp only [x_up] at *
      grind (splits := 24)
    · intro s g0 g1
      have e := hf.fl s
      simp only [x_up] at *
      grind (splits := 24)
    · intro s d g0 g1 g2 g3 g4
      have e := hf.ct s d
      simp only [x_up] at *
      grind (splits := 24)
    · intro s t g0 g1 g2 g3 g4
      have e := hf.ln s t
      simp only [x_up] at *
      grind (splits := 24)
    · intro s k g0 g1 g2 g3
      have e := hf.ot s k
      simp only [x_up] at *
      grind (splits := 24)
    · intro s g0 g1
      have e := hf.dm s
      simp only [x_up] at *
      grind (splits := 24)
    · intro s i g0 g1 g2 g3
      have e := hf.db s i
      simp only [x_up] at *
      grind (splits := 24)
    · intro s i g0 g1 g2 g3
      have e := hf.dw s i
      simp only [x_up] at *
      grind (splits := 24)
  · exact FW_fr h.f.toy_FW (fun a k q1 q2 q3 => (by simp only [x_up]; grind)) (fun k q1 q2 q3 => (by simp only [x_up]; grind))
  · exact FK_fr h.f.toy_FK (fun a k q1 q2 => (by simp only [x_up]; grind)) (fun k q1 q2 => (by simp only [x_up]; grind))
  · refine ⟨?_, ?_, ?_, ?_, ?_, ?_, ?_, ?_, ?_, ?_, ?_, ?_, ?_⟩
    · have e := hI.n
      simp only [x_up] at *
      grind (splits := 24)
    · have e := hI.nw
      simp only [x_up] at *
      grind (splits := 24)
    · have e := hI.nc
      simp only [x_up] at *
      grind (splits := 24)
    · have e := hI.hr
      simp only [x_up] at *
      grind (splits := 24)
    · intro s g0 g1 g2
      have e := hI.dk s
      simp only [x_up] at *
      grind (splits := 24)
    · intro s g0 g1 g2
      have e := hI.de s
      simp only [x_up] at *
      grind (splits := 24)
    · intro s t g0 g1 g2 g3 g4
      have e := hI.dl s t
      simp only [x_up] at *
      grind (splits := 24)
    · intro s t g0 g1 g2 g3
      have e := hI.ln s t
      simp only [x_up] at *
      grind (splits := 24)
    · intro s g0 g1 g2
      have e := hI.oc s
      simp only [x_up] at *
      grind (splits := 24)
    · intro s k g0 g1 g2 g3 g4 g5
      have e := hI.os s k
      simp only [x_up] at *
      grind (splits := 24)
    · intro s g0 g1 g2
      have e := hI.wa s
      simp only [x_up] at *
      grind (splits := 24)
    · intro s g0 g1
      have e := hI.dm s
      simp only [x_up] at *
      grind (splits := 24)
    · intro s i g0 g1 g2 g3 g4
      have e := hI.db s i
      simp only [x_up] at *
      grind (splits := 24)
  · exact IW_fr h.i.toy_IW (by simp only [x_up]; grind) (by simp only [x_up]; grind) (fun k q1 q2 q3 => (by simp only [x_up]; grind)) (fun k q1 q2 q3 => (by simp only [x_up]; grind))
  · exact IK_fr h.i.toy_IK (by simp only [x_up]; grind) (by simp only [x_up]; grind) (by simp only [x_up]; grind) (fun k q1 q2 => (by simp only [x_up]; grind)) (fun w q1 q2 q3 q4 => (by simp only [x_up]; grind))
  · exact FT_fr h.t h.i.toy_IK (fun c q1 q2 => (by simp only [x_up]; grind)) (by simp only [x_up]; grind) (fun k q1 q2 => (by simp only [x_up]; grind)) (fun w q1 q2 q3 => (by simp only [x_up]; grind))

theorem fill_a_ne {s d n x : Int} : ∀ (k : Nat) (M : Int → Int → Int) (i : Int) (a j : Int), a ≠ 4 + 7 * s → (l_fill_a s d n x k M i).1 a j = M a j := by
  intro k
  induction k with
  | zero => intro M i a j h; rfl
  | succ k ih =>
    intro M i a j h
    rw [l_fill_a]
    split
    · rfl
    · split
      · rw [ih _ _ _ _ h, x_up_ne h]
      · first | rfl | rw [ih _ _ _ _ h]
theorem fill_ne {s d n x a j : Int} {M : Int → Int → Int} (h : a ≠ 4 + 7 * s) : u_fill s d n x M a j = M a j := fill_a_ne 3 M 0 a j h
theorem fill_a_cm {s d n x a j v : Int} (h : a ≠ 4 + 7 * s) (h2 : a ≠ 3 + 7 * s) : ∀ (k : Nat) (M : Int → Int → Int) (i : Int), (l_fill_a s d n x k (x_up M a j v) i).1 = x_up (l_fill_a s d n x k M i).1 a j v := by
  intro k
  induction k with
  | zero => intro M i; rfl
  | succ k ih =>
    intro M i
    rw [l_fill_a, l_fill_a]
    rw [x_up_ne (fun z => h2 z.symm)]
    split
    · rfl
    · split
      · rw [x_up_cm (fun z => h z.1), ih]
      · first | rfl | rw [ih]
theorem fill_cm {s d n x a j v : Int} {M : Int → Int → Int} (h : a ≠ 4 + 7 * s) (h2 : a ≠ 3 + 7 * s) : u_fill s d n x (x_up M a j v) = x_up (u_fill s d n x M) a j v := fill_a_cm h h2 3 M 0
theorem move_ne {w p s d a j : Int} {M : Int → Int → Int} (h : ¬ (a = 88 + w ∧ (j = 3 ∨ j = 4 ∨ j = 5))) : u_moveTo w p s d M a j = M a j := by
  unfold u_moveTo
  rw [x_up_no (by omega), x_up_no (by omega), x_up_no (by omega)]
theorem move_cm {w p s d a j v : Int} {M : Int → Int → Int} (h : ¬ (a = 88 + w ∧ (j = 3 ∨ j = 4 ∨ j = 5))) : u_moveTo w p s d (x_up M a j v) = x_up (u_moveTo w p s d M) a j v := by
  unfold u_moveTo
  rw [x_up_cm (a := a) (k := j) (v := v) (by omega), x_up_cm (a := a) (k := j) (v := v) (by omega), x_up_cm (a := a) (k := j) (v := v) (by omega)]
theorem put_ne {w s d a j : Int} {M : Int → Int → Int} (h1 : a ≠ 4 + 7 * s) (h : ¬ (a = 88 + w ∧ (j = 3 ∨ j = 4 ∨ j = 5))) : u_putInDock w s d M a j = M a j := by
  unfold u_putInDock
  rw [move_ne h, fill_ne h1]
theorem put_cm {w s d x v : Int} {M : Int → Int → Int} (hs : 0 ≤ s ∧ s < 12) (hx : 0 ≤ x) : u_putInDock w s d (x_up M (88 + x) 2 v) = x_up (u_putInDock w s d M) (88 + x) 2 v := by
  unfold u_putInDock
  rw [x_up_no (by omega), fill_cm (by omega) (by omega), move_cm (by omega)]
theorem put_at {w s d : Int} {M : Int → Int → Int} : u_putInDock w s d M (88 + w) 3 = 0 ∧ u_putInDock w s d M (88 + w) 4 = s := by
  unfold u_putInDock u_moveTo
  constructor
  · rw [x_up_nk (by omega), x_up_nk (by omega), x_up_self]
  · rw [x_up_nk (by omega), x_up_self]
theorem room_cm {s n x v : Int} {M : Int → Int → Int} (hs : 0 ≤ s ∧ s < 12) (hx : 0 ≤ x) : v_roomFor s n (x_up M (88 + x) 2 v) = v_roomFor s n M := room_cg (x_up_ne (by omega)) (fun d => x_up_ne (by omega)) _ _
theorem d0_cm {w s v : Int} {M : Int → Int → Int} (hs : 0 ≤ s ∧ s < 12) (hw : 0 ≤ w) : v_docksBoth0 w s (x_up M (88 + w) 2 v) = v_docksBoth0 w s M ∧ u_docksBoth0 w s (x_up M (88 + w) 2 v) = x_up (u_docksBoth0 w s M) (88 + w) 2 v := by
  unfold v_docksBoth0 u_docksBoth0
  rw [x_up_no (f := M) (a := 88 + w) (k := 2) (b := 88 + w) (j := 1) (by omega), room_cm hs hw, put_cm hs hw, x_up_ne (f := M) (a := 88 + w) (b := 3 + 7 * s) (by omega)]
  refine ⟨rfl, ?_⟩
  split
  · rfl
  · rw [x_up_cm (by omega)]
theorem d0_ne {w s x j : Int} {M : Int → Int → Int} (hs : 0 ≤ s ∧ s < 12) (hw : 0 ≤ w) (hx : 0 ≤ x) (hj : j < 3) : u_docksBoth0 w s M (88 + x) j = M (88 + x) j := by
  unfold u_docksBoth0
  split
  · rw [put_ne (by omega) (by omega)]
  · rw [x_up_ne (by omega)]
theorem d1_cm {w p s v : Int} {M : Int → Int → Int} (hs : 0 ≤ s ∧ s < 12) (hw : 0 ≤ w) (hp : 0 ≤ p) : v_docksBoth1 w p s (x_up M (88 + w) 2 v) = v_docksBoth1 w p s M ∧ u_docksBoth1 w p s (x_up M (88 + w) 2 v) = x_up (u_docksBoth1 w p s M) (88 + w) 2 v := by
  have f := fun (d n x : Int) (K : Int → Int → Int) => fill_cm (s := s) (d := d) (n := n) (x := x) (a := 88 + w) (j := 2) (v := v) (M := K) (by omega) (by omega)
  have r := fun (n : Int) (K : Int → Int → Int) => room_cm (s := s) (n := n) (x := w) (v := v) (M := K) hs hw
  have u := fun (x d : Int) (K : Int → Int → Int) => put_cm (w := x) (s := s) (d := d) (x := w) (v := v) (M := K) hs hw
  have n1 := fun (x : Int) (K : Int → Int → Int) => x_up_no (f := K) (a := 88 + w) (k := 2) (v := v) (b := 88 + x) (j := 1) (by omega)
  have n2 := fun (K : Int → Int → Int) => x_up_ne (f := K) (a := 88 + w) (k := 2) (v := v) (b := 3 + 7 * s) (j := 7) (by omega)
  unfold v_docksBoth1 u_docksBoth1
  simp only [n1, r, f, u, n2]
  refine ⟨trivial, ?_⟩
  split
  · split
    · rfl
    · rw [x_up_cm (by omega)]
  · rw [x_up_cm (by omega)]
theorem d1_ne {w p s x j : Int} {M : Int → Int → Int} (hs : 0 ≤ s ∧ s < 12) (hw : 0 ≤ w) (hp : 0 ≤ p) (hx : 0 ≤ x) (hj : j < 3) : u_docksBoth1 w p s M (88 + x) j = M (88 + x) j := by
  unfold u_docksBoth1
  split
  · split
    · rw [put_ne (by omega) (by omega), put_ne (by omega) (by omega), fill_ne (by omega)]
    · rw [x_up_ne (by omega), fill_ne (by omega), fill_ne (by omega)]
  · rw [x_up_ne (by omega)]
/-- all but what is said of two wheels, and of partners -/
def y_By (C A : Int → Int → Int) (w c : Int) : Prop := (y_F C A) ∧ (y_IS A) ∧ (y_IX A w c) ∧ (y_IK A) ∧ (y_FT C A)
theorem y_By.f {C A : Int → Int → Int} {w c : Int} (h : y_By C A w c) : y_F C A := h.1
theorem y_By.s {C A : Int → Int → Int} {w c : Int} (h : y_By C A w c) : y_IS A := h.2.1
theorem y_By.x {C A : Int → Int → Int} {w c : Int} (h : y_By C A w c) : y_IX A w c := h.2.2.1
theorem y_By.k {C A : Int → Int → Int} {w c : Int} (h : y_By C A w c) : y_IK A := h.2.2.2.1
theorem y_By.t {C A : Int → Int → Int} {w c : Int} (h : y_By C A w c) : y_FT C A := h.2.2.2.2
theorem By_comes {C A : Int → Int → Int} {w c s d : Int} (h : y_By C A w c) (hw : 0 ≤ w ∧ w < A 163 1) (hwc : w ≠ c) (hp : A 163 (1116 + 8 * w) ≠ 1) (hs : 0 ≤ s ∧ s < A 163 0) (hd : 0 ≤ d ∧ d + y_sz (A 163 (1114 + 8 * w)) ≤ A 163 (10 + 80 * s)) (f0 : A 163 (11 + 80 * s + d) = -1) (f1 : A 163 (1114 + 8 * w) = 2 → A 163 (12 + 80 * s + d) = -1) : y_By (u_putInDock w s d C) (u_m_comes w s d A) c (-1) := by
  have hn := h.s.n
  have hW := h.s.nw
  have hD := h.s.dk s hs.1 (by omega) hs.2
  have q9 : d < 12 ∧ (A 163 (1114 + 8 * w) = 2 → d < 11) := by have := hd.2; unfold y_sz at this; split at this <;> omega
  have Q := fun k => P_comes (A := A) (w := w) (s := s) (d := d) 163 k
  have r : ∀ k, (k < 11 ∨ 970 ≤ k ∨ (k - 10) % 80 = 0 ∨ 13 ≤ (k - 10) % 80) → ¬ (1116 + 8 * w ≤ k ∧ k < 1119 + 8 * w) → u_m_comes w s d A 163 k = A 163 k := fun k q q1 => by
    rw [Q, if_neg (by omega), if_neg (by omega), if_neg (by omega), if_neg (by omega)]
  refine ⟨F_comes h.f ⟨hw.1, by omega⟩ ⟨hs.1, by omega⟩ hd hD.2, ?_, X_comes h.x hw hwc hs hd f0 f1, ?_, ?_⟩
  · exact IS_fr h.s (by rw [r 1 (by omega) (by omega)]; exact hW) (fun k q1 q2 q3 q4 => r k (by omega) (by omega))
  · exact IK_fr h.k (r 0 (by omega) (by omega)) (by rw [r 1 (by omega) (by omega)]; omega) (r 2 (by omega) (by omega)) (fun k q1 q2 => r k (by omega) (by omega)) (fun x x0 x1 x2 x3 => by
      have : x ≠ w := by intro z; rw [z] at x3; exact hp x3
      exact ⟨(r _ (by omega) (by omega)).trans x3, r _ (by omega) (by omega)⟩)
  · exact FT_fr h.t h.k (fun v v0 v1 => put_ne (by omega) (by omega)) (r 2 (by omega) (by omega)) (fun k q1 q2 => r k (by omega) (by omega)) (fun x x0 x1 x2 => r _ (by omega) (by omega))
theorem By_rec {C A C2 A2 : Int → Int → Int} {w c : Int} (h : y_By C A w c) (hw : 0 ≤ w ∧ w < A 163 1) (hp : A 163 (1116 + 8 * w) ≠ 1)
    (hC : ∀ a k, a ≠ 88 + w → C2 a k = C a k) (hA : ∀ k, ¬ (1115 + 8 * w ≤ k ∧ k < 1122 + 8 * w) → A2 163 k = A 163 k)
    (e0 : C2 (88 + w) 1 = C (88 + w) 1) (e1 : C2 (88 + w) 2 = A2 163 (1115 + 8 * w)) (e2 : C2 (88 + w) 3 = A2 163 (1116 + 8 * w)) (e3 : C2 (88 + w) 4 = A2 163 (1117 + 8 * w)) (e4 : C2 (88 + w) 5 = A2 163 (1118 + 8 * w)) (e6 : C2 (88 + w) 7 = C (88 + w) 7) (en : C2 (88 + w) 8 = C (88 + w) 8) (e7 : C2 (88 + w) 9 = A2 163 (1121 + 8 * w)) (b6 : A2 163 (1120 + 8 * w) = A 163 (1120 + 8 * w)) (r2 : (0 ≤ A2 163 (1116 + 8 * w) ∧ A2 163 (1116 + 8 * w) ≤ 3) ∧ A2 163 (1116 + 8 * w) ≠ 1) (r1 : 0 ≤ A2 163 (1115 + 8 * w) ∧ A2 163 (1115 + 8 * w) ≤ 1000) : y_By C2 A2 w c := by
  have hW := h.s.nw
  have hw2 : 0 ≤ w ∧ w < 60 := ⟨hw.1, by omega⟩
  have k0 := hA (1114 + 8 * w) (by omega)
  refine ⟨F_rec h.f w hw2 hC (fun k q => hA k (by omega)) ?_ e1 e2 ?_ ?_ ?_ ?_ e7, ?_, ?_, ?_, ?_⟩
  · rw [e0, k0]; exact h.f.w0 w hw2.1 hw2.2
  · rw [if_neg r2.2]; exact e3
  · rw [if_neg r2.2]; exact e4
  · rw [e6, b6]; exact h.f.w6 w hw2.1 hw2.2
  · rw [en, b6]; exact h.f.wn w hw2.1 hw2.2
  · exact IS_fr h.s (by rw [hA 1 (by omega)]; exact hW) (fun k q1 q2 q3 q4 => hA k (by omega))
  · exact X_rec h.x hw2 (fun k q1 q2 => hA k (by omega)) (fun _ => ⟨by rw [k0]; exact (h.x.kd w hw2.1 hw2.2 hw.2).1, r2.1, r1⟩) (by rw [b6]; exact h.x.bk w hw2.1 hw2.2)
  · exact IK_fr h.k (hA 0 (by omega)) (by rw [hA 1 (by omega)]; omega) (hA 2 (by omega)) (fun k q1 q2 => hA k (by omega)) (fun x x0 x1 x2 x3 => by
      have : x ≠ w := by intro z; rw [z] at x3; exact hp x3
      exact ⟨(hA _ (by omega)).trans x3, hA _ (by omega)⟩)
  · exact FT_fr h.t h.k (fun v v0 v1 => hC _ _ (by omega)) (hA 2 (by omega)) (fun k q1 q2 => hA k (by omega)) (fun x x0 x1 x2 => hA _ (by omega))
theorem By_street {C A : Int → Int → Int} {w c s : Int} (h : y_By C A w c) (hw : 0 ≤ w ∧ w < A 163 1) (hp : A 163 (1116 + 8 * w) ≠ 1) (hs : 0 ≤ s ∧ s < A 163 0) : y_By (u_moveTo w 3 s (-1) C) (u_m_streets w s A) c (-1) := by
  have hW := h.s.nw
  have hw2 : 0 ≤ w ∧ w < 60 := ⟨hw.1, by omega⟩
  have kd := h.x.kd w hw2.1 hw2.2 hw.2
  have Y : y_By (u_moveTo w 3 s (-1) C) (u_m_streets w s A) w c := by
    refine By_rec h hw hp (fun a k q => move_ne (by omega)) (fun k q => ?_) (move_ne (by omega)) ?_ ?_ ?_ ?_ (move_ne (by omega)) (move_ne (by omega)) ?_ ?_ ?_ ?_
    · unfold u_m_streets; rw [x_up_nk (by omega), x_up_nk (by omega), x_up_nk (by omega)]
    · rw [move_ne (by omega)]; unfold u_m_streets; rw [x_up_nk (by omega), x_up_nk (by omega), x_up_nk (by omega)]; exact h.f.w1 w hw2.1 hw2.2
    · unfold u_moveTo u_m_streets; rw [x_up_nk (by omega), x_up_nk (by omega), x_up_self, x_up_nk (by omega), x_up_nk (by omega), x_up_self]
    · unfold u_moveTo u_m_streets; rw [x_up_nk (by omega), x_up_self, x_up_nk (by omega), x_up_self]
    · unfold u_moveTo u_m_streets; rw [x_up_self, x_up_self]
    · rw [move_ne (by omega)]; unfold u_m_streets; rw [x_up_nk (by omega), x_up_nk (by omega), x_up_nk (by omega)]; exact h.f.w7 w hw2.1 hw2.2
    · unfold u_m_streets; rw [x_up_nk (by omega), x_up_nk (by omega), x_up_nk (by omega)]
    · unfold u_m_streets; rw [x_up_nk (by omega), x_up_nk (by omega), x_up_self]; omega
    · unfold u_m_streets; rw [x_up_nk (by omega), x_up_nk (by omega), x_up_nk (by omega)]; exact kd.2.2
  have m2 : u_m_streets w s A 163 (1116 + 8 * w) = 3 := by unfold u_m_streets; rw [x_up_nk (by omega), x_up_nk (by omega), x_up_self]
  have m3 : u_m_streets w s A 163 (1117 + 8 * w) = s := by unfold u_m_streets; rw [x_up_nk (by omega), x_up_self]
  have m4 : u_m_streets w s A 163 (1118 + 8 * w) = -1 := by unfold u_m_streets; rw [x_up_self]
  have m0 : u_m_streets w s A 163 0 = A 163 0 := by unfold u_m_streets; rw [x_up_nk (by omega), x_up_nk (by omega), x_up_nk (by omega)]
  exact ⟨Y.f, Y.s, X_in Y.x (by omega) m4 (fun _ => by rw [m3, m0]; exact hs), Y.k, Y.t⟩
theorem By_par {C A : Int → Int → Int} {w v : Int} (h : y_By C A (-1) (-1)) (hw : 0 ≤ w ∧ w < A 163 1) : y_By (x_up C (88 + w) 9 v) (x_up A 163 (1121 + 8 * w) v) (-1) (-1) := by
  have hW := h.s.nw
  have hw2 : 0 ≤ w ∧ w < 60 := ⟨hw.1, by omega⟩
  have hA : ∀ k, k ≠ 1121 + 8 * w → x_up A 163 (1121 + 8 * w) v 163 k = A 163 k := fun k q => x_up_nk q
  have hC : ∀ a k, ¬ (a = 88 + w ∧ k = 9) → x_up C (88 + w) 9 v a k = C a k := fun a k q => x_up_no q
  refine ⟨F_rec h.f w hw2 (fun a k q => hC a k (by omega)) (fun k q => hA k (by omega)) ?_ ?_ ?_ ?_ ?_ ?_ ?_ ?_, ?_, ?_, ?_, ?_⟩
  · rw [hC _ _ (by omega), hA _ (by omega)]; exact h.f.w0 w hw2.1 hw2.2
  · rw [hC _ _ (by omega), hA _ (by omega)]; exact h.f.w1 w hw2.1 hw2.2
  · rw [hC _ _ (by omega), hA _ (by omega)]; exact h.f.w2 w hw2.1 hw2.2
  · rw [hC _ _ (by omega), hA _ (by omega), hA _ (by omega)]; exact h.f.w3 w hw2.1 hw2.2
  · rw [hC _ _ (by omega), hA _ (by omega), hA _ (by omega), hA _ (by omega)]; exact h.f.w4 w hw2.1 hw2.2
  · rw [hC _ _ (by omega), hA _ (by omega)]; exact h.f.w6 w hw2.1 hw2.2
  · rw [hC _ _ (by omega), hA _ (by omega)]; exact h.f.wn w hw2.1 hw2.2
  · rw [x_up_self, x_up_self]
  · exact IS_fr h.s (by rw [hA 1 (by omega)]; exact hW) (fun k q1 q2 q3 q4 => hA k (by omega))
  · have e0 := hA 0 (by omega)
    have e1 := hA 1 (by omega)
    refine ⟨by rw [e0]; exact h.x.n, by rw [e1]; exact h.x.nw, ?_, ?_, ?_, ?_, ?_, ?_, ?_, ?_⟩
    · intro s s0 s1; rw [hA (10 + 80 * s) (by omega), e0]; exact h.x.dk s s0 s1
    · intro s d g0 g1 d0 d1; rw [hA (10 + 80 * s) (by omega), hA (11 + 80 * s + d) (by omega), e0, e1]; exact h.x.cr s d g0 g1 d0 d1
    · intro s d x g0 g1 d0 d1 x0 x1; rw [e0, hA (10 + 80 * s) (by omega), hA (11 + 80 * s + d) (by omega), hA (1116 + 8 * x) (by omega), hA (1117 + 8 * x) (by omega), hA (1118 + 8 * x) (by omega), hA (1114 + 8 * x) (by omega)]; exact h.x.ct s d x g0 g1 d0 d1 x0 x1
    · intro x x0 x1; rw [e1, hA (1114 + 8 * x) (by omega), hA (1116 + 8 * x) (by omega), hA (1115 + 8 * x) (by omega)]; exact h.x.kd x x0 x1
    · intro x x0 x1 x2 xw xc xp
      rw [e1] at x2; rw [hA (1116 + 8 * x) (by omega)] at xp
      have a := h.x.pd x x0 x1 x2 xw xc xp
      have q8 : A 163 (1118 + 8 * x) < 12 ∧ (A 163 (1114 + 8 * x) = 2 → A 163 (1118 + 8 * x) < 11) := by have := a.2.1.2; split at this <;> omega
      rw [hA (1114 + 8 * x) (by omega), hA (1117 + 8 * x) (by omega), hA (1118 + 8 * x) (by omega), hA (10 + 80 * A 163 (1117 + 8 * x)) (by omega), hA (11 + 80 * A 163 (1117 + 8 * x) + A 163 (1118 + 8 * x)) (by omega), hA (12 + 80 * A 163 (1117 + 8 * x) + A 163 (1118 + 8 * x)) (by omega)]
      exact a
    · intro x x0 x1; rw [e1, hA (1116 + 8 * x) (by omega), hA (1117 + 8 * x) (by omega), e0]; exact h.x.ps x x0 x1
    · intro x x0 x1; rw [e1, hA (1116 + 8 * x) (by omega), hA (1118 + 8 * x) (by omega)]; exact h.x.pn x x0 x1
    · intro x x0 x1; rw [hA (1120 + 8 * x) (by omega)]; exact h.x.bk x x0 x1
  · exact IK_fr h.k (hA 0 (by omega)) (by rw [hA 1 (by omega)]; omega) (hA 2 (by omega)) (fun k q1 q2 => hA k (by omega)) (fun x x0 x1 x2 x3 => ⟨(hA _ (by omega)).trans x3, hA _ (by omega)⟩)
  · exact FT_fr h.t h.k (fun v v0 v1 => hC _ _ (by omega)) (hA 2 (by omega)) (fun k q1 q2 => hA k (by omega)) (fun x x0 x1 x2 => hA _ (by omega))
theorem By_of {C A : Int → Int → Int} (h : y_B C A) : y_By C A (-1) (-1) := ⟨h.f, h.i.toy_IS, X_of h.i, h.i.toy_IK, h.t⟩
theorem By_to {C A : Int → Int → Int} (h : y_By C A (-1) (-1)) (p : y_PA A) : y_B C A := ⟨h.f, ⟨h.s, X_to h.x p, h.k⟩, h.t⟩

