theorem B_hr {C A : Int → Int → Int} (h : y_B C A) {t : Int} (ht : 0 ≤ t ∧ t < 24) : y_B (x_up C 1 6 t) (x_up A 163 3 t) := by
  have hn := h.i.n
  have hc := h.i.nc
  have hw := h.i.nw
  have hf := h.f
  have hI := h.i
  refine ⟨⟨?_, ?_, ?_⟩, ⟨?_, ?_, ?_⟩, ?_⟩
  · refine ⟨?_, ?_, ?_, ?_, ?_, ?_, ?_, ?_, ?_, ?_, ?_, ?_, ?_, ?_⟩
    · have e := hf.n
      simp only [x_up] at *
      grind (splits := 24)
    · have e := hf.nw
      simp only [x_up] at *
      grind (splits := 24)
    · have e := hf.nc
      simp only [x_up] at *
      grind (splits := 24)
    · have e := hf.hr
      simp only [x_up] at *
      grind (splits := 24)
    · intro s g0 g1
      have e := hf.dk s
      simp only [x_up] at *
      grind (splits := 24)
    · intro s g0 g1
      have e := hf.oc s
      simp only [x_up] at *
      grind (splits := 24)
    · intro s g0 g1
      have e := hf.wa s
      simp only [x_up] at *
      grind (splits := 24)
    · intro s g0 g1
      have e := hf.fl s
      simp only [x_up] at *
      grind (splits := 24)
    · intro s d g0 g1 g2 g3 g4
      have e := hf.ct s d
      simp only [x_up] at *
      grind (splits := 24)
    · intro s t g0 g1 g2 g3 g4
      have e := hf.ln s t
      simp only [x_up] at *
      grind (splits := 24)
    · intro s k g0 g1 g2 g3
      have e := hf.ot s k
      simp only [x_up] at *
      grind (splits := 24)
    · intro s g0 g1
      have e := hf.dm s
      simp only [x_up] at *
      grind (splits := 24)
    · intro s i g0 g1 g2 g3
      have e := hf.db s i
      simp only [x_up] at *
      grind (splits := 24)
    · intro s i g0 g1 g2 g3
      have e := hf.dw s i
      simp only [x_up] at *
      grind (splits := 24)
  · exact FW_fr h.f.toy_FW (fun a k q1 q2 q3 => (by simp only [x_up]; grind)) (fun k q1 q2 q3 => (by simp only [x_up]; grind))
  · exact FK_fr h.f.toy_FK (fun a k q1 q2 => (by simp only [x_up]; grind)) (fun k q1 q2 => (by simp only [x_up]; grind))
  · refine ⟨?_, ?_, ?_, ?_, ?_, ?_, ?_, ?_, ?_, ?_, ?_, ?_, ?_⟩
    · have e := hI.n
      simp only [x_up] at *
      grind (splits := 24)
    · have e := hI.nw
      simp only [x_up] at *
      grind (splits := 24)
    · have e := hI.nc
      simp only [x_up] at *
      grind (splits := 24)
    · have e := hI.hr
      simp only [x_up] at *
      grind (splits := 24)
    · intro s g0 g1 g2
      have e := hI.dk s
      simp only [x_up] at *
      grind (splits := 24)
    · intro s g0 g1 g2
      have e := hI.de s
      simp only [x_up] at *
      grind (splits := 24)
    · intro s t g0 g1 g2 g3 g4
      have e := hI.dl s t
      simp only [x_up] at *
      grind (splits := 24)
    · intro s t g0 g1 g2 g3
      have e := hI.ln s t
      simp only [x_up] at *
      grind (splits := 24)
    · intro s g0 g1 g2
      have e := hI.oc s
      simp only [x_up] at *
      grind (splits := 24)
    · intro s k g0 g1 g2 g3 g4 g5
      have e := hI.os s k
      simp only [x_up] at *
      grind (splits := 24)
    · intro s g0 g1 g2
      have e := hI.wa s
      simp only [x_up] at *
      grind (splits := 24)
    · intro s g0 g1
      have e := hI.dm s
      simp only [x_up] at *
      grind (splits := 24)
    · intro s i g0 g1 g2 g3 g4
      have e := hI.db s i
      simp only [x_up] at *
      grind (splits := 24)
  · exact IW_fr h.i.toy_IW (by simp only [x_up]; grind) (by simp only [x_up]; grind) (fun k q1 q2 q3 => (by simp only [x_up]; grind)) (fun k q1 q2 q3 => (by simp only [x_up]; grind))
  · exact IK_fr h.i.toy_IK (by simp only [x_up]; grind) (by simp only [x_up]; grind) (by simp only [x_up]; grind) (fun k q1 q2 => (by simp only [x_up]; grind)) (fun w q1 q2 q3 q4 => (by simp only [x_up]; grind))
  · exact FT_fr h.t h.i.toy_IK (fun c q1 q2 => (by simp only [x_up]; grind)) (by simp only [x_up]; grind) (fun k q1 q2 => (by simp only [x_up]; grind)) (fun w q1 q2 q3 => (by simp only [x_up]; grind))
theorem chg_rng {x k : Int} (h : 0 ≤ x) : 0 ≤ min 1000 (x + if k = 2 then 50 else 100) ∧ min 1000 (x + if k = 2 then 50 else 100) ≤ 1000 := by
  split <;> omega
theorem B_chg {C A C2 A2 : Int → Int → Int} (h : y_B C A) (hc : ∀ a k, C2 a k = if (88 ≤ a ∧ a < 88 + A 163 1) ∧ k = 2 ∧ C a 3 = 0 ∧ (C a 1 = 1 ∨ C a 1 = 2) then min 1000 (C a 2 + if C a 1 = 2 then 50 else 100) else C a k) (ha : ∀ k, ¬ (1115 ≤ k ∧ (k - 1115) % 8 = 0 ∧ k < 1115 + 8 * A 163 1) → A2 163 k = A 163 k) (hv : ∀ w, 0 ≤ w → w < A 163 1 → A2 163 (1115 + 8 * w) = if A 163 (1116 + 8 * w) = 0 ∧ (A 163 (1114 + 8 * w) = 1 ∨ A 163 (1114 + 8 * w) = 2) then min 1000 (A 163 (1115 + 8 * w) + if A 163 (1114 + 8 * w) = 2 then 50 else 100) else A 163 (1115 + 8 * w)) : y_B C2 A2 := by
  have hn := h.i.n
  have hw := h.i.nw
  have hf := h.f
  have hI := h.i
  have gc : ∀ a k, k ≠ 2 → C2 a k = C a k := fun a k q1 => by rw [hc a k, if_neg (by omega)]
  have gs : ∀ a k, a < 88 ∨ 148 ≤ a → C2 a k = C a k := fun a k q1 => by rw [hc a k, if_neg (by omega)]
  have ga : ∀ k, k < 1114 → A2 163 k = A 163 k := fun k q1 => ha k (by omega)
  have gb : ∀ k, 1114 ≤ k → (k - 1114) % 8 ≠ 1 ∨ 1594 ≤ k → A2 163 k = A 163 k := fun k q1 q2 => ha k (by omega)
  refine ⟨⟨?_, ?_, ?_⟩, ⟨?_, ?_, ?_⟩, ?_⟩
  · exact FS_fr hf.toy_FS (fun a k q1 q2 => gs a k (by omega)) (fun k q1 q2 => ga k q2)
  · refine ⟨?_, ?_, ?_, ?_, ?_, ?_, ?_, ?_⟩
    · intro w w0 w1; rw [gc _ _ (by omega), gb _ (by omega) (by omega)]; exact hf.w0 w w0 w1
    · intro w w0 w1
      rw [hc _ _, hf.w0 w w0 w1, hf.w1 w w0 w1, hf.w2 w w0 w1]
      by_cases q : w < A 163 1
      · rw [hv w w0 q]
        by_cases g : A 163 (1116 + 8 * w) = 0 ∧ (A 163 (1114 + 8 * w) = 1 ∨ A 163 (1114 + 8 * w) = 2)
        · rw [if_pos g, if_pos ⟨⟨by omega, by omega⟩, rfl, g⟩]
        · rw [if_neg g, if_neg (fun z => g z.2.2)]
      · rw [ha _ (by omega), if_neg (by omega)]
    · intro w w0 w1; rw [gc _ _ (by omega), gb _ (by omega) (by omega)]; exact hf.w2 w w0 w1
    · intro w w0 w1; rw [gc _ _ (by omega), gb _ (by omega) (by omega), gb _ (by omega) (by omega)]; exact hf.w3 w w0 w1
    · intro w w0 w1; rw [gc _ _ (by omega), gb _ (by omega) (by omega), gb _ (by omega) (by omega), gb _ (by omega) (by omega)]; exact hf.w4 w w0 w1
    · intro w w0 w1; rw [gc _ _ (by omega), gb _ (by omega) (by omega)]; exact hf.w6 w w0 w1
    · intro w w0 w1; rw [gc _ _ (by omega), gb _ (by omega) (by omega)]; exact hf.wn w w0 w1
    · intro w w0 w1; rw [gc _ _ (by omega), gb _ (by omega) (by omega)]; exact hf.w7 w w0 w1
  · exact FK_fr hf.toy_FK (fun a k q1 q2 => gs a k (by omega)) (fun k q1 q2 => gb k (by omega) (by omega))
  · exact IS_fr hI.toy_IS (by rw [ga 1 (by omega)]; exact hw) (fun k q1 q2 q3 q4 => ga k q2)
  · skip
    have hkd := hI.kd
    obtain ⟨a1, a2, a3, a4, a5, a6, a7, a8⟩ := hI.toy_IW
    have g0 := ga 0 (by omega)
    have g1 := ga 1 (by omega)
    refine ⟨?_, ?_, ?_, ?_, ?_, ?_, ?_, ?_⟩
    · intro s d s0 s1 d0 d1; rw [g0, g1, ga _ (by omega), ga _ (by omega)]; exact a1 s d s0 s1 d0 d1
    · intro s d w s0 s1 d0 d1 w0 w1; rw [g0, ga _ (by omega), ga _ (by omega), gb _ (by omega) (by omega), gb _ (by omega) (by omega), gb _ (by omega) (by omega), gb _ (by omega) (by omega)]; exact a2 s d w s0 s1 d0 d1 w0 w1
    · intro w w0 w1 w2
      rw [g1] at w2
      have e := a3 w w0 w1 w2
      rw [gb (1114 + 8 * w) (by omega) (by omega), gb (1116 + 8 * w) (by omega) (by omega), hv w w0 w2]
      refine ⟨e.1, e.2.1, ?_⟩
      split
      · exact chg_rng e.2.2.1
      · exact e.2.2
    · intro w w0 w1 w2 w3
      rw [g1] at w2
      rw [gb _ (by omega) (by omega)] at w3
      have e := a4 w w0 w1 w2 w3
      have q9 : A 163 (1118 + 8 * w) < 12 := by have := e.2.1.2; split at this <;> omega
      rw [gb (1114 + 8 * w) (by omega) (by omega), gb (1117 + 8 * w) (by omega) (by omega), gb (1118 + 8 * w) (by omega) (by omega), ga (10 + 80 * A 163 (1117 + 8 * w)) (by omega), ga (11 + 80 * A 163 (1117 + 8 * w) + A 163 (1118 + 8 * w)) (by omega), ga (12 + 80 * A 163 (1117 + 8 * w) + A 163 (1118 + 8 * w)) (by omega)]
      exact e
    · intro w w0 w1; rw [g0, g1, gb _ (by omega) (by omega), gb _ (by omega) (by omega)]; exact a5 w w0 w1
    · intro w w0 w1; rw [g1, gb _ (by omega) (by omega), gb _ (by omega) (by omega)]; exact a6 w w0 w1
    · intro w w0 w1 w2
      rw [g1] at w2 ⊢
      rw [gb (1121 + 8 * w) (by omega) (by omega), gb (1116 + 8 * w) (by omega) (by omega), gb (1114 + 8 * w) (by omega) (by omega)]
      rcases a7 w w0 w1 w2 with q | q
      · exact Or.inl q
      · right
        rw [gb (1116 + 8 * A 163 (1121 + 8 * w)) (by omega) (by omega), gb (1121 + 8 * A 163 (1121 + 8 * w)) (by omega) (by omega), gb (1114 + 8 * A 163 (1121 + 8 * w)) (by omega) (by omega)]; exact q
    · intro w w0 w1; rw [gb _ (by omega) (by omega)]; exact a8 w w0 w1
  · exact IK_fr hI.toy_IK (ga 0 (by omega)) (by rw [ga 1 (by omega)]; omega) (ga 2 (by omega)) (fun k q1 q2 => gb k (by omega) (by omega)) (fun w q1 q2 q3 q4 => ⟨(gb _ (by omega) (by omega)).trans q4, gb _ (by omega) (by omega)⟩)
  · exact FT_fr h.t hI.toy_IK (fun c q1 q2 => gs _ _ (by omega)) (ga 2 (by omega)) (fun k q1 q2 => gb k (by omega) (by omega)) (fun w q1 q2 q3 => gb _ (by omega) (by omega))
theorem O_hour {C A : Int → Int → Int} (h : y_B C A) : v_x_hour C = v_n_hour A ∧ y_B (u_x_hour C) (u_n_hour A) := by
  have hr := h.f.hr
  have hR := h.i.hr
  have hw := h.i.nw
  have hn := h.f.nw
  have p1 := fun a j => P_xho (a := a) (j := j) 61 C 0 (by omega) (by omega) (by omega)
  obtain ⟨p2, p3⟩ := P_nho (a := 0) (j := 0) 61 A 0 (by omega) (by omega) hw.2
  have e1 := p1 1 6
  rw [if_neg (by omega)] at e1
  have e2 := p2 163 3 (by omega)
  unfold v_x_hour v_n_hour u_x_hour u_n_hour
  rw [e1, e2, hr]
  refine ⟨by split <;> omega, ?_⟩
  have B := B_chg (C2 := (l_x_hour_a 61 C 0).1) (A2 := (l_n_hour_a 61 A 0).1) h (fun a k => by rw [p1, hn, show (88 : Int) + 0 = 88 by omega]) (fun k q1 => p2 _ _ (by omega)) (fun w w0 w1 => p3 w w0 w1)
  by_cases q : 24 ≤ 1 + A 163 3
  · rw [if_pos q, show (1 + A 163 3) % 24 = 0 by omega]; exact B_hr B (by omega)
  · rw [if_neg q, show (1 + A 163 3) % 24 = 1 + A 163 3 by omega]; exact B_hr B (by omega)
