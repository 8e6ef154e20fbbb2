theorem F_comes {C A : Int → Int → Int} (h : y_F C A) {w s d : Int} (hw : 0 ≤ w ∧ w < 60) (hs : 0 ≤ s ∧ s < 12) (hd : 0 ≤ d ∧ d + y_sz (A 163 (1114 + 8 * w)) ≤ A 163 (10 + 80 * s)) (hD : A 163 (10 + 80 * s) ≤ 12) : y_F (u_putInDock w s d C) (u_m_comes w s d A) := by
  have k0 := h.w0 w hw.1 hw.2
  have dk := h.dk s hs.1 hs.2
  unfold u_putInDock u_moveTo u_m_comes
  rw [k0, F_fill hd.1 (by rw [dk]; exact hd.2)]
  unfold y_sz at hd
  generalize hk : A 163 (1114 + 8 * w) = kd at *
  by_cases q : kd = 2
  · rw [if_pos q, if_neg (by omega)]
    rw [if_pos q] at hd
    refine ⟨?_, ?_, ?_⟩
    · refine ⟨?_, ?_, ?_, ?_, ?_, ?_, ?_, ?_, ?_, ?_, ?_, ?_, ?_, ?_⟩
      · have e := h.n
        simp only [x_up] at *
        grind (splits := 24)
      · have e := h.nw
        simp only [x_up] at *
        grind (splits := 24)
      · have e := h.nc
        simp only [x_up] at *
        grind (splits := 24)
      · have e := h.hr
        simp only [x_up] at *
        grind (splits := 24)
      · intro s g0 g1
        have e := h.dk s
        simp only [x_up] at *
        grind (splits := 24)
      · intro s g0 g1
        have e := h.oc s
        simp only [x_up] at *
        grind (splits := 24)
      · intro s g0 g1
        have e := h.wa s
        simp only [x_up] at *
        grind (splits := 24)
      · intro s g0 g1
        have e := h.fl s
        simp only [x_up] at *
        grind (splits := 24)
      · intro s d g0 g1 g2 g3 g4
        have e := h.ct s d
        simp only [x_up] at *
        grind (splits := 24)
      · intro s t g0 g1 g2 g3 g4
        have e := h.ln s t
        simp only [x_up] at *
        grind (splits := 24)
      · intro s k g0 g1 g2 g3
        have e := h.ot s k
        simp only [x_up] at *
        grind (splits := 24)
      · intro s g0 g1
        have e := h.dm s
        simp only [x_up] at *
        grind (splits := 24)
      · intro s i g0 g1 g2 g3
        have e := h.db s i
        simp only [x_up] at *
        grind (splits := 24)
      · intro s i g0 g1 g2 g3
        have e := h.dw s i
        simp only [x_up] at *
        grind (splits := 24)
    · refine ⟨?_, ?_, ?_, ?_, ?_, ?_, ?_, ?_⟩
      · intro w g0 g1
        have e := h.w0 w
        simp only [x_up] at *
        grind (splits := 24)
      · intro w g0 g1
        have e := h.w1 w
        simp only [x_up] at *
        grind (splits := 24)
      · intro w g0 g1
        have e := h.w2 w
        simp only [x_up] at *
        grind (splits := 24)
      · intro w g0 g1
        have e := h.w3 w
        simp only [x_up] at *
        grind (splits := 24)
      · intro w g0 g1
        have e := h.w4 w
        simp only [x_up] at *
        grind (splits := 24)
      · intro w g0 g1
        have e := h.w6 w
        simp only [x_up] at *
        grind (splits := 24)
      · intro w g0 g1
        have e := h.wn w
        simp only [x_up] at *
        grind (splits := 24)
      · intro w g0 g1
        have e := h.w7 w
        simp only [x_up] at *
        grind (splits := 24)
    · exact FK_fr h.toy_FK (fun a k q1 q2 => (by simp only [x_up]; grind)) (fun k q1 q2 => (by simp only [x_up]; grind))
  · rw [if_neg q, if_pos q]
    rw [if_neg q] at hd
    refine ⟨?_, ?_, ?_⟩
    · refine ⟨?_, ?_, ?_, ?_, ?_, ?_, ?_, ?_, ?_, ?_, ?_, ?_, ?_, ?_⟩
      · have e := h.n
        simp only [x_up] at *
        grind (splits := 24)
      · have e := h.nw
        simp only [x_up] at *
        grind (splits := 24)
      · have e := h.nc
        simp only [x_up] at *
        grind (splits := 24)
      · have e := h.hr
        simp only [x_up] at *
        grind (splits := 24)
      · intro s g0 g1
        have e := h.dk s
        simp only [x_up] at *
        grind (splits := 24)
      · intro s g0 g1
        have e := h.oc s
        simp only [x_up] at *
        grind (splits := 24)
      · intro s g0 g1
        have e := h.wa s
        simp only [x_up] at *
        grind (splits := 24)
      · intro s g0 g1
        have e := h.fl s
        simp only [x_up] at *
        grind (splits := 24)
      · intro s d g0 g1 g2 g3 g4
        have e := h.ct s d
        simp only [x_up] at *
        grind (splits := 24)
      · intro s t g0 g1 g2 g3 g4
        have e := h.ln s t
        simp only [x_up] at *
        grind (splits := 24)
      · intro s k g0 g1 g2 g3
        have e := h.ot s k
        simp only [x_up] at *
        grind (splits := 24)
      · intro s g0 g1
        have e := h.dm s
        simp only [x_up] at *
        grind (splits := 24)
      · intro s i g0 g1 g2 g3
        have e := h.db s i
        simp only [x_up] at *
        grind (splits := 24)
      · intro s i g0 g1 g2 g3
        have e := h.dw s i
        simp only [x_up] at *
        grind (splits := 24)
    · refine ⟨?_, ?_, ?_, ?_, ?_, ?_, ?_, ?_⟩
      · intro w g0 g1
        have e := h.w0 w
        simp only [x_up] at *
        grind (splits := 24)
      · intro w g0 g1
        have e := h.w1 w
        simp only [x_up] at *
        grind (splits := 24)
      · intro w g0 g1
        have e := h.w2 w
        simp only [x_up] at *
        grind (splits := 24)
      · intro w g0 g1
        have e := h.w3 w
        simp only [x_up] at *
        grind (splits := 24)
      · intro w g0 g1
        have e := h.w4 w
        simp only [x_up] at *
        grind (splits := 24)
      · intro w g0 g1
        have e := h.w6 w
        simp only [x_up] at *
        grind (splits := 24)
      · intro w g0 g1
        have e := h.wn w
        simp only [x_up] at *
        grind (splits := 24)
      · intro w g0 g1
        have e := h.w7 w
        simp only [x_up] at *
        grind (splits := 24)
    · exact FK_fr h.toy_FK (fun a k q1 q2 => (by simp only [x_up]; grind)) (fun k q1 q2 => (by simp only [x_up]; grind))
