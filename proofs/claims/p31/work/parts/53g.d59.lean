theorem B_stand {C A : Int → Int → Int} (h : y_B C A) {n : Int} (ha : 2 ≤ n ∧ n ≤ 12) (h12 : A 163 0 < 12) : y_B (x_up (u_sSetUp (A 163 0) n C) 1 1 (1 + A 163 0)) (x_up ((x_up ((x_up ((l_n_stand_a n (A 163 0) 13 ((x_up A 163 (10 + 80 * A 163 0) n)) 0).1) 163 (24 + 80 * A 163 0) ((-1)))) 163 (25 + 80 * A 163 0) ((-1)))) 163 0 (1 + A 163 0)) := by
  have hn := h.i.n
  have hc := h.i.nc
  have hw := h.i.nw
  have hf := h.f
  have hI := h.i
  have eN : ∀ c j, (l_n_stand_a n (A 163 0) 13 (x_up A 163 (10 + 80 * A 163 0) n) 0).1 c j = _ := fun c j => P_nst (n := n) (s := A 163 0) 13 (x_up A 163 (10 + 80 * A 163 0) n) 0 (by omega) (by omega) c j
  have z1 := hI.de (A 163 0) hn.1 h12 (by omega)
  have z2 := fun t => hI.dl (A 163 0) t hn.1 h12
  refine ⟨⟨?_, ?_, ?_⟩, ⟨?_, ?_, ?_⟩, ?_⟩
  · refine ⟨?_, ?_, ?_, ?_, ?_, ?_, ?_, ?_, ?_, ?_, ?_, ?_, ?_, ?_⟩
    · have e := hf.n
      simp only [x_up, P_sSetUp, eN] at *
      grind (splits := 24)
    · have e := hf.nw
      simp only [x_up, P_sSetUp, eN] at *
      grind (splits := 24)
    · have e := hf.nc
      simp only [x_up, P_sSetUp, eN] at *
      grind (splits := 24)
    · have e := hf.hr
      simp only [x_up, P_sSetUp, eN] at *
      grind (splits := 24)
    · intro s g0 g1
      have e := hf.dk s
      simp only [x_up, P_sSetUp, eN] at *
      grind (splits := 24)
    · intro s g0 g1
      have e := hf.oc s
      simp only [x_up, P_sSetUp, eN] at *
      grind (splits := 24)
    · intro s g0 g1
      have e := hf.wa s
      simp only [x_up, P_sSetUp, eN] at *
      grind (splits := 24)
    · intro s g0 g1
      have e := hf.fl s
      simp only [x_up, P_sSetUp, eN] at *
      grind (splits := 24)
    · intro s d g0 g1 g2 g3 g4
      have e := hf.ct s d
      simp only [x_up, P_sSetUp, eN] at *
      grind (splits := 24)
    · intro s t g0 g1 g2 g3 g4
      have e := hf.ln s t
      have e2 := z2 t
      simp only [x_up, P_sSetUp, eN] at *
      grind (splits := 24)
    · intro s k g0 g1 g2 g3
      have e := hf.ot s k
      simp only [x_up, P_sSetUp, eN] at *
      grind (splits := 24)
    · intro s g0 g1
      have e := hf.dm s
      simp only [x_up, P_sSetUp, eN] at *
      grind (splits := 24)
    · intro s i g0 g1 g2 g3
      have e := hf.db s i
      simp only [x_up, P_sSetUp, eN] at *
      grind (splits := 24)
    · intro s i g0 g1 g2 g3
      have e := hf.dw s i
      simp only [x_up, P_sSetUp, eN] at *
      grind (splits := 24)
  · exact FW_fr h.f.toy_FW (fun a k q1 q2 q3 => (by simp only [x_up, P_sSetUp, eN]; grind)) (fun k q1 q2 q3 => (by simp only [x_up, P_sSetUp, eN]; grind))
  · exact FK_fr h.f.toy_FK (fun a k q1 q2 => (by simp only [x_up, P_sSetUp, eN]; grind)) (fun k q1 q2 => (by simp only [x_up, P_sSetUp, eN]; grind))
  · refine ⟨?_, ?_, ?_, ?_, ?_, ?_, ?_, ?_, ?_, ?_, ?_, ?_, ?_⟩
    · have e := hI.n
      simp only [x_up, P_sSetUp, eN] at *
      grind (splits := 24)
    · have e := hI.nw
      simp only [x_up, P_sSetUp, eN] at *
      grind (splits := 24)
    · have e := hI.nc
      simp only [x_up, P_sSetUp, eN] at *
      grind (splits := 24)
    · have e := hI.hr
      simp only [x_up, P_sSetUp, eN] at *
      grind (splits := 24)
    · intro s g0 g1 g2
      have e := hI.dk s
      simp only [x_up, P_sSetUp, eN] at *
      grind (splits := 24)
    · intro s g0 g1 g2
      have e := hI.de s
      simp only [x_up, P_sSetUp, eN] at *
      grind (splits := 24)
    · intro s t g0 g1 g2 g3 g4
      have e := hI.dl s t
      have e2 := z2 t
      simp only [x_up, P_sSetUp, eN] at *
      grind (splits := 24)
    · intro s t g0 g1 g2 g3
      have e := hI.ln s t
      simp only [x_up, P_sSetUp, eN] at *
      grind (splits := 24)
    · intro s g0 g1 g2
      have e := hI.oc s
      simp only [x_up, P_sSetUp, eN] at *
      grind (splits := 24)
    · intro s k g0 g1 g2 g3 g4 g5
      have e := hI.os s k
      simp only [x_up, P_sSetUp, eN] at *
      grind (splits := 24)
    · intro s g0 g1 g2
      have e := hI.wa s
      simp only [x_up, P_sSetUp, eN] at *
      grind (splits := 24)
    · intro s g0 g1
      have e := hI.dm s
      simp only [x_up, P_sSetUp, eN] at *
      grind (splits := 24)
    · intro s i g0 g1 g2 g3 g4
      have e := hI.db s i
      simp only [x_up, P_sSetUp, eN] at *
      grind (splits := 24)
  · refine ⟨?_, ?_, ?_, ?_, ?_, ?_, ?_, ?_⟩
    · intro s d g0 g1 g2 g3 g4 g5
      have e := hI.cr s d
      simp only [x_up, P_sSetUp, eN] at *
      grind (splits := 24)
    · intro s d w g0 g1 g2 g3 g4 g5 g6 g7 g8
      have e := hI.ct s d w
      have e2 := hI.ps w
      have e3 := hI.cr s d
      simp only [x_up, P_sSetUp, eN] at *
      grind (splits := 24)
    · intro w g0 g1 g2
      have e := hI.kd w
      simp only [x_up, P_sSetUp, eN] at *
      grind (splits := 24)
    · intro w g0 g1 g2 g3
      have e := hI.pd w
      have e2 := hI.ps w
      simp only [x_up, P_sSetUp, eN] at *
      grind (splits := 24)
    · intro w g0 g1 g2 g3
      have e := hI.ps w
      simp only [x_up, P_sSetUp, eN] at *
      grind (splits := 24)
    · intro w g0 g1 g2 g3
      have e := hI.pn w
      simp only [x_up, P_sSetUp, eN] at *
      grind (splits := 24)
    · intro w g0 g1 g2
      have e := hI.pa w
      simp only [x_up, P_sSetUp, eN] at *
      grind (splits := 24)
    · intro w g0 g1
      have e := hI.bk w
      simp only [x_up, P_sSetUp, eN] at *
      grind (splits := 24)
  · refine ⟨?_, ?_, ?_, ?_⟩
    · intro c g0 g1 g2
      have e := hI.kl c
      simp only [x_up, P_sSetUp, eN] at *
      grind (splits := 24)
    · intro c g0 g1
      have e := hI.kk c
      simp only [x_up, P_sSetUp, eN] at *
      grind (splits := 24)
    · intro c k g0 g1 g2 g3 g4
      have e := hI.kr c k
      simp only [x_up, P_sSetUp, eN] at *
      grind (splits := 24)
    · intro c k l g0 g1 g2 g3 g4 g5
      have e := hI.ki c k l
      simp only [x_up, P_sSetUp, eN] at *
      grind (splits := 24)
  · exact FT_fr h.t h.i.toy_IK (fun c q1 q2 => (by simp only [x_up, P_sSetUp, eN]; grind)) (by simp only [x_up, P_sSetUp, eN]; grind) (fun k q1 q2 => (by simp only [x_up, P_sSetUp, eN]; grind)) (fun w q1 q2 q3 => (by simp only [x_up, P_sSetUp, eN]; grind))
theorem O_stand {C A : Int → Int → Int} (h : y_B C A) (n : Int) : v_x_stand n C = v_n_stand n A ∧ y_B (u_x_stand n C) (u_n_stand n A) := by
  have hn := h.f.n
  have hN := h.i.n
  unfold v_x_stand v_n_stand u_x_stand u_n_stand v_addStand u_addStand
  rw [hn]
  have e1 : (u_sSetUp (A 163 0) n C) 1 1 = A 163 0 := by rw [P_sSetUp]; grind
  rw [e1]
  refine ⟨by grind, ?_⟩
  by_cases h12 : A 163 0 = 12
  · rw [if_pos h12, if_neg (show ¬ A 163 0 < 12 by omega)]; repeat' split
    all_goals exact h
  rw [if_neg h12, if_pos (show A 163 0 < 12 by omega)]
  by_cases q : n < 2
  · rw [if_pos q, if_pos q]; exact h
  rw [if_neg q, if_neg q]
  by_cases q2 : n ≤ 12
  · rw [if_pos q2, if_pos q2]
    have e2 : (l_n_stand_a n (A 163 0) 13 (x_up A 163 (10 + 80 * A 163 0) n) 0).1 163 0 = A 163 0 := by
      rw [P_nst _ _ _ (by omega) (by omega)]; simp only [x_up]; grind
    rw [e2]
    exact B_stand h ⟨by omega, q2⟩ (by omega)
  · rw [if_neg q2, if_neg q2]; exact h
