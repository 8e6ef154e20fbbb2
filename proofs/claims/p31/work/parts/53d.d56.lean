theorem B_want {C A : Int → Int → Int} (h : y_B C A) {a b : Int} (ha : 0 ≤ a ∧ a < A 163 0) (hb : -1 ≤ b ∧ b ≤ 12) : y_B (x_up C (3 + 7 * a) 6 b) (x_up A 163 (24 + 80 * a) b) := by
  have hn := h.i.n
  have hc := h.i.nc
  have hw := h.i.nw
  have hf := h.f
  have hI := h.i
  refine ⟨⟨?_, ?_, ?_⟩, ⟨?_, ?_, ?_⟩, ?_⟩
  · refine ⟨?_, ?_, ?_, ?_, ?_, ?_, ?_, ?_, ?_, ?_, ?_, ?_, ?_, ?_⟩
    · have e := hf.n
      simp only [x_up] at *
      grind (splits := 24)
    · have e := hf.nw
      simp only [x_up] at *
      grind (splits := 24)
    · have e := hf.nc
      simp only [x_up] at *
      grind (splits := 24)
    · have e := hf.hr
      simp only [x_up] at *
      grind (splits := 24)
    · intro s g0 g1
      have e := hf.dk s
      simp only [x_up] at *
      grind (splits := 24)
    · intro s g0 g1
      have e := hf.oc s
      simp only [x_up] at *
      grind (splits := 24)
    · intro s g0 g1
      have e := hf.wa s
      simp only [x_up] at *
      grind (splits := 24)
    · intro s g0 g1
      have e := hf.fl s
      simp only [x_up] at *
      grind (splits := 24)
    · intro s d g0 g1 g2 g3 g4
      have e := hf.ct s d
      simp only [x_up] at *
      grind (splits := 24)
    · intro s t g0 g1 g2 g3 g4
      have e := hf.ln s t
      simp only [x_up] at *
      grind (splits := 24)
    · intro s k g0 g1 g2 g3
      have e := hf.ot s k
      simp only [x_up] at *
      grind (splits := 24)
    · intro s g0 g1
      have e := hf.dm s
      simp only [x_up] at *
      grind (splits := 24)
    · intro s i g0 g1 g2 g3
      have e := hf.db s i
      simp only [x_up] at *
      grind (splits := 24)
    · intro s i g0 g1 g2 g3
      have e := hf.dw s i
      simp only [x_up] at *
      grind (splits := 24)
  · exact FW_fr h.f.toy_FW (fun a k q1 q2 q3 => (by simp only [x_up]; grind)) (fun k q1 q2 q3 => (by simp only [x_up]; grind))
  · exact FK_fr h.f.toy_FK (fun a k q1 q2 => (by simp only [x_up]; grind)) (fun k q1 q2 => (by simp only [x_up]; grind))
  · refine ⟨?_, ?_, ?_, ?_, ?_, ?_, ?_, ?_, ?_, ?_, ?_, ?_, ?_⟩
    · have e := hI.n
      simp only [x_up] at *
      grind (splits := 24)
    · have e := hI.nw
      simp only [x_up] at *
      grind (splits := 24)
    · have e := hI.nc
      simp only [x_up] at *
      grind (splits := 24)
    · have e := hI.hr
      simp only [x_up] at *
      grind (splits := 24)
    · intro s g0 g1 g2
      have e := hI.dk s
      simp only [x_up] at *
      grind (splits := 24)
    · intro s g0 g1 g2
      have e := hI.de s
      simp only [x_up] at *
      grind (splits := 24)
    · intro s t g0 g1 g2 g3 g4
      have e := hI.dl s t
      simp only [x_up] at *
      grind (splits := 24)
    · intro s t g0 g1 g2 g3
      have e := hI.ln s t
      simp only [x_up] at *
      grind (splits := 24)
    · intro s g0 g1 g2
      have e := hI.oc s
      simp only [x_up] at *
      grind (splits := 24)
    · intro s k g0 g1 g2 g3 g4 g5
      have e := hI.os s k
      simp only [x_up] at *
      grind (splits := 24)
    · intro s g0 g1 g2
      have e := hI.wa s
      simp only [x_up] at *
      grind (splits := 24)
    · intro s g0 g1
      have e := hI.dm s
      simp only [x_up] at *
      grind (splits := 24)
    · intro s i g0 g1 g2 g3 g4
      have e := hI.db s i
      simp only [x_up] at *
      grind (splits := 24)
  · exact IW_fr h.i.toy_IW (by simp only [x_up]; grind) (by simp only [x_up]; grind) (fun k q1 q2 q3 => (by simp only [x_up]; grind)) (fun k q1 q2 q3 => (by simp only [x_up]; grind))
  · exact IK_fr h.i.toy_IK (by simp only [x_up]; grind) (by simp only [x_up]; grind) (by simp only [x_up]; grind) (fun k q1 q2 => (by simp only [x_up]; grind)) (fun w q1 q2 q3 q4 => (by simp only [x_up]; grind))
  · exact FT_fr h.t h.i.toy_IK (fun c q1 q2 => (by simp only [x_up]; grind)) (by simp only [x_up]; grind) (fun k q1 q2 => (by simp only [x_up]; grind)) (fun w q1 q2 q3 => (by simp only [x_up]; grind))
theorem O_want {C A : Int → Int → Int} (h : y_B C A) (a b : Int) : v_x_want a b C = v_n_want a b A ∧ y_B (u_x_want a b C) (u_n_want a b A) := by
  have hn := h.f.n
  unfold v_x_want v_n_want u_x_want u_n_want
  rw [hn]
  refine ⟨rfl, ?_⟩
  by_cases ha : 0 ≤ a ∧ a < A 163 0
  · rw [if_pos ha, if_pos ha]
    by_cases hb : b < -1
    · rw [if_pos hb, if_pos hb]; exact h
    · rw [if_neg hb, if_neg hb]
      by_cases hb2 : b ≤ 12
      · rw [if_pos hb2, if_pos hb2]; exact B_want h ha ⟨by omega, hb2⟩
      · rw [if_neg hb2, if_neg hb2]; exact h
  · rw [if_neg ha, if_neg ha]; exact h
theorem B_length {C A : Int → Int → Int} (h : y_B C A) {a b l : Int} (ha : 0 ≤ a ∧ a < A 163 0) (hb : 0 ≤ b ∧ b < A 163 0) (hab : a ≠ b) (hl : 1 ≤ l ∧ l ≤ 999) : y_B (x_up (x_up C (5 + 7 * a) b l) (5 + 7 * b) a l) (x_up (x_up A 163 (970 + 12 * a + b) l) 163 (970 + 12 * b + a) l) := by
  have hn := h.i.n
  have hc := h.i.nc
  have hw := h.i.nw
  have hf := h.f
  have hI := h.i
  refine ⟨⟨?_, ?_, ?_⟩, ⟨?_, ?_, ?_⟩, ?_⟩
  · refine ⟨?_, ?_, ?_, ?_, ?_, ?_, ?_, ?_, ?_, ?_, ?_, ?_, ?_, ?_⟩
    · have e := hf.n
      simp only [x_up] at *
      grind (splits := 24)
    · have e := hf.nw
      simp only [x_up] at *
      grind (splits := 24)
    · have e := hf.nc
      simp only [x_up] at *
      grind (splits := 24)
    · have e := hf.hr
      simp only [x_up] at *
      grind (splits := 24)
    · intro s g0 g1
      have e := hf.dk s
      simp only [x_up] at *
      grind (splits := 24)
    · intro s g0 g1
      have e := hf.oc s
      simp only [x_up] at *
      grind (splits := 24)
    · intro s g0 g1
      have e := hf.wa s
      simp only [x_up] at *
      grind (splits := 24)
    · intro s g0 g1
      have e := hf.fl s
      simp only [x_up] at *
      grind (splits := 24)
    · intro s d g0 g1 g2 g3 g4
      have e := hf.ct s d
      simp only [x_up] at *
      grind (splits := 24)
    · intro s t g0 g1 g2 g3 g4
      have e := hf.ln s t
      simp only [x_up] at *
      grind (splits := 24)
    · intro s k g0 g1 g2 g3
      have e := hf.ot s k
      simp only [x_up] at *
      grind (splits := 24)
    · intro s g0 g1
      have e := hf.dm s
      simp only [x_up] at *
      grind (splits := 24)
    · intro s i g0 g1 g2 g3
      have e := hf.db s i
      simp only [x_up] at *
      grind (splits := 24)
    · intro s i g0 g1 g2 g3
      have e := hf.dw s i
      simp only [x_up] at *
      grind (splits := 24)
  · exact FW_fr h.f.toy_FW (fun a k q1 q2 q3 => (by simp only [x_up]; grind)) (fun k q1 q2 q3 => (by simp only [x_up]; grind))
  · exact FK_fr h.f.toy_FK (fun a k q1 q2 => (by simp only [x_up]; grind)) (fun k q1 q2 => (by simp only [x_up]; grind))
  · refine ⟨?_, ?_, ?_, ?_, ?_, ?_, ?_, ?_, ?_, ?_, ?_, ?_, ?_⟩
    · have e := hI.n
      simp only [x_up] at *
      grind (splits := 24)
    · have e := hI.nw
      simp only [x_up] at *
      grind (splits := 24)
    · have e := hI.nc
      simp only [x_up] at *
      grind (splits := 24)
    · have e := hI.hr
      simp only [x_up] at *
      grind (splits := 24)
    · intro s g0 g1 g2
      have e := hI.dk s
      simp only [x_up] at *
      grind (splits := 24)
    · intro s g0 g1 g2
      have e := hI.de s
      simp only [x_up] at *
      grind (splits := 24)
    · intro s t g0 g1 g2 g3 g4
      have e := hI.dl s t
      simp only [x_up] at *
      grind (splits := 24)
    · intro s t g0 g1 g2 g3
      have e := hI.ln s t
      simp only [x_up] at *
      grind (splits := 24)
    · intro s g0 g1 g2
      have e := hI.oc s
      simp only [x_up] at *
      grind (splits := 24)
    · intro s k g0 g1 g2 g3 g4 g5
      have e := hI.os s k
      simp only [x_up] at *
      grind (splits := 24)
    · intro s g0 g1 g2
      have e := hI.wa s
      simp only [x_up] at *
      grind (splits := 24)
    · intro s g0 g1
      have e := hI.dm s
      simp only [x_up] at *
      grind (splits := 24)
    · intro s i g0 g1 g2 g3 g4
      have e := hI.db s i
      simp only [x_up] at *
      grind (splits := 24)
  · exact IW_fr h.i.toy_IW (by simp only [x_up]; grind) (by simp only [x_up]; grind) (fun k q1 q2 q3 => (by simp only [x_up]; grind)) (fun k q1 q2 q3 => (by simp only [x_up]; grind))
  · exact IK_fr h.i.toy_IK (by simp only [x_up]; grind) (by simp only [x_up]; grind) (by simp only [x_up]; grind) (fun k q1 q2 => (by simp only [x_up]; grind)) (fun w q1 q2 q3 q4 => (by simp only [x_up]; grind))
  · exact FT_fr h.t h.i.toy_IK (fun c q1 q2 => (by simp only [x_up]; grind)) (by simp only [x_up]; grind) (fun k q1 q2 => (by simp only [x_up]; grind)) (fun w q1 q2 q3 => (by simp only [x_up]; grind))
theorem O_length {C A : Int → Int → Int} (h : y_B C A) (a b l : Int) : v_x_length a b l C = v_n_length a b l A ∧ y_B (u_x_length a b l C) (u_n_length a b l A) := by
  have hn := h.f.n
  unfold v_x_length v_n_length u_x_length u_n_length
  rw [hn]
  refine ⟨by grind, ?_⟩
  by_cases ha : 0 ≤ a ∧ a < A 163 0
  · rw [if_pos ha, if_pos ha]
    by_cases hb : 0 ≤ b ∧ b < A 163 0
    · rw [if_pos hb, if_pos hb]
      by_cases hc : a = b
      · rw [if_pos hc, if_pos hc]; exact h
      rw [if_neg hc, if_neg hc]
      by_cases hl : l < 1
      · rw [if_pos hl, if_pos hl]; exact h
      rw [if_neg hl, if_neg hl]
      by_cases hm : l ≤ 999
      · rw [if_pos hm, if_pos hm]; exact B_length h ha hb hc ⟨by omega, hm⟩
      · rw [if_neg hm, if_neg hm]; exact h
    · rw [if_neg hb, if_neg hb]; exact h
  · rw [if_neg ha, if_neg ha]; split <;> exact h
theorem B_next {C A : Int → Int → Int} (h : y_B C A) {a b p : Int} (ha : 0 ≤ a ∧ a < A 163 0) (hb : 0 ≤ b ∧ b < A 163 0) (hp : 0 ≤ p ∧ p < 8) (hq : p = max 0 (A 163 (25 + 80 * a))) : y_B (x_up (x_up C (6 + 7 * a) p b) (3 + 7 * a) 5 (1 + p)) (x_up (x_up A 163 (26 + 80 * a + p) b) 163 (25 + 80 * a) (1 + p)) := by
  have hn := h.i.n
  have hc := h.i.nc
  have hw := h.i.nw
  have hf := h.f
  have hI := h.i
  refine ⟨⟨?_, ?_, ?_⟩, ⟨?_, ?_, ?_⟩, ?_⟩
  · refine ⟨?_, ?_, ?_, ?_, ?_, ?_, ?_, ?_, ?_, ?_, ?_, ?_, ?_, ?_⟩
    · have e := hf.n
      simp only [x_up] at *
      grind (splits := 24)
    · have e := hf.nw
      simp only [x_up] at *
      grind (splits := 24)
    · have e := hf.nc
      simp only [x_up] at *
      grind (splits := 24)
    · have e := hf.hr
      simp only [x_up] at *
      grind (splits := 24)
    · intro s g0 g1
      have e := hf.dk s
      simp only [x_up] at *
      grind (splits := 24)
    · intro s g0 g1
      have e := hf.oc s
      simp only [x_up] at *
      grind (splits := 24)
    · intro s g0 g1
      have e := hf.wa s
      simp only [x_up] at *
      grind (splits := 24)
    · intro s g0 g1
      have e := hf.fl s
      simp only [x_up] at *
      grind (splits := 24)
    · intro s d g0 g1 g2 g3 g4
      have e := hf.ct s d
      simp only [x_up] at *
      grind (splits := 24)
    · intro s t g0 g1 g2 g3 g4
      have e := hf.ln s t
      simp only [x_up] at *
      grind (splits := 24)
    · intro s k g0 g1 g2 g3
      have e := hf.ot s k
      simp only [x_up] at *
      grind (splits := 24)
    · intro s g0 g1
      have e := hf.dm s
      simp only [x_up] at *
      grind (splits := 24)
    · intro s i g0 g1 g2 g3
      have e := hf.db s i
      simp only [x_up] at *
      grind (splits := 24)
    · intro s i g0 g1 g2 g3
      have e := hf.dw s i
      simp only [x_up] at *
      grind (splits := 24)
  · exact FW_fr h.f.toy_FW (fun a k q1 q2 q3 => (by simp only [x_up]; grind)) (fun k q1 q2 q3 => (by simp only [x_up]; grind))
  · exact FK_fr h.f.toy_FK (fun a k q1 q2 => (by simp only [x_up]; grind)) (fun k q1 q2 => (by simp only [x_up]; grind))
  · refine ⟨?_, ?_, ?_, ?_, ?_, ?_, ?_, ?_, ?_, ?_, ?_, ?_, ?_⟩
    · have e := hI.n
      simp only [x_up] at *
      grind (splits := 24)
    · have e := hI.nw
      simp only [x_up] at *
      grind (splits := 24)
    · have e := hI.nc
      simp only [x_up] at *
      grind (splits := 24)
    · have e := hI.hr
      simp only [x_up] at *
      grind (splits := 24)
    · intro s g0 g1 g2
      have e := hI.dk s
      simp only [x_up] at *
      grind (splits := 24)
    · intro s g0 g1 g2
      have e := hI.de s
      simp only [x_up] at *
      grind (splits := 24)
    · intro s t g0 g1 g2 g3 g4
      have e := hI.dl s t
      simp only [x_up] at *
      grind (splits := 24)
    · intro s t g0 g1 g2 g3
      have e := hI.ln s t
      simp only [x_up] at *
      grind (splits := 24)
    · intro s g0 g1 g2
      have e := hI.oc s
      simp only [x_up] at *
      grind (splits := 24)
    · intro s k g0 g1 g2 g3 g4 g5
      have e := hI.os s k
      simp only [x_up] at *
      grind (splits := 24)
    · intro s g0 g1 g2
      have e := hI.wa s
      simp only [x_up] at *
      grind (splits := 24)
    · intro s g0 g1
      have e := hI.dm s
      simp only [x_up] at *
      grind (splits := 24)
    · intro s i g0 g1 g2 g3 g4
      have e := hI.db s i
      simp only [x_up] at *
      grind (splits := 24)
  · exact IW_fr h.i.toy_IW (by simp only [x_up]; grind) (by simp only [x_up]; grind) (fun k q1 q2 q3 => (by simp only [x_up]; grind)) (fun k q1 q2 q3 => (by simp only [x_up]; grind))
  · exact IK_fr h.i.toy_IK (by simp only [x_up]; grind) (by simp only [x_up]; grind) (by simp only [x_up]; grind) (fun k q1 q2 => (by simp only [x_up]; grind)) (fun w q1 q2 q3 q4 => (by simp only [x_up]; grind))
  · exact FT_fr h.t h.i.toy_IK (fun c q1 q2 => (by simp only [x_up]; grind)) (by simp only [x_up]; grind) (fun k q1 q2 => (by simp only [x_up]; grind)) (fun w q1 q2 q3 => (by simp only [x_up]; grind))
theorem B_tear0 {C A : Int → Int → Int} (h : y_B C A) {a : Int} (ha : 0 ≤ a ∧ a < A 163 0) : y_B (x_up C (3 + 7 * a) 5 (-1)) (x_up A 163 (25 + 80 * a) (-1)) := by
  have hn := h.i.n
  have hc := h.i.nc
  have hw := h.i.nw
  have hf := h.f
  have hI := h.i
  refine ⟨⟨?_, ?_, ?_⟩, ⟨?_, ?_, ?_⟩, ?_⟩
  · refine ⟨?_, ?_, ?_, ?_, ?_, ?_, ?_, ?_, ?_, ?_, ?_, ?_, ?_, ?_⟩
    · have e := hf.n
      simp only [x_up] at *
      grind (splits := 24)
    · have e := hf.nw
      simp only [x_up] at *
      grind (splits := 24)
    · have e := hf.nc
      simp only [x_up] at *
      grind (splits := 24)
    · have e := hf.hr
      simp only [x_up] at *
      grind (splits := 24)
    · intro s g0 g1
      have e := hf.dk s
      simp only [x_up] at *
      grind (splits := 24)
    · intro s g0 g1
      have e := hf.oc s
      simp only [x_up] at *
      grind (splits := 24)
    · intro s g0 g1
      have e := hf.wa s
      simp only [x_up] at *
      grind (splits := 24)
    · intro s g0 g1
      have e := hf.fl s
      simp only [x_up] at *
      grind (splits := 24)
    · intro s d g0 g1 g2 g3 g4
      have e := hf.ct s d
      simp only [x_up] at *
      grind (splits := 24)
    · intro s t g0 g1 g2 g3 g4
      have e := hf.ln s t
      simp only [x_up] at *
      grind (splits := 24)
    · intro s k g0 g1 g2 g3
      have e := hf.ot s k
      simp only [x_up] at *
      grind (splits := 24)
    · intro s g0 g1
      have e := hf.dm s
      simp only [x_up] at *
      grind (splits := 24)
    · intro s i g0 g1 g2 g3
      have e := hf.db s i
      simp only [x_up] at *
      grind (splits := 24)
    · intro s i g0 g1 g2 g3
      have e := hf.dw s i
      simp only [x_up] at *
      grind (splits := 24)
  · exact FW_fr h.f.toy_FW (fun a k q1 q2 q3 => (by simp only [x_up]; grind)) (fun k q1 q2 q3 => (by simp only [x_up]; grind))
  · exact FK_fr h.f.toy_FK (fun a k q1 q2 => (by simp only [x_up]; grind)) (fun k q1 q2 => (by simp only [x_up]; grind))
  · refine ⟨?_, ?_, ?_, ?_, ?_, ?_, ?_, ?_, ?_, ?_, ?_, ?_, ?_⟩
    · have e := hI.n
      simp only [x_up] at *
      grind (splits := 24)
    · have e := hI.nw
      simp only [x_up] at *
      grind (splits := 24)
    · have e := hI.nc
      simp only [x_up] at *
      grind (splits := 24)
    · have e := hI.hr
      simp only [x_up] at *
      grind (splits := 24)
    · intro s g0 g1 g2
      have e := hI.dk s
      simp only [x_up] at *
      grind (splits := 24)
    · intro s g0 g1 g2
      have e := hI.de s
      simp only [x_up] at *
      grind (splits := 24)
    · intro s t g0 g1 g2 g3 g4
      have e := hI.dl s t
      simp only [x_up] at *
      grind (splits := 24)
    · intro s t g0 g1 g2 g3
      have e := hI.ln s t
      simp only [x_up] at *
      grind (splits := 24)
    · intro s g0 g1 g2
      have e := hI.oc s
      simp only [x_up] at *
      grind (splits := 24)
    · intro s k g0 g1 g2 g3 g4 g5
      have e := hI.os s k
      simp only [x_up] at *
      grind (splits := 24)
    · intro s g0 g1 g2
      have e := hI.wa s
      simp only [x_up] at *
      grind (splits := 24)
    · intro s g0 g1
      have e := hI.dm s
      simp only [x_up] at *
      grind (splits := 24)
    · intro s i g0 g1 g2 g3 g4
      have e := hI.db s i
      simp only [x_up] at *
      grind (splits := 24)
  · exact IW_fr h.i.toy_IW (by simp only [x_up]; grind) (by simp only [x_up]; grind) (fun k q1 q2 q3 => (by simp only [x_up]; grind)) (fun k q1 q2 q3 => (by simp only [x_up]; grind))
  · exact IK_fr h.i.toy_IK (by simp only [x_up]; grind) (by simp only [x_up]; grind) (by simp only [x_up]; grind) (fun k q1 q2 => (by simp only [x_up]; grind)) (fun w q1 q2 q3 q4 => (by simp only [x_up]; grind))
  · exact FT_fr h.t h.i.toy_IK (fun c q1 q2 => (by simp only [x_up]; grind)) (by simp only [x_up]; grind) (fun k q1 q2 => (by simp only [x_up]; grind)) (fun w q1 q2 q3 => (by simp only [x_up]; grind))
theorem B_blk {C A : Int → Int → Int} (h : y_B C A) {a d : Int} (ha : 0 ≤ a ∧ a < A 163 0) (hd : 0 ≤ d ∧ d < A 163 (10 + 80 * a)) (hv : A 163 (11 + 80 * a + d) < 0) : y_B (x_up C (4 + 7 * a) d (-2)) (x_up A 163 (11 + 80 * a + d) (-2)) := by
  have hn := h.i.n
  have hc := h.i.nc
  have hw := h.i.nw
  have hf := h.f
  have hI := h.i
  have hD := hI.dk a ha.1 (by omega) ha.2
  refine ⟨⟨?_, ?_, ?_⟩, ⟨?_, ?_, ?_⟩, ?_⟩
  · refine ⟨?_, ?_, ?_, ?_, ?_, ?_, ?_, ?_, ?_, ?_, ?_, ?_, ?_, ?_⟩
    · have e := hf.n
      simp only [x_up] at *
      grind (splits := 24)
    · have e := hf.nw
      simp only [x_up] at *
      grind (splits := 24)
    · have e := hf.nc
      simp only [x_up] at *
      grind (splits := 24)
    · have e := hf.hr
      simp only [x_up] at *
      grind (splits := 24)
    · intro s g0 g1
      have e := hf.dk s
      simp only [x_up] at *
      grind (splits := 24)
    · intro s g0 g1
      have e := hf.oc s
      simp only [x_up] at *
      grind (splits := 24)
    · intro s g0 g1
      have e := hf.wa s
      simp only [x_up] at *
      grind (splits := 24)
    · intro s g0 g1
      have e := hf.fl s
      simp only [x_up] at *
      grind (splits := 24)
    · intro s d g0 g1 g2 g3 g4
      have e := hf.ct s d
      simp only [x_up] at *
      grind (splits := 24)
    · intro s t g0 g1 g2 g3 g4
      have e := hf.ln s t
      simp only [x_up] at *
      grind (splits := 24)
    · intro s k g0 g1 g2 g3
      have e := hf.ot s k
      simp only [x_up] at *
      grind (splits := 24)
    · intro s g0 g1
      have e := hf.dm s
      simp only [x_up] at *
      grind (splits := 24)
    · intro s i g0 g1 g2 g3
      have e := hf.db s i
      simp only [x_up] at *
      grind (splits := 24)
    · intro s i g0 g1 g2 g3
      have e := hf.dw s i
      simp only [x_up] at *
      grind (splits := 24)
  · exact FW_fr h.f.toy_FW (fun a k q1 q2 q3 => (by simp only [x_up]; grind)) (fun k q1 q2 q3 => (by simp only [x_up]; grind))
  · exact FK_fr h.f.toy_FK (fun a k q1 q2 => (by simp only [x_up]; grind)) (fun k q1 q2 => (by simp only [x_up]; grind))
  · exact IS_fr h.i.toy_IS (by have := h.i.nw; simp only [x_up]; grind) (fun k q1 q2 q3 q4 => (by simp only [x_up]; grind))
  · refine ⟨?_, ?_, ?_, ?_, ?_, ?_, ?_, ?_⟩
    · intro s d g0 g1 g2 g3 g4 g5
      have e := hI.cr s d
      simp only [x_up] at *
      grind (splits := 24)
    · intro s d w g0 g1 g2 g3 g4 g5 g6 g7 g8
      have e := hI.ct s d w
      simp only [x_up] at *
      grind (splits := 24)
    · intro w g0 g1 g2
      have e := hI.kd w
      simp only [x_up] at *
      grind (splits := 24)
    · intro w g0 g1 g2 g3
      have e := hI.pd w
      simp only [x_up] at *
      grind (splits := 24)
    · intro w g0 g1 g2 g3
      have e := hI.ps w
      simp only [x_up] at *
      grind (splits := 24)
    · intro w g0 g1 g2 g3
      have e := hI.pn w
      simp only [x_up] at *
      grind (splits := 24)
    · intro w g0 g1 g2
      have e := hI.pa w
      simp only [x_up] at *
      grind (splits := 24)
    · intro w g0 g1
      have e := hI.bk w
      simp only [x_up] at *
      grind (splits := 24)
  · exact IK_fr h.i.toy_IK (by simp only [x_up]; grind) (by simp only [x_up]; grind) (by simp only [x_up]; grind) (fun k q1 q2 => (by simp only [x_up]; grind)) (fun w q1 q2 q3 q4 => (by simp only [x_up]; grind))
  · exact FT_fr h.t h.i.toy_IK (fun c q1 q2 => (by simp only [x_up]; grind)) (by simp only [x_up]; grind) (fun k q1 q2 => (by simp only [x_up]; grind)) (fun w q1 q2 q3 => (by simp only [x_up]; grind))
theorem B_unb {C A : Int → Int → Int} (h : y_B C A) {a d : Int} (ha : 0 ≤ a ∧ a < A 163 0) (hd : 0 ≤ d ∧ d < A 163 (10 + 80 * a)) (hv : A 163 (11 + 80 * a + d) < 0) : y_B (x_up C (4 + 7 * a) d (-1)) (x_up A 163 (11 + 80 * a + d) (-1)) := by
  have hn := h.i.n
  have hc := h.i.nc
  have hw := h.i.nw
  have hf := h.f
  have hI := h.i
  have hD := hI.dk a ha.1 (by omega) ha.2
  refine ⟨⟨?_, ?_, ?_⟩, ⟨?_, ?_, ?_⟩, ?_⟩
  · refine ⟨?_, ?_, ?_, ?_, ?_, ?_, ?_, ?_, ?_, ?_, ?_, ?_, ?_, ?_⟩
    · have e := hf.n
      simp only [x_up] at *
      grind (splits := 24)
    · have e := hf.nw
      simp only [x_up] at *
      grind (splits := 24)
    · have e := hf.nc
      simp only [x_up] at *
      grind (splits := 24)
    · have e := hf.hr
      simp only [x_up] at *
      grind (splits := 24)
    · intro s g0 g1
      have e := hf.dk s
      simp only [x_up] at *
      grind (splits := 24)
    · intro s g0 g1
      have e := hf.oc s
      simp only [x_up] at *
      grind (splits := 24)
    · intro s g0 g1
      have e := hf.wa s
      simp only [x_up] at *
      grind (splits := 24)
    · intro s g0 g1
      have e := hf.fl s
      simp only [x_up] at *
      grind (splits := 24)
    · intro s d g0 g1 g2 g3 g4
      have e := hf.ct s d
      simp only [x_up] at *
      grind (splits := 24)
    · intro s t g0 g1 g2 g3 g4
      have e := hf.ln s t
      simp only [x_up] at *
      grind (splits := 24)
    · intro s k g0 g1 g2 g3
      have e := hf.ot s k
      simp only [x_up] at *
      grind (splits := 24)
    · intro s g0 g1
      have e := hf.dm s
      simp only [x_up] at *
      grind (splits := 24)
    · intro s i g0 g1 g2 g3
      have e := hf.db s i
      simp only [x_up] at *
      grind (splits := 24)
    · intro s i g0 g1 g2 g3
      have e := hf.dw s i
      simp only [x_up] at *
      grind (splits := 24)
  · exact FW_fr h.f.toy_FW (fun a k q1 q2 q3 => (by simp only [x_up]; grind)) (fun k q1 q2 q3 => (by simp only [x_up]; grind))
  · exact FK_fr h.f.toy_FK (fun a k q1 q2 => (by simp only [x_up]; grind)) (fun k q1 q2 => (by simp only [x_up]; grind))
  · exact IS_fr h.i.toy_IS (by have := h.i.nw; simp only [x_up]; grind) (fun k q1 q2 q3 q4 => (by simp only [x_up]; grind))
  · refine ⟨?_, ?_, ?_, ?_, ?_, ?_, ?_, ?_⟩
    · intro s d g0 g1 g2 g3 g4 g5
      have e := hI.cr s d
      simp only [x_up] at *
      grind (splits := 24)
    · intro s d w g0 g1 g2 g3 g4 g5 g6 g7 g8
      have e := hI.ct s d w
      simp only [x_up] at *
      grind (splits := 24)
    · intro w g0 g1 g2
      have e := hI.kd w
      simp only [x_up] at *
      grind (splits := 24)
    · intro w g0 g1 g2 g3
      have e := hI.pd w
      simp only [x_up] at *
      grind (splits := 24)
    · intro w g0 g1 g2 g3
      have e := hI.ps w
      simp only [x_up] at *
      grind (splits := 24)
    · intro w g0 g1 g2 g3
      have e := hI.pn w
      simp only [x_up] at *
      grind (splits := 24)
    · intro w g0 g1 g2
      have e := hI.pa w
      simp only [x_up] at *
      grind (splits := 24)
    · intro w g0 g1
      have e := hI.bk w
      simp only [x_up] at *
      grind (splits := 24)
  · exact IK_fr h.i.toy_IK (by simp only [x_up]; grind) (by simp only [x_up]; grind) (by simp only [x_up]; grind) (fun k q1 q2 => (by simp only [x_up]; grind)) (fun w q1 q2 q3 q4 => (by simp only [x_up]; grind))
  · exact FT_fr h.t h.i.toy_IK (fun c q1 q2 => (by simp only [x_up]; grind)) (by simp only [x_up]; grind) (fun k q1 q2 => (by simp only [x_up]; grind)) (fun w q1 q2 q3 => (by simp only [x_up]; grind))
theorem B_charge {C A : Int → Int → Int} (h : y_B C A) {a v : Int} (ha : 0 ≤ a ∧ a < A 163 1) (hv : 0 ≤ v ∧ v ≤ 1000) : y_B (x_up C (88 + a) 2 v) (x_up A 163 (1115 + 8 * a) v) := by
  have hn := h.i.n
  have hc := h.i.nc
  have hw := h.i.nw
  have hf := h.f
  have hI := h.i
  refine ⟨⟨?_, ?_, ?_⟩, ⟨?_, ?_, ?_⟩, ?_⟩
  · exact FS_fr h.f.toy_FS (fun a k q1 q2 => (by simp only [x_up]; grind)) (fun k q1 q2 => (by simp only [x_up]; grind))
  · refine ⟨?_, ?_, ?_, ?_, ?_, ?_, ?_, ?_⟩
    · intro w g0 g1
      have e := hf.w0 w
      simp only [x_up] at *
      grind (splits := 24)
    · intro w g0 g1
      have e := hf.w1 w
      simp only [x_up] at *
      grind (splits := 24)
    · intro w g0 g1
      have e := hf.w2 w
      simp only [x_up] at *
      grind (splits := 24)
    · intro w g0 g1
      have e := hf.w3 w
      simp only [x_up] at *
      grind (splits := 24)
    · intro w g0 g1
      have e := hf.w4 w
      simp only [x_up] at *
      grind (splits := 24)
    · intro w g0 g1
      have e := hf.w6 w
      simp only [x_up] at *
      grind (splits := 24)
    · intro w g0 g1
      have e := hf.wn w
      simp only [x_up] at *
      grind (splits := 24)
    · intro w g0 g1
      have e := hf.w7 w
      simp only [x_up] at *
      grind (splits := 24)
  · exact FK_fr h.f.toy_FK (fun a k q1 q2 => (by simp only [x_up]; grind)) (fun k q1 q2 => (by simp only [x_up]; grind))
  · exact IS_fr h.i.toy_IS (by have := h.i.nw; simp only [x_up]; grind) (fun k q1 q2 q3 q4 => (by simp only [x_up]; grind))
  · refine ⟨?_, ?_, ?_, ?_, ?_, ?_, ?_, ?_⟩
    · intro s d g0 g1 g2 g3 g4 g5
      have e := hI.cr s d
      simp only [x_up] at *
      grind (splits := 24)
    · intro s d w g0 g1 g2 g3 g4 g5 g6 g7 g8
      have e := hI.ct s d w
      simp only [x_up] at *
      grind (splits := 24)
    · intro w g0 g1 g2
      have e := hI.kd w
      simp only [x_up] at *
      grind (splits := 24)
    · intro w g0 g1 g2 g3
      have e := hI.pd w
      simp only [x_up] at *
      grind (splits := 24)
    · intro w g0 g1 g2 g3
      have e := hI.ps w
      simp only [x_up] at *
      grind (splits := 24)
    · intro w g0 g1 g2 g3
      have e := hI.pn w
      simp only [x_up] at *
      grind (splits := 24)
    · intro w g0 g1 g2
      have e := hI.pa w
      simp only [x_up] at *
      grind (splits := 24)
    · intro w g0 g1
      have e := hI.bk w
      simp only [x_up] at *
      grind (splits := 24)
  · exact IK_fr h.i.toy_IK (by simp only [x_up]; grind) (by simp only [x_up]; grind) (by simp only [x_up]; grind) (fun k q1 q2 => (by simp only [x_up]; grind)) (fun w q1 q2 q3 q4 => (by simp only [x_up]; grind))
  · exact FT_fr h.t h.i.toy_IK (fun c q1 q2 => (by simp only [x_up]; grind)) (by simp only [x_up]; grind) (fun k q1 q2 => (by simp only [x_up]; grind)) (fun w q1 q2 q3 => (by simp only [x_up]; grind))
theorem B_fault {C A : Int → Int → Int} (h : y_B C A) {a : Int} (ha : 0 ≤ a ∧ a < A 163 1) (hv : A 163 (1120 + 8 * a) ≤ 0) : y_B (x_up C (88 + a) 7 1) (x_up A 163 (1120 + 8 * a) 1) := by
  have hn := h.i.n
  have hc := h.i.nc
  have hw := h.i.nw
  have hf := h.f
  have hI := h.i
  refine ⟨⟨?_, ?_, ?_⟩, ⟨?_, ?_, ?_⟩, ?_⟩
  · exact FS_fr h.f.toy_FS (fun a k q1 q2 => (by simp only [x_up]; grind)) (fun k q1 q2 => (by simp only [x_up]; grind))
  · refine ⟨?_, ?_, ?_, ?_, ?_, ?_, ?_, ?_⟩
    · intro w g0 g1
      have e := hf.w0 w
      simp only [x_up] at *
      grind (splits := 24)
    · intro w g0 g1
      have e := hf.w1 w
      simp only [x_up] at *
      grind (splits := 24)
    · intro w g0 g1
      have e := hf.w2 w
      simp only [x_up] at *
      grind (splits := 24)
    · intro w g0 g1
      have e := hf.w3 w
      simp only [x_up] at *
      grind (splits := 24)
    · intro w g0 g1
      have e := hf.w4 w
      simp only [x_up] at *
      grind (splits := 24)
    · intro w g0 g1
      have e := hf.w6 w
      simp only [x_up] at *
      grind (splits := 24)
    · intro w g0 g1
      have e := hf.wn w
      simp only [x_up] at *
      grind (splits := 24)
    · intro w g0 g1
      have e := hf.w7 w
      simp only [x_up] at *
      grind (splits := 24)
  · exact FK_fr h.f.toy_FK (fun a k q1 q2 => (by simp only [x_up]; grind)) (fun k q1 q2 => (by simp only [x_up]; grind))
  · exact IS_fr h.i.toy_IS (by have := h.i.nw; simp only [x_up]; grind) (fun k q1 q2 q3 q4 => (by simp only [x_up]; grind))
  · refine ⟨?_, ?_, ?_, ?_, ?_, ?_, ?_, ?_⟩
    · intro s d g0 g1 g2 g3 g4 g5
      have e := hI.cr s d
      simp only [x_up] at *
      grind (splits := 24)
    · intro s d w g0 g1 g2 g3 g4 g5 g6 g7 g8
      have e := hI.ct s d w
      simp only [x_up] at *
      grind (splits := 24)
    · intro w g0 g1 g2
      have e := hI.kd w
      simp only [x_up] at *
      grind (splits := 24)
    · intro w g0 g1 g2 g3
      have e := hI.pd w
      simp only [x_up] at *
      grind (splits := 24)
    · intro w g0 g1 g2 g3
      have e := hI.ps w
      simp only [x_up] at *
      grind (splits := 24)
    · intro w g0 g1 g2 g3
      have e := hI.pn w
      simp only [x_up] at *
      grind (splits := 24)
    · intro w g0 g1 g2
      have e := hI.pa w
      simp only [x_up] at *
      grind (splits := 24)
    · intro w g0 g1
      have e := hI.bk w
      simp only [x_up] at *
      grind (splits := 24)
  · exact IK_fr h.i.toy_IK (by simp only [x_up]; grind) (by simp only [x_up]; grind) (by simp only [x_up]; grind) (fun k q1 q2 => (by simp only [x_up]; grind)) (fun w q1 q2 q3 q4 => (by simp only [x_up]; grind))
  · exact FT_fr h.t h.i.toy_IK (fun c q1 q2 => (by simp only [x_up]; grind)) (by simp only [x_up]; grind) (fun k q1 q2 => (by simp only [x_up]; grind)) (fun w q1 q2 q3 => (by simp only [x_up]; grind))
theorem B_test0 {C A : Int → Int → Int} (h : y_B C A) {a : Int} (ha : 0 ≤ a ∧ a < A 163 1) : y_B (x_up C (88 + a) 6 0) (x_up A 163 (1119 + 8 * a) 0) := by
  have hn := h.i.n
  have hc := h.i.nc
  have hw := h.i.nw
  have hf := h.f
  have hI := h.i
  refine ⟨⟨?_, ?_, ?_⟩, ⟨?_, ?_, ?_⟩, ?_⟩
  · exact FS_fr h.f.toy_FS (fun a k q1 q2 => (by simp only [x_up]; grind)) (fun k q1 q2 => (by simp only [x_up]; grind))
  · exact FW_fr h.f.toy_FW (fun a k q1 q2 q3 => (by simp only [x_up]; grind)) (fun k q1 q2 q3 => (by simp only [x_up]; grind))
  · exact FK_fr h.f.toy_FK (fun a k q1 q2 => (by simp only [x_up]; grind)) (fun k q1 q2 => (by simp only [x_up]; grind))
  · exact IS_fr h.i.toy_IS (by have := h.i.nw; simp only [x_up]; grind) (fun k q1 q2 q3 q4 => (by simp only [x_up]; grind))
  · exact IW_fr h.i.toy_IW (by simp only [x_up]; grind) (by simp only [x_up]; grind) (fun k q1 q2 q3 => (by simp only [x_up]; grind)) (fun k q1 q2 q3 => (by simp only [x_up]; grind))
  · exact IK_fr h.i.toy_IK (by simp only [x_up]; grind) (by simp only [x_up]; grind) (by simp only [x_up]; grind) (fun k q1 q2 => (by simp only [x_up]; grind)) (fun w q1 q2 q3 q4 => (by simp only [x_up]; grind))
  · exact FT_fr h.t h.i.toy_IK (fun c q1 q2 => (by simp only [x_up]; grind)) (by simp only [x_up]; grind) (fun k q1 q2 => (by simp only [x_up]; grind)) (fun w q1 q2 q3 => (by simp only [x_up]; grind))
theorem B_test1 {C A : Int → Int → Int} (h : y_B C A) {a : Int} (ha : 0 ≤ a ∧ a < A 163 1) (hv : 0 < A 163 (1120 + 8 * a)) : y_B (x_up C (88 + a) 8 1) (x_up A 163 (1120 + 8 * a) 2) := by
  have hn := h.i.n
  have hc := h.i.nc
  have hw := h.i.nw
  have hf := h.f
  have hI := h.i
  refine ⟨⟨?_, ?_, ?_⟩, ⟨?_, ?_, ?_⟩, ?_⟩
  · exact FS_fr h.f.toy_FS (fun a k q1 q2 => (by simp only [x_up]; grind)) (fun k q1 q2 => (by simp only [x_up]; grind))
  · refine ⟨?_, ?_, ?_, ?_, ?_, ?_, ?_, ?_⟩
    · intro w g0 g1
      have e := hf.w0 w
      simp only [x_up] at *
      grind (splits := 24)
    · intro w g0 g1
      have e := hf.w1 w
      simp only [x_up] at *
      grind (splits := 24)
    · intro w g0 g1
      have e := hf.w2 w
      simp only [x_up] at *
      grind (splits := 24)
    · intro w g0 g1
      have e := hf.w3 w
      simp only [x_up] at *
      grind (splits := 24)
    · intro w g0 g1
      have e := hf.w4 w
      simp only [x_up] at *
      grind (splits := 24)
    · intro w g0 g1
      have e := hf.w6 w
      simp only [x_up] at *
      grind (splits := 24)
    · intro w g0 g1
      have e := hf.wn w
      simp only [x_up] at *
      grind (splits := 24)
    · intro w g0 g1
      have e := hf.w7 w
      simp only [x_up] at *
      grind (splits := 24)
  · exact FK_fr h.f.toy_FK (fun a k q1 q2 => (by simp only [x_up]; grind)) (fun k q1 q2 => (by simp only [x_up]; grind))
  · exact IS_fr h.i.toy_IS (by have := h.i.nw; simp only [x_up]; grind) (fun k q1 q2 q3 q4 => (by simp only [x_up]; grind))
  · refine ⟨?_, ?_, ?_, ?_, ?_, ?_, ?_, ?_⟩
    · intro s d g0 g1 g2 g3 g4 g5
      have e := hI.cr s d
      simp only [x_up] at *
      grind (splits := 24)
    · intro s d w g0 g1 g2 g3 g4 g5 g6 g7 g8
      have e := hI.ct s d w
      simp only [x_up] at *
      grind (splits := 24)
    · intro w g0 g1 g2
      have e := hI.kd w
      simp only [x_up] at *
      grind (splits := 24)
    · intro w g0 g1 g2 g3
      have e := hI.pd w
      simp only [x_up] at *
      grind (splits := 24)
    · intro w g0 g1 g2 g3
      have e := hI.ps w
      simp only [x_up] at *
      grind (splits := 24)
    · intro w g0 g1 g2 g3
      have e := hI.pn w
      simp only [x_up] at *
      grind (splits := 24)
    · intro w g0 g1 g2
      have e := hI.pa w
      simp only [x_up] at *
      grind (splits := 24)
    · intro w g0 g1
      have e := hI.bk w
      simp only [x_up] at *
      grind (splits := 24)
  · exact IK_fr h.i.toy_IK (by simp only [x_up]; grind) (by simp only [x_up]; grind) (by simp only [x_up]; grind) (fun k q1 q2 => (by simp only [x_up]; grind)) (fun w q1 q2 q3 q4 => (by simp only [x_up]; grind))
  · exact FT_fr h.t h.i.toy_IK (fun c q1 q2 => (by simp only [x_up]; grind)) (by simp only [x_up]; grind) (fun k q1 q2 => (by simp only [x_up]; grind)) (fun w q1 q2 q3 => (by simp only [x_up]; grind))
theorem B_mend {C A : Int → Int → Int} (h : y_B C A) {a : Int} (ha : 0 ≤ a ∧ a < A 163 1) : y_B (x_up (x_up (x_up C (88 + a) 7 0) (88 + a) 8 0) (88 + a) 6 0) (x_up (x_up A 163 (1120 + 8 * a) 0) 163 (1119 + 8 * a) 0) := by
  have hn := h.i.n
  have hc := h.i.nc
  have hw := h.i.nw
  have hf := h.f
  have hI := h.i
  refine ⟨⟨?_, ?_, ?_⟩, ⟨?_, ?_, ?_⟩, ?_⟩
  · exact FS_fr h.f.toy_FS (fun a k q1 q2 => (by simp only [x_up]; grind)) (fun k q1 q2 => (by simp only [x_up]; grind))
  · refine ⟨?_, ?_, ?_, ?_, ?_, ?_, ?_, ?_⟩
    · intro w g0 g1
      have e := hf.w0 w
      simp only [x_up] at *
      grind (splits := 24)
    · intro w g0 g1
      have e := hf.w1 w
      simp only [x_up] at *
      grind (splits := 24)
    · intro w g0 g1
      have e := hf.w2 w
      simp only [x_up] at *
      grind (splits := 24)
    · intro w g0 g1
      have e := hf.w3 w
      simp only [x_up] at *
      grind (splits := 24)
    · intro w g0 g1
      have e := hf.w4 w
      simp only [x_up] at *
      grind (splits := 24)
    · intro w g0 g1
      have e := hf.w6 w
      simp only [x_up] at *
      grind (splits := 24)
    · intro w g0 g1
      have e := hf.wn w
      simp only [x_up] at *
      grind (splits := 24)
    · intro w g0 g1
      have e := hf.w7 w
      simp only [x_up] at *
      grind (splits := 24)
  · exact FK_fr h.f.toy_FK (fun a k q1 q2 => (by simp only [x_up]; grind)) (fun k q1 q2 => (by simp only [x_up]; grind))
  · exact IS_fr h.i.toy_IS (by have := h.i.nw; simp only [x_up]; grind) (fun k q1 q2 q3 q4 => (by simp only [x_up]; grind))
  · refine ⟨?_, ?_, ?_, ?_, ?_, ?_, ?_, ?_⟩
    · intro s d g0 g1 g2 g3 g4 g5
      have e := hI.cr s d
      simp only [x_up] at *
      grind (splits := 24)
    · intro s d w g0 g1 g2 g3 g4 g5 g6 g7 g8
      have e := hI.ct s d w
      simp only [x_up] at *
      grind (splits := 24)
    · intro w g0 g1 g2
      have e := hI.kd w
      simp only [x_up] at *
      grind (splits := 24)
    · intro w g0 g1 g2 g3
      have e := hI.pd w
      simp only [x_up] at *
      grind (splits := 24)
    · intro w g0 g1 g2 g3
      have e := hI.ps w
      simp only [x_up] at *
      grind (splits := 24)
    · intro w g0 g1 g2 g3
      have e := hI.pn w
      simp only [x_up] at *
      grind (splits := 24)
    · intro w g0 g1 g2
      have e := hI.pa w
      simp only [x_up] at *
      grind (splits := 24)
    · intro w g0 g1
      have e := hI.bk w
      simp only [x_up] at *
      grind (splits := 24)
  · exact IK_fr h.i.toy_IK (by simp only [x_up]; grind) (by simp only [x_up]; grind) (by simp only [x_up]; grind) (fun k q1 q2 => (by simp only [x_up]; grind)) (fun w q1 q2 q3 q4 => (by simp only [x_up]; grind))
  · exact FT_fr h.t h.i.toy_IK (fun c q1 q2 => (by simp only [x_up]; grind)) (by simp only [x_up]; grind) (fun k q1 q2 => (by simp only [x_up]; grind)) (fun w q1 q2 q3 => (by simp only [x_up]; grind))
