theorem F_leaves {C A : Int → Int → Int} (h : y_F C A) {w : Int} (hw : 0 ≤ w ∧ w < 60) (hp : A 163 (1116 + 8 * w) = 0) (hs : 0 ≤ A 163 (1117 + 8 * w) ∧ A 163 (1117 + 8 * w) < A 163 0) (hn : A 163 0 ≤ 12) (hd : 0 ≤ A 163 (1118 + 8 * w) ∧ A 163 (1118 + 8 * w) + y_sz (A 163 (1114 + 8 * w)) ≤ A 163 (10 + 80 * A 163 (1117 + 8 * w))) (hD : A 163 (10 + 80 * A 163 (1117 + 8 * w)) ≤ 12) : y_F (u_clearDock w C) (u_m_leaves w A) := by
  have k0 := h.w0 w hw.1 hw.2
  have k2 := h.w2 w hw.1 hw.2
  have k3 := h.w3 w hw.1 hw.2
  have k4 := h.w4 w hw.1 hw.2
  rw [if_neg (by omega)] at k3 k4
  have dk := h.dk _ hs.1 (show A 163 (1117 + 8 * w) < 12 by omega)
  unfold u_clearDock u_m_leaves
  rw [k3, h.n, if_pos hs, k2, if_neg (by omega), k0, k4, F_fill hd.1 (by rw [dk]; exact hd.2)]
  clear k0 k2 k3 k4 dk hp
  unfold y_sz at hd
  generalize A 163 (1114 + 8 * w) = kd at *
  generalize A 163 (1117 + 8 * w) = s0 at *
  generalize A 163 (1118 + 8 * w) = d0 at *
  by_cases q : kd = 2
  · rw [if_pos q, if_neg (by omega)]
    rw [if_pos q] at hd
    refine ⟨?_, ?_, ?_⟩
    · refine ⟨?_, ?_, ?_, ?_, ?_, ?_, ?_, ?_, ?_, ?_, ?_, ?_, ?_, ?_⟩
      · have e := h.n
        simp only [x_up] at *
        grind (splits := 24)
      · have e := h.nw
        simp only [x_up] at *
        grind (splits := 24)
      · have e := h.nc
        simp only [x_up] at *
        grind (splits := 24)
      · have e := h.hr
        simp only [x_up] at *
        grind (splits := 24)
      · intro s g0 g1
        have e := h.dk s
        simp only [x_up] at *
        grind (splits := 24)
      · intro s g0 g1
        have e := h.oc s
        simp only [x_up] at *
        grind (splits := 24)
      · intro s g0 g1
        have e := h.wa s
        simp only [x_up] at *
        grind (splits := 24)
      · intro s g0 g1
        have e := h.fl s
        simp only [x_up] at *
        grind (splits := 24)
      · intro s d g0 g1 g2 g3 g4
        have e := h.ct s d
        simp only [x_up] at *
        grind (splits := 24)
      · intro s t g0 g1 g2 g3 g4
        have e := h.ln s t
        simp only [x_up] at *
        grind (splits := 24)
      · intro s k g0 g1 g2 g3
        have e := h.ot s k
        simp only [x_up] at *
        grind (splits := 24)
      · intro s g0 g1
        have e := h.dm s
        simp only [x_up] at *
        grind (splits := 24)
      · intro s i g0 g1 g2 g3
        have e := h.db s i
        simp only [x_up] at *
        grind (splits := 24)
      · intro s i g0 g1 g2 g3
        have e := h.dw s i
        simp only [x_up] at *
        grind (splits := 24)
    · exact FW_fr h.toy_FW (fun a k q1 q2 q3 => (by simp only [x_up]; grind)) (fun k q1 q2 q3 => (by simp only [x_up]; grind))
    · exact FK_fr h.toy_FK (fun a k q1 q2 => (by simp only [x_up]; grind)) (fun k q1 q2 => (by simp only [x_up]; grind))
  · rw [if_neg q, if_pos q]
    rw [if_neg q] at hd
    refine ⟨?_, ?_, ?_⟩
    · refine ⟨?_, ?_, ?_, ?_, ?_, ?_, ?_, ?_, ?_, ?_, ?_, ?_, ?_, ?_⟩
      · have e := h.n
        simp only [x_up] at *
        grind (splits := 24)
      · have e := h.nw
        simp only [x_up] at *
        grind (splits := 24)
      · have e := h.nc
        simp only [x_up] at *
        grind (splits := 24)
      · have e := h.hr
        simp only [x_up] at *
        grind (splits := 24)
      · intro s g0 g1
        have e := h.dk s
        simp only [x_up] at *
        grind (splits := 24)
      · intro s g0 g1
        have e := h.oc s
        simp only [x_up] at *
        grind (splits := 24)
      · intro s g0 g1
        have e := h.wa s
        simp only [x_up] at *
        grind (splits := 24)
      · intro s g0 g1
        have e := h.fl s
        simp only [x_up] at *
        grind (splits := 24)
      · intro s d g0 g1 g2 g3 g4
        have e := h.ct s d
        simp only [x_up] at *
        grind (splits := 24)
      · intro s t g0 g1 g2 g3 g4
        have e := h.ln s t
        simp only [x_up] at *
        grind (splits := 24)
      · intro s k g0 g1 g2 g3
        have e := h.ot s k
        simp only [x_up] at *
        grind (splits := 24)
      · intro s g0 g1
        have e := h.dm s
        simp only [x_up] at *
        grind (splits := 24)
      · intro s i g0 g1 g2 g3
        have e := h.db s i
        simp only [x_up] at *
        grind (splits := 24)
      · intro s i g0 g1 g2 g3
        have e := h.dw s i
        simp only [x_up] at *
        grind (splits := 24)
    · exact FW_fr h.toy_FW (fun a k q1 q2 q3 => (by simp only [x_up]; grind)) (fun k q1 q2 q3 => (by simp only [x_up]; grind))
    · exact FK_fr h.toy_FK (fun a k q1 q2 => (by simp only [x_up]; grind)) (fun k q1 q2 => (by simp only [x_up]; grind))
theorem F_rec {C A C2 A2 : Int → Int → Int} (h : y_F C A) (w : Int) (hw : 0 ≤ w ∧ w < 60) (hC : ∀ a k, a ≠ 88 + w → C2 a k = C a k) (hA : ∀ k, ¬ (1114 + 8 * w ≤ k ∧ k < 1122 + 8 * w) → A2 163 k = A 163 k)
    (e0 : C2 (88 + w) 1 = A2 163 (1114 + 8 * w)) (e1 : C2 (88 + w) 2 = A2 163 (1115 + 8 * w)) (e2 : C2 (88 + w) 3 = A2 163 (1116 + 8 * w)) (e3 : C2 (88 + w) 4 = if A2 163 (1116 + 8 * w) = 1 then -1 else A2 163 (1117 + 8 * w)) (e4 : C2 (88 + w) 5 = if A2 163 (1116 + 8 * w) = 1 then A2 163 (1117 + 8 * w) else A2 163 (1118 + 8 * w)) (e6 : C2 (88 + w) 7 = if 0 < A2 163 (1120 + 8 * w) then 1 else 0) (en : C2 (88 + w) 8 = if A2 163 (1120 + 8 * w) = 2 then 1 else 0) (e7 : C2 (88 + w) 9 = A2 163 (1121 + 8 * w)) : y_F C2 A2 := by
  refine ⟨?_, ?_, ?_⟩
  · exact FS_fr h.toy_FS (fun a k q1 q2 => hC a k (by omega)) (fun k q1 q2 => hA k (by omega))
  · refine ⟨fun v v0 v1 => ?_, fun v v0 v1 => ?_, fun v v0 v1 => ?_, fun v v0 v1 => ?_, fun v v0 v1 => ?_, fun v v0 v1 => ?_, fun v v0 v1 => ?_, fun v v0 v1 => ?_⟩
    · by_cases q : v = w
      · rw [q]; exact e0
      · rw [hC _ _ (by omega), hA _ (by omega)]; exact h.w0 v v0 v1
    · by_cases q : v = w
      · rw [q]; exact e1
      · rw [hC _ _ (by omega), hA _ (by omega)]; exact h.w1 v v0 v1
    · by_cases q : v = w
      · rw [q]; exact e2
      · rw [hC _ _ (by omega), hA _ (by omega)]; exact h.w2 v v0 v1
    · by_cases q : v = w
      · rw [q]; exact e3
      · rw [hC _ _ (by omega), hA _ (by omega), hA _ (by omega)]; exact h.w3 v v0 v1
    · by_cases q : v = w
      · rw [q]; exact e4
      · rw [hC _ _ (by omega), hA _ (by omega), hA _ (by omega), hA _ (by omega)]; exact h.w4 v v0 v1
    · by_cases q : v = w
      · rw [q]; exact e6
      · rw [hC _ _ (by omega), hA _ (by omega)]; exact h.w6 v v0 v1
    · by_cases q : v = w
      · rw [q]; exact en
      · rw [hC _ _ (by omega), hA _ (by omega)]; exact h.wn v v0 v1
    · by_cases q : v = w
      · rw [q]; exact e7
      · rw [hC _ _ (by omega), hA _ (by omega)]; exact h.w7 v v0 v1
  · exact FK_fr h.toy_FK (fun a k q1 q2 => hC a k (by omega)) (fun k q1 q2 => hA k (by omega))
theorem F_nw {C A : Int → Int → Int} (h : y_F C A) {v : Int} : y_F (x_up C 1 3 v) (x_up A 163 1 v) := by
  refine ⟨?_, ?_, ?_⟩
  · refine ⟨?_, ?_, ?_, ?_, ?_, ?_, ?_, ?_, ?_, ?_, ?_, ?_, ?_, ?_⟩
    · have e := h.n
      simp only [x_up] at *
      grind (splits := 24)
    · have e := h.nw
      simp only [x_up] at *
      grind (splits := 24)
    · have e := h.nc
      simp only [x_up] at *
      grind (splits := 24)
    · have e := h.hr
      simp only [x_up] at *
      grind (splits := 24)
    · intro s g0 g1
      have e := h.dk s
      simp only [x_up] at *
      grind (splits := 24)
    · intro s g0 g1
      have e := h.oc s
      simp only [x_up] at *
      grind (splits := 24)
    · intro s g0 g1
      have e := h.wa s
      simp only [x_up] at *
      grind (splits := 24)
    · intro s g0 g1
      have e := h.fl s
      simp only [x_up] at *
      grind (splits := 24)
    · intro s d g0 g1 g2 g3 g4
      have e := h.ct s d
      simp only [x_up] at *
      grind (splits := 24)
    · intro s t g0 g1 g2 g3 g4
      have e := h.ln s t
      simp only [x_up] at *
      grind (splits := 24)
    · intro s k g0 g1 g2 g3
      have e := h.ot s k
      simp only [x_up] at *
      grind (splits := 24)
    · intro s g0 g1
      have e := h.dm s
      simp only [x_up] at *
      grind (splits := 24)
    · intro s i g0 g1 g2 g3
      have e := h.db s i
      simp only [x_up] at *
      grind (splits := 24)
    · intro s i g0 g1 g2 g3
      have e := h.dw s i
      simp only [x_up] at *
      grind (splits := 24)
  · exact FW_fr h.toy_FW (fun a k q1 q2 q3 => (by simp only [x_up]; grind)) (fun k q1 q2 q3 => (by simp only [x_up]; grind))
  · exact FK_fr h.toy_FK (fun a k q1 q2 => (by simp only [x_up]; grind)) (fun k q1 q2 => (by simp only [x_up]; grind))

