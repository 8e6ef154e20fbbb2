theorem O_charge {C A : Int → Int → Int} (h : y_B C A) (a b : Int) (ht : x_thou b = -1 ∨ (0 ≤ x_thou b ∧ x_thou b ≤ 1000)) : v_x_charge a b C = v_n_charge a b A ∧ y_B (u_x_charge a b C) (u_n_charge a b A) := by
  have hn := h.f.nw
  have hw := h.i.nw
  unfold v_x_charge v_n_charge u_x_charge u_n_charge
  rw [hn]
  by_cases ha : 0 ≤ a ∧ a < A 163 1
  · have k0 := h.f.w0 a ha.1 (by omega)
    rw [if_pos ha, if_pos ha, if_pos ha, if_pos ha, k0]
    by_cases hk : A 163 (1114 + 8 * a) = 1 ∨ A 163 (1114 + 8 * a) = 2
    · rw [if_pos hk, if_pos hk, if_pos hk, if_pos hk]
      refine ⟨by grind, ?_⟩
      rcases ht with q | q
      · rw [if_pos q, if_neg (by omega)]; exact h
      · rw [if_neg (by omega), if_pos q.1]; exact B_charge h ha q
    · rw [if_neg hk, if_neg hk, if_neg hk, if_neg hk]; exact ⟨rfl, h⟩
  · rw [if_neg ha, if_neg ha, if_neg ha, if_neg ha]; exact ⟨rfl, h⟩
theorem O_fault {C A : Int → Int → Int} (h : y_B C A) (a : Int) : v_x_fault a C = v_n_fault a A ∧ y_B (u_x_fault a C) (u_n_fault a A) := by
  have hn := h.f.nw
  have hw := h.i.nw
  unfold v_x_fault v_n_fault u_x_fault u_n_fault
  rw [hn]
  by_cases ha : 0 ≤ a ∧ a < A 163 1
  · have k6 := h.f.w6 a ha.1 (by omega)
    rw [if_pos ha, if_pos ha, if_pos ha, if_pos ha, k6]
    by_cases hk : A 163 (1120 + 8 * a) ≤ 0
    · rw [if_neg (show ¬ 0 < A 163 (1120 + 8 * a) by omega), if_pos hk, if_pos hk, if_pos rfl, if_pos rfl]; exact ⟨rfl, B_fault h ha hk⟩
    · rw [if_pos (show 0 < A 163 (1120 + 8 * a) by omega), if_neg hk, if_neg hk, if_neg (by omega), if_neg (by omega)]; exact ⟨rfl, h⟩
  · rw [if_neg ha, if_neg ha, if_neg ha, if_neg ha]; exact ⟨rfl, h⟩
theorem O_test {C A : Int → Int → Int} (h : y_B C A) (a : Int) : v_x_test a C = v_n_test a A ∧ y_B (u_x_test a C) (u_n_test a A) := by
  have hn := h.f.nw
  have hw := h.i.nw
  unfold v_x_test v_n_test u_x_test u_n_test
  rw [hn]
  by_cases ha : 0 ≤ a ∧ a < A 163 1
  · have k6 := h.f.w6 a ha.1 (by omega)
    have k2 := h.f.w2 a ha.1 (by omega)
    rw [if_pos ha, if_pos ha, if_pos ha, if_pos ha, k6, k2]
    by_cases hp : A 163 (1116 + 8 * a) = 2
    · rw [if_neg (by omega), if_neg (by omega), if_neg (by omega), if_neg (by omega)]; exact ⟨rfl, h⟩
    rw [if_pos hp, if_pos hp, if_pos hp, if_pos hp]
    by_cases hk : A 163 (1120 + 8 * a) ≤ 0
    · rw [if_neg (show ¬ 0 < A 163 (1120 + 8 * a) by omega), if_pos hk, if_pos hk, if_pos rfl, if_pos rfl]; exact ⟨rfl, B_test0 h ha⟩
    · rw [if_pos (show 0 < A 163 (1120 + 8 * a) by omega), if_neg hk, if_neg hk, if_neg (by omega), if_neg (by omega)]; exact ⟨rfl, B_test1 h ha (by omega)⟩
  · rw [if_neg ha, if_neg ha, if_neg ha, if_neg ha]; exact ⟨rfl, h⟩
theorem O_mend {C A : Int → Int → Int} (h : y_B C A) (a : Int) : v_x_mend a C = v_n_mend a A ∧ y_B (u_x_mend a C) (u_n_mend a A) := by
  have hn := h.f.nw
  have hw := h.i.nw
  unfold v_x_mend v_n_mend u_x_mend u_n_mend
  rw [hn]
  by_cases ha : 0 ≤ a ∧ a < A 163 1
  · have k6 := h.f.w6 a ha.1 (by omega)
    have k2 := h.f.w2 a ha.1 (by omega)
    have bk := h.i.bk a ha.1 (by omega)
    rw [if_pos ha, if_pos ha, if_pos ha, if_pos ha, k6, k2]
    by_cases hp : A 163 (1116 + 8 * a) = 2
    · rw [if_pos hp, if_pos hp, if_pos hp, if_pos hp]; exact ⟨rfl, h⟩
    rw [if_neg hp, if_neg hp, if_neg hp, if_neg hp]
    by_cases hk : A 163 (1120 + 8 * a) = 0
    · rw [if_neg (show ¬ 0 < A 163 (1120 + 8 * a) by omega), if_neg (by omega), if_neg (by omega), if_neg (by omega), if_neg (by omega)]; exact ⟨rfl, h⟩
    · rw [if_pos (show 0 < A 163 (1120 + 8 * a) by omega), if_pos (by omega), if_pos hk, if_pos (by omega), if_pos hk]; exact ⟨rfl, B_mend h ha⟩
  · rw [if_neg ha, if_neg ha, if_neg ha, if_neg ha]; exact ⟨rfl, h⟩
theorem O_block {C A : Int → Int → Int} (h : y_B C A) (a b d : Int) : v_x_block a b d C = v_n_block a b d A ∧ y_B (u_x_block a b d C) (u_n_block a b d A) := by
  have hn := h.f.n
  have hN := h.i.n
  unfold v_x_block v_n_block u_x_block u_n_block
  rw [hn]
  by_cases ha : 0 ≤ a ∧ a < A 163 0
  · have dk := h.f.dk a ha.1 (by omega)
    have hD := h.i.dk a ha.1 (by omega) ha.2
    rw [if_pos ha, if_pos ha, dk]
    by_cases hb : 0 ≤ b ∧ b < A 163 (10 + 80 * a)
    · have ct := h.f.ct a b ha.1 (by omega) hb.1 (by omega) hb.2
      have hb2 : ((0 ≤ a ∧ a < A 163 0) ∧ 0 ≤ b ∧ b < A 163 (10 + 80 * a)) := ⟨ha, hb⟩
      rw [if_pos hb, if_pos hb, if_pos hb2, if_pos hb2, ct]
      refine ⟨rfl, ?_⟩
      by_cases hd : d = 0
      · simp only [if_pos hd]
        by_cases q : A 163 (11 + 80 * a + b) = -2
        · rw [if_pos q, if_pos q]; exact B_unb h ha hb (by omega)
        · rw [if_neg q, if_neg q]; exact h
      · simp only [if_neg hd]
        by_cases q : A 163 (11 + 80 * a + b) = -1
        · rw [if_pos q, if_pos q]; exact B_blk h ha hb (by omega)
        · rw [if_neg q, if_neg q]; exact h
    · have hb2 : ¬ ((0 ≤ a ∧ a < A 163 0) ∧ 0 ≤ b ∧ b < A 163 (10 + 80 * a)) := fun q => hb q.2
      rw [if_neg hb, if_neg hb, if_neg hb2, if_neg hb2]; exact ⟨rfl, h⟩
  · have hb2 : ¬ ((0 ≤ a ∧ a < A 163 0) ∧ 0 ≤ b ∧ b < A 163 (10 + 80 * a)) := fun q => ha q.1
    rw [if_neg ha, if_neg ha, if_neg hb2, if_neg hb2]; exact ⟨rfl, h⟩
theorem x_up_up {f : Int → Int → Int} {a k v w : Int} : x_up (x_up f a k v) a k w = x_up f a k w := by
  funext b j; unfold x_up; grind
theorem x_up_cm {f : Int → Int → Int} {a k v b j w : Int} (h : ¬ (a = b ∧ k = j)) : x_up (x_up f a k v) b j w = x_up (x_up f b j w) a k v := by
  funext c l; unfold x_up; grind
theorem O_next {C A : Int → Int → Int} (h : y_B C A) (a b : Int) : v_x_next a b C = v_n_next a b A ∧ y_B (u_x_next a b C) (u_n_next a b A) := by
  have hn := h.f.n
  have hN := h.i.n
  unfold v_x_next v_n_next u_x_next u_n_next v_addOther u_addOther
  rw [hn]
  by_cases ha : 0 ≤ a ∧ a < A 163 0
  · have oc := h.f.oc a ha.1 (by omega)
    have oi := h.i.oc a ha.1 (by omega) ha.2
    rw [oc]
    refine ⟨by grind, ?_⟩
    rw [if_pos ha, if_pos ha]
    by_cases hb : 0 ≤ b ∧ b < A 163 0
    · rw [if_pos hb, if_pos hb]
      by_cases hc : a = b
      · rw [if_neg (by omega), if_neg (by omega)]; exact h
      rw [if_pos hc, if_pos hc]
      by_cases q : A 163 (25 + 80 * a) = 8
      · rw [if_neg (by omega), if_neg (by omega)]; exact h
      rw [if_pos (show max 0 (A 163 (25 + 80 * a)) < 8 by omega), if_pos q]
      have B := B_next h (a := a) (b := b) (p := max 0 (A 163 (25 + 80 * a))) ha hb (by omega) rfl
      by_cases q2 : 0 ≤ A 163 (25 + 80 * a)
      · rw [if_pos q2]
        rwa [show max 0 (A 163 (25 + 80 * a)) = A 163 (25 + 80 * a) by omega] at B ⊢
      · rw [if_neg q2]
        rw [show max 0 (A 163 (25 + 80 * a)) = 0 by omega, show 26 + 80 * a + 0 = 26 + 80 * a by omega] at B
        rw [show max 0 (A 163 (25 + 80 * a)) = 0 by omega]
        rw [show (1 : Int) + 0 = 1 by omega] at B ⊢
        have e : x_up (x_up (x_up A 163 (25 + 80 * a) 0) 163 (26 + 80 * a) b) 163 (25 + 80 * a) 1 = x_up (x_up A 163 (26 + 80 * a) b) 163 (25 + 80 * a) 1 := by funext c l; simp only [x_up]; grind
        rw [e]; exact B
    · rw [if_neg hb, if_neg hb]; exact h
  · rw [if_neg ha, if_neg ha, if_neg ha, if_neg ha]; exact ⟨rfl, h⟩

theorem B_cart {C A : Int → Int → Int} (h : y_B C A) {a b : Int} (ha : 1 ≤ a ∧ a ≤ 8) (hb : 0 ≤ b ∧ b < A 163 0) (h3 : A 163 2 < 3) : y_B (x_up (u_cSetUp (A 163 2) a b C) 1 5 (1 + A 163 2)) (x_up ((x_up ((x_up ((x_up ((x_up A 163 (1594 + 12 * A 163 2) a)) 163 (1595 + 12 * A 163 2) b)) 163 (1596 + 12 * A 163 2) 0)) 163 (1597 + 12 * A 163 2) 0)) 163 2 (1 + A 163 2)) := by
  have hn := h.i.n
  have hc := h.i.nc
  have hw := h.i.nw
  have hf := h.f
  have hI := h.i
  unfold u_cSetUp
  refine ⟨⟨?_, ?_, ?_⟩, ⟨?_, ?_, ?_⟩, ?_⟩
  · refine ⟨?_, ?_, ?_, ?_, ?_, ?_, ?_, ?_, ?_, ?_, ?_, ?_, ?_, ?_⟩
    · have e := hf.n
      simp only [x_up] at *
      grind (splits := 24)
    · have e := hf.nw
      simp only [x_up] at *
      grind (splits := 24)
    · have e := hf.nc
      simp only [x_up] at *
      grind (splits := 24)
    · have e := hf.hr
      simp only [x_up] at *
      grind (splits := 24)
    · intro s g0 g1
      have e := hf.dk s
      simp only [x_up] at *
      grind (splits := 24)
    · intro s g0 g1
      have e := hf.oc s
      simp only [x_up] at *
      grind (splits := 24)
    · intro s g0 g1
      have e := hf.wa s
      simp only [x_up] at *
      grind (splits := 24)
    · intro s g0 g1
      have e := hf.fl s
      simp only [x_up] at *
      grind (splits := 24)
    · intro s d g0 g1 g2 g3 g4
      have e := hf.ct s d
      simp only [x_up] at *
      grind (splits := 24)
    · intro s t g0 g1 g2 g3 g4
      have e := hf.ln s t
      simp only [x_up] at *
      grind (splits := 24)
    · intro s k g0 g1 g2 g3
      have e := hf.ot s k
      simp only [x_up] at *
      grind (splits := 24)
    · intro s g0 g1
      have e := hf.dm s
      simp only [x_up] at *
      grind (splits := 24)
    · intro s i g0 g1 g2 g3
      have e := hf.db s i
      simp only [x_up] at *
      grind (splits := 24)
    · intro s i g0 g1 g2 g3
      have e := hf.dw s i
      simp only [x_up] at *
      grind (splits := 24)
  · exact FW_fr h.f.toy_FW (fun a k q1 q2 q3 => (by simp only [x_up]; grind)) (fun k q1 q2 q3 => (by simp only [x_up]; grind))
  · refine ⟨?_, ?_, ?_, ?_, ?_⟩
    · intro c g0 g1
      have e := hf.k0 c
      simp only [x_up] at *
      grind (splits := 24)
    · intro c g0 g1
      have e := hf.k1 c
      simp only [x_up] at *
      grind (splits := 24)
    · intro c g0 g1
      have e := hf.k2 c
      simp only [x_up] at *
      grind (splits := 24)
    · intro c g0 g1
      have e := hf.k3 c
      simp only [x_up] at *
      grind (splits := 24)
    · intro c k g0 g1 g2 g3
      have e := hf.kr c k
      simp only [x_up] at *
      grind (splits := 24)
  · refine ⟨?_, ?_, ?_, ?_, ?_, ?_, ?_, ?_, ?_, ?_, ?_, ?_, ?_⟩
    · have e := hI.n
      simp only [x_up] at *
      grind (splits := 24)
    · have e := hI.nw
      simp only [x_up] at *
      grind (splits := 24)
    · have e := hI.nc
      simp only [x_up] at *
      grind (splits := 24)
    · have e := hI.hr
      simp only [x_up] at *
      grind (splits := 24)
    · intro s g0 g1 g2
      have e := hI.dk s
      simp only [x_up] at *
      grind (splits := 24)
    · intro s g0 g1 g2
      have e := hI.de s
      simp only [x_up] at *
      grind (splits := 24)
    · intro s t g0 g1 g2 g3 g4
      have e := hI.dl s t
      simp only [x_up] at *
      grind (splits := 24)
    · intro s t g0 g1 g2 g3
      have e := hI.ln s t
      simp only [x_up] at *
      grind (splits := 24)
    · intro s g0 g1 g2
      have e := hI.oc s
      simp only [x_up] at *
      grind (splits := 24)
    · intro s k g0 g1 g2 g3 g4 g5
      have e := hI.os s k
      simp only [x_up] at *
      grind (splits := 24)
    · intro s g0 g1 g2
      have e := hI.wa s
      simp only [x_up] at *
      grind (splits := 24)
    · intro s g0 g1
      have e := hI.dm s
      simp only [x_up] at *
      grind (splits := 24)
    · intro s i g0 g1 g2 g3 g4
      have e := hI.db s i
      simp only [x_up] at *
      grind (splits := 24)
  · exact IW_fr h.i.toy_IW (by simp only [x_up]; grind) (by simp only [x_up]; grind) (fun k q1 q2 q3 => (by simp only [x_up]; grind)) (fun k q1 q2 q3 => (by simp only [x_up]; grind))
  · refine ⟨?_, ?_, ?_, ?_⟩
    · intro c g0 g1 g2
      have e := hI.kl c
      simp only [x_up] at *
      grind (splits := 24)
    · intro c g0 g1
      have e := hI.kk c
      simp only [x_up] at *
      grind (splits := 24)
    · intro c k g0 g1 g2 g3 g4
      have e := hI.kr c k
      simp only [x_up] at *
      grind (splits := 24)
    · intro c k l g0 g1 g2 g3 g4 g5
      have e := hI.ki c k l
      simp only [x_up] at *
      grind (splits := 24)
  · intro c c0 c1
    have e := h.t c c0 c1
    have z := hI.kk (A 163 2) hc.1 h3
    by_cases q : c = A 163 2
    · subst q
      have z2 := z.2.2 (by omega)
      have e0 : y_tk (x_up ((x_up ((x_up ((x_up ((x_up A 163 (1594 + 12 * A 163 2) a)) 163 (1595 + 12 * A 163 2) b)) 163 (1596 + 12 * A 163 2) 0)) 163 (1597 + 12 * A 163 2) 0)) 163 2 (1 + A 163 2)) (A 163 2) = 0 := by
        unfold y_tk y_s1
        simp only [x_up]
        grind
      rw [e0]
      simp only [x_up]
      grind
    · rw [tk_fr (A := A) (by simp only [x_up]; grind) (fun k k0 k1 k2 => ⟨by simp only [x_up]; grind, by
        have := hI.kr c k c0 c1 k0 k1 k2
        simp only [x_up]; grind⟩)]
      simp only [x_up]
      grind
theorem O_cart {C A : Int → Int → Int} (h : y_B C A) (a b : Int) : v_x_cart a b C = v_n_cart a b A ∧ y_B (u_x_cart a b C) (u_n_cart a b A) := by
  have hn := h.f.n
  have hc := h.f.nc
  have hC := h.i.nc
  have e5 : (u_cSetUp (A 163 2) a b C) 1 5 = A 163 2 := by unfold u_cSetUp; simp only [x_up]; grind
  unfold v_x_cart v_n_cart u_x_cart u_n_cart v_addCart u_addCart
  rw [hn, hc, e5]
  refine ⟨by grind, ?_⟩
  by_cases h3 : A 163 2 = 3
  · rw [if_pos h3, if_neg (show ¬ A 163 2 < 3 by omega)]; repeat' split
    all_goals exact h
  rw [if_neg h3, if_pos (show A 163 2 < 3 by omega)]
  by_cases h1 : a < 1
  · rw [if_pos h1, if_pos h1]; exact h
  rw [if_neg h1, if_neg h1]
  by_cases h8 : 8 < a
  · rw [if_pos h8, if_pos h8]; exact h
  rw [if_neg h8, if_neg h8]
  by_cases hb : 0 ≤ b ∧ b < A 163 0
  · rw [if_pos hb, if_pos hb]; exact B_cart h ⟨by omega, by omega⟩ hb (by omega)
  · rw [if_neg hb, if_neg hb]; exact h
theorem F_lb {C A : Int → Int → Int} (h : y_F C A) (hn : A 163 0 ≤ 12) {a b : Int} (ha : 0 ≤ a ∧ a < A 163 0) (hb : 0 ≤ b ∧ b < 12) : v_lengthBetween a b C = A 163 (970 + 12 * a + b) := by
  unfold v_lengthBetween v_lengthTo
  rw [h.n, if_pos ha, if_neg (by omega), if_neg (by omega)]
  exact h.ln a b ha.1 (by omega) hb.1 hb.2 ha.2
theorem B_drive {C A : Int → Int → Int} (h : y_B C A) {a b g : Int} (ha : 0 ≤ a ∧ a < A 163 2) (hb : 0 ≤ b ∧ b < A 163 0) : y_B (x_up ((x_up C (149 + 2 * a) 4 g)) (149 + 2 * a) 2 b) (x_up ((x_up A 163 (1596 + 12 * a) g)) 163 (1595 + 12 * a) b) := by
  have hn := h.i.n
  have hc := h.i.nc
  have hw := h.i.nw
  have hf := h.f
  have hI := h.i
  refine ⟨⟨?_, ?_, ?_⟩, ⟨?_, ?_, ?_⟩, ?_⟩
  · exact FS_fr h.f.toy_FS (fun a k q1 q2 => (by simp only [x_up]; grind)) (fun k q1 q2 => (by simp only [x_up]; grind))
  · exact FW_fr h.f.toy_FW (fun a k q1 q2 q3 => (by simp only [x_up]; grind)) (fun k q1 q2 q3 => (by simp only [x_up]; grind))
  · refine ⟨?_, ?_, ?_, ?_, ?_⟩
    · intro c g0 g1
      have e := hf.k0 c
      simp only [x_up] at *
      grind (splits := 24)
    · intro c g0 g1
      have e := hf.k1 c
      simp only [x_up] at *
      grind (splits := 24)
    · intro c g0 g1
      have e := hf.k2 c
      simp only [x_up] at *
      grind (splits := 24)
    · intro c g0 g1
      have e := hf.k3 c
      simp only [x_up] at *
      grind (splits := 24)
    · intro c k g0 g1 g2 g3
      have e := hf.kr c k
      simp only [x_up] at *
      grind (splits := 24)
  · exact IS_fr h.i.toy_IS (by have := h.i.nw; simp only [x_up]; grind) (fun k q1 q2 q3 q4 => (by simp only [x_up]; grind))
  · exact IW_fr h.i.toy_IW (by simp only [x_up]; grind) (by simp only [x_up]; grind) (fun k q1 q2 q3 => (by simp only [x_up]; grind)) (fun k q1 q2 q3 => (by simp only [x_up]; grind))
  · refine ⟨?_, ?_, ?_, ?_⟩
    · intro c g0 g1 g2
      have e := hI.kl c
      simp only [x_up] at *
      grind (splits := 24)
    · intro c g0 g1
      have e := hI.kk c
      simp only [x_up] at *
      grind (splits := 24)
    · intro c k g0 g1 g2 g3 g4
      have e := hI.kr c k
      simp only [x_up] at *
      grind (splits := 24)
    · intro c k l g0 g1 g2 g3 g4 g5
      have e := hI.ki c k l
      simp only [x_up] at *
      grind (splits := 24)
  · intro c c0 c1
    have e := h.t c c0 c1
    rw [tk_fr (A := A) (by simp only [x_up]; grind) (fun k k0 k1 k2 => ⟨by simp only [x_up]; grind, by
        have := hI.kr c k c0 c1 k0 k1 k2
        simp only [x_up]; grind⟩)]
    simp only [x_up]
    grind
theorem O_drive {C A : Int → Int → Int} (h : y_B C A) (a b : Int) : v_x_drive a b C = v_n_drive a b A ∧ y_B (u_x_drive a b C) (u_n_drive a b A) := by
  have hn := h.f.n
  have hN := h.i.n
  have hc := h.f.nc
  have hC := h.i.nc
  unfold v_x_drive v_n_drive u_x_drive u_n_drive u_moveCart
  rw [hn, hc]
  by_cases ha : 0 ≤ a ∧ a < A 163 2
  · rw [if_pos ha, if_pos ha, if_pos ha, if_pos ha]
    by_cases hb : 0 ≤ b ∧ b < A 163 0
    · rw [if_pos hb, if_pos hb, if_pos hb, if_pos hb]
      have kl := h.i.kl a ha.1 (by omega) ha.2
      have e1 := h.f.k1 a ha.1 (by omega)
      have e2 := h.f.k2 a ha.1 (by omega)
      rw [e1, e2, F_lb h.f hN.2 kl.2 ⟨hb.1, by omega⟩]
      refine ⟨?_, B_drive h ha hb⟩
      simp only [x_up]; grind
    · rw [if_neg hb, if_neg hb, if_neg hb, if_neg hb]; exact ⟨rfl, h⟩
  · rw [if_neg ha, if_neg ha, if_neg ha, if_neg ha]; exact ⟨rfl, h⟩
