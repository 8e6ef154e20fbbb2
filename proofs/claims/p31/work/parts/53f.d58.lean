theorem P_forget {s : Int} : ∀ (k : Nat) (M : Int → Int → Int) (h : Int), 0 ≤ h → 24 - h < (k : Int) → ∀ a j, (l_forget_a s k M h).1 a j = if (a = 8 + 7 * s ∨ a = 9 + 7 * s) ∧ h ≤ j ∧ j < 24 then 0 else M a j := by
  intro k
  induction k with
  | zero => intro M h h0 h1 a j; rw [l_forget_a]; grind
  | succ k ih =>
    intro M h h0 h1 a j
    rw [l_forget_a]
    split
    · grind
    · rw [ih _ _ (by omega) (by omega)]
      simp only [x_up]; grind
theorem P_uforget {s : Int} {C : Int → Int → Int} (a j : Int) : u_forget s C a j = if (a = 8 + 7 * s ∨ a = 9 + 7 * s) ∧ 0 ≤ j ∧ j < 24 then 0 else if a = 7 + 7 * s ∧ j = 0 then 0 else C a j := by
  unfold u_forget
  rw [P_forget _ _ _ (by omega) (by omega)]
  simp only [x_up]
theorem P_ndem {a b d e : Int} : ∀ (k : Nat) (M : Int → Int → Int) (h : Int), 1 ≤ h → 48 - h < (k : Int) → ∀ c j, (l_n_demand_a a b d e k M h).1 c j = if c = 163 ∧ 34 + 80 * a + h ≤ j ∧ j ≤ 82 + 80 * a then 0 else M c j := by
  intro k
  induction k with
  | zero => intro M h h0 h1 c j; rw [l_n_demand_a]; grind
  | succ k ih =>
    intro M h h0 h1 c j
    rw [l_n_demand_a]
    split
    · grind
    · rw [ih _ _ (by omega) (by omega)]
      simp only [x_up]; grind
theorem P_ssa {s n : Int} : ∀ (k : Nat) (M : Int → Int → Int) (i : Int), 0 ≤ i → 12 - i < (k : Int) → ∀ a j, (l_sSetUp_a s n k M i).1 a j = if a = 4 + 7 * s ∧ i ≤ j ∧ j < 12 then -1 else M a j := by
  intro k
  induction k with
  | zero => intro M h h0 h1 a j; rw [l_sSetUp_a]; grind
  | succ k ih =>
    intro M h h0 h1 a j
    rw [l_sSetUp_a]
    split
    · grind
    · rw [ih _ _ (by omega) (by omega)]
      simp only [x_up]; grind
theorem P_ssb {s n : Int} : ∀ (k : Nat) (M : Int → Int → Int) (i : Int), 0 ≤ i → 12 - i < (k : Int) → ∀ a j, (l_sSetUp_b s n k M i).1 a j = if a = 5 + 7 * s ∧ i ≤ j ∧ j < 12 then (if j = s then 0 else 999) else M a j := by
  intro k
  induction k with
  | zero => intro M h h0 h1 a j; rw [l_sSetUp_b]; grind
  | succ k ih =>
    intro M h h0 h1 a j
    rw [l_sSetUp_b]
    split
    · grind
    · split
      · rw [ih _ _ (by omega) (by omega)]
        simp only [x_up]; grind
      · rw [ih _ _ (by omega) (by omega)]
        simp only [x_up]; grind
theorem P_sSetUp {s n : Int} {C : Int → Int → Int} (a j : Int) : u_sSetUp s n C a j = if (a = 8 + 7 * s ∨ a = 9 + 7 * s) ∧ 0 ≤ j ∧ j < 24 then 0 else if a = 7 + 7 * s ∧ j = 0 then 0 else if a = 5 + 7 * s ∧ 0 ≤ j ∧ j < 12 then (if j = s then 0 else 999) else if a = 4 + 7 * s ∧ 0 ≤ j ∧ j < 12 then -1 else if a = 3 + 7 * s ∧ j = 7 then 0 else if a = 3 + 7 * s ∧ j = 6 then -1 else if a = 3 + 7 * s ∧ j = 5 then -1 else if a = 3 + 7 * s ∧ j = 1 then n else C a j := by
  unfold u_sSetUp
  rw [P_uforget, P_ssb _ _ _ (by omega) (by omega), P_ssa _ _ _ (by omega) (by omega)]
  simp only [x_up]
theorem P_nst {n s : Int} : ∀ (k : Nat) (M : Int → Int → Int) (d : Int), 0 ≤ d → n - d < (k : Int) → ∀ a j, (l_n_stand_a n s k M d).1 a j = if a = 163 ∧ 11 + 80 * s + d ≤ j ∧ j < 11 + 80 * s + n then -1 else M a j := by
  intro k
  induction k with
  | zero => intro M h h0 h1 a j; rw [l_n_stand_a]; grind
  | succ k ih =>
    intro M h h0 h1 a j
    rw [l_n_stand_a]
    split
    · grind
    · rw [ih _ _ (by omega) (by omega)]
      simp only [x_up]; grind
theorem P_xho {a j : Int} : ∀ (k : Nat) (M : Int → Int → Int) (i : Int), 0 ≤ i → 60 - i < (k : Int) → M 1 3 ≤ 60 → (l_x_hour_a k M i).1 a j = if (88 + i ≤ a ∧ a < 88 + M 1 3) ∧ j = 2 ∧ M a 3 = 0 ∧ (M a 1 = 1 ∨ M a 1 = 2) then min 1000 (M a 2 + if M a 1 = 2 then 50 else 100) else M a j := by
  intro k
  induction k with
  | zero => intro M h h0 h1 h2; rw [l_x_hour_a]; grind
  | succ k ih =>
    intro M h h0 h1 h2
    rw [l_x_hour_a]
    split
    · grind
    · split
      · rw [ih _ _ (by omega) (by omega) h2]; grind
      · have e : ∀ c l, (u_chargeAnHour h M) c l = if c = 88 + h ∧ l = 2 ∧ (M c 1 = 1 ∨ M c 1 = 2) then min 1000 (M c 2 + if M c 1 = 2 then 50 else 100) else M c l := fun c l => by
          unfold u_chargeAnHour
          grind [x_up]
        rw [ih _ _ (by omega) (by omega) (by rw [e, if_neg (by omega)]; exact h2), e, e, e, e, e]
        grind
theorem P_nho {a j : Int} : ∀ (k : Nat) (M : Int → Int → Int) (i : Int), 0 ≤ i → 60 - i < (k : Int) → M 163 1 ≤ 60 → (∀ c l, ¬ (c = 163 ∧ 1115 + 8 * i ≤ l ∧ (l - 1115) % 8 = 0 ∧ l < 1115 + 8 * M 163 1) → (l_n_hour_a k M i).1 c l = M c l) ∧ ∀ w, i ≤ w → w < M 163 1 → (l_n_hour_a k M i).1 163 (1115 + 8 * w) = if M 163 (1116 + 8 * w) = 0 ∧ (M 163 (1114 + 8 * w) = 1 ∨ M 163 (1114 + 8 * w) = 2) then min 1000 (M 163 (1115 + 8 * w) + if M 163 (1114 + 8 * w) = 2 then 50 else 100) else M 163 (1115 + 8 * w) := by
  intro k
  induction k with
  | zero => intro M i h0 h1 h2; rw [l_n_hour_a]; exact ⟨fun _ _ _ => rfl, fun w g0 g1 => by omega⟩
  | succ k ih =>
    intro M i h0 h1 h2
    have key : ∀ M2 : Int → Int → Int, (∀ c l, ¬ (c = 163 ∧ l = 1115 + 8 * i) → M2 c l = M c l) → M2 163 (1115 + 8 * i) = (if M 163 (1116 + 8 * i) = 0 ∧ (M 163 (1114 + 8 * i) = 1 ∨ M 163 (1114 + 8 * i) = 2) then min 1000 (M 163 (1115 + 8 * i) + if M 163 (1114 + 8 * i) = 2 then 50 else 100) else M 163 (1115 + 8 * i)) → i < M 163 1 → (∀ c l, ¬ (c = 163 ∧ 1115 + 8 * i ≤ l ∧ (l - 1115) % 8 = 0 ∧ l < 1115 + 8 * M 163 1) → (l_n_hour_a k M2 (1 + i)).1 c l = M c l) ∧ ∀ w, i ≤ w → w < M 163 1 → (l_n_hour_a k M2 (1 + i)).1 163 (1115 + 8 * w) = if M 163 (1116 + 8 * w) = 0 ∧ (M 163 (1114 + 8 * w) = 1 ∨ M 163 (1114 + 8 * w) = 2) then min 1000 (M 163 (1115 + 8 * w) + if M 163 (1114 + 8 * w) = 2 then 50 else 100) else M 163 (1115 + 8 * w) := fun M2 f v hi => by
      have e1 := f 163 1 (by omega)
      obtain ⟨q1, q2⟩ := ih M2 (1 + i) (by omega) (by omega) (by omega)
      rw [e1] at q1 q2
      refine ⟨fun c l g => ?_, fun w g0 g1 => ?_⟩
      · rw [q1 c l (by omega), f c l (by omega)]
      · by_cases g : w = i
        · subst g; rw [q1 _ _ (by omega), v]
        · rw [q2 w (by omega) g1, f _ _ (by omega), f _ _ (by omega), f _ _ (by omega)]
    rw [l_n_hour_a]
    split
    · exact ⟨fun _ _ _ => rfl, fun w g0 g1 => by omega⟩
    · repeat' split
      all_goals (refine key _ (fun c l g => ?_) ?_ (by omega))
      all_goals (first | rfl | (simp only [x_up]; grind) | grind)
theorem B_tear1 {C A : Int → Int → Int} (h : y_B C A) {a : Int} (ha : 0 ≤ a ∧ a < A 163 0) : y_B (u_forget a C) (x_up A 163 (34 + 80 * a) 0) := by
  have hn := h.i.n
  have hc := h.i.nc
  have hw := h.i.nw
  have hf := h.f
  have hI := h.i
  refine ⟨⟨?_, ?_, ?_⟩, ⟨?_, ?_, ?_⟩, ?_⟩
  · refine ⟨?_, ?_, ?_, ?_, ?_, ?_, ?_, ?_, ?_, ?_, ?_, ?_, ?_, ?_⟩
    · have e := hf.n
      simp only [x_up, P_uforget] at *
      grind (splits := 24)
    · have e := hf.nw
      simp only [x_up, P_uforget] at *
      grind (splits := 24)
    · have e := hf.nc
      simp only [x_up, P_uforget] at *
      grind (splits := 24)
    · have e := hf.hr
      simp only [x_up, P_uforget] at *
      grind (splits := 24)
    · intro s g0 g1
      have e := hf.dk s
      simp only [x_up, P_uforget] at *
      grind (splits := 24)
    · intro s g0 g1
      have e := hf.oc s
      simp only [x_up, P_uforget] at *
      grind (splits := 24)
    · intro s g0 g1
      have e := hf.wa s
      simp only [x_up, P_uforget] at *
      grind (splits := 24)
    · intro s g0 g1
      have e := hf.fl s
      simp only [x_up, P_uforget] at *
      grind (splits := 24)
    · intro s d g0 g1 g2 g3 g4
      have e := hf.ct s d
      simp only [x_up, P_uforget] at *
      grind (splits := 24)
    · intro s t g0 g1 g2 g3 g4
      have e := hf.ln s t
      simp only [x_up, P_uforget] at *
      grind (splits := 24)
    · intro s k g0 g1 g2 g3
      have e := hf.ot s k
      simp only [x_up, P_uforget] at *
      grind (splits := 24)
    · intro s g0 g1
      have e := hf.dm s
      simp only [x_up, P_uforget] at *
      grind (splits := 24)
    · intro s i g0 g1 g2 g3
      have e := hf.db s i
      simp only [x_up, P_uforget] at *
      grind (splits := 24)
    · intro s i g0 g1 g2 g3
      have e := hf.dw s i
      simp only [x_up, P_uforget] at *
      grind (splits := 24)
  · exact FW_fr h.f.toy_FW (fun a k q1 q2 q3 => (by simp only [x_up, P_uforget]; grind)) (fun k q1 q2 q3 => (by simp only [x_up, P_uforget]; grind))
  · exact FK_fr h.f.toy_FK (fun a k q1 q2 => (by simp only [x_up, P_uforget]; grind)) (fun k q1 q2 => (by simp only [x_up, P_uforget]; grind))
  · refine ⟨?_, ?_, ?_, ?_, ?_, ?_, ?_, ?_, ?_, ?_, ?_, ?_, ?_⟩
    · have e := hI.n
      simp only [x_up, P_uforget] at *
      grind (splits := 24)
    · have e := hI.nw
      simp only [x_up, P_uforget] at *
      grind (splits := 24)
    · have e := hI.nc
      simp only [x_up, P_uforget] at *
      grind (splits := 24)
    · have e := hI.hr
      simp only [x_up, P_uforget] at *
      grind (splits := 24)
    · intro s g0 g1 g2
      have e := hI.dk s
      simp only [x_up, P_uforget] at *
      grind (splits := 24)
    · intro s g0 g1 g2
      have e := hI.de s
      simp only [x_up, P_uforget] at *
      grind (splits := 24)
    · intro s t g0 g1 g2 g3 g4
      have e := hI.dl s t
      simp only [x_up, P_uforget] at *
      grind (splits := 24)
    · intro s t g0 g1 g2 g3
      have e := hI.ln s t
      simp only [x_up, P_uforget] at *
      grind (splits := 24)
    · intro s g0 g1 g2
      have e := hI.oc s
      simp only [x_up, P_uforget] at *
      grind (splits := 24)
    · intro s k g0 g1 g2 g3 g4 g5
      have e := hI.os s k
      simp only [x_up, P_uforget] at *
      grind (splits := 24)
    · intro s g0 g1 g2
      have e := hI.wa s
      simp only [x_up, P_uforget] at *
      grind (splits := 24)
    · intro s g0 g1
      have e := hI.dm s
      simp only [x_up, P_uforget] at *
      grind (splits := 24)
    · intro s i g0 g1 g2 g3 g4
      have e := hI.db s i
      simp only [x_up, P_uforget] at *
      grind (splits := 24)
  · exact IW_fr h.i.toy_IW (by simp only [x_up, P_uforget]; grind) (by simp only [x_up, P_uforget]; grind) (fun k q1 q2 q3 => (by simp only [x_up, P_uforget]; grind)) (fun k q1 q2 q3 => (by simp only [x_up, P_uforget]; grind))
  · exact IK_fr h.i.toy_IK (by simp only [x_up, P_uforget]; grind) (by simp only [x_up, P_uforget]; grind) (by simp only [x_up, P_uforget]; grind) (fun k q1 q2 => (by simp only [x_up, P_uforget]; grind)) (fun w q1 q2 q3 q4 => (by simp only [x_up, P_uforget]; grind))
  · exact FT_fr h.t h.i.toy_IK (fun c q1 q2 => (by simp only [x_up, P_uforget]; grind)) (by simp only [x_up, P_uforget]; grind) (fun k q1 q2 => (by simp only [x_up, P_uforget]; grind)) (fun w q1 q2 q3 => (by simp only [x_up, P_uforget]; grind))
theorem O_tear {C A : Int → Int → Int} (h : y_B C A) (a b : Int) : v_x_tear a b C = v_n_tear a b A ∧ y_B (u_x_tear a b C) (u_n_tear a b A) := by
  have hn := h.f.n
  have hN := h.i.n
  unfold v_x_tear v_n_tear u_x_tear u_n_tear
  rw [hn]
  by_cases ha : 0 ≤ a ∧ a < A 163 0
  · have oc := h.f.oc a ha.1 (by omega)
    have dm := h.f.dm a ha.1 (by omega)
    rw [oc, dm]
    refine ⟨by grind, ?_⟩
    rw [if_pos ha, if_pos ha]
    by_cases b0 : b = 0
    · subst b0
      by_cases q : A 163 (25 + 80 * a) = -1
      · rw [if_neg (by omega), if_pos q, if_pos (by omega), if_pos (by omega), if_neg (by omega), if_neg (by omega), if_neg (by omega)]; exact h
      · rw [if_neg (by omega), if_neg q, if_pos (by omega), if_neg (by omega), if_neg (by omega), if_pos q, if_neg (by omega)]; exact B_tear0 h ha
    · by_cases b1 : b = 1
      · subst b1
        by_cases q : A 163 (34 + 80 * a) = 0
        · rw [if_pos b0, if_neg (by omega), if_pos q, if_pos (by omega), if_pos b0, if_pos b0, if_neg (by omega)]; exact h
        · rw [if_pos b0, if_neg (by omega), if_neg q, if_pos (by omega), if_pos b0, if_pos b0, if_pos q, if_pos b0]; exact B_tear1 h ha
      · rw [if_pos b0, if_pos b1, if_neg (by omega)]; exact h
  · rw [if_neg ha, if_neg ha, if_neg ha, if_neg ha]; exact ⟨rfl, h⟩
theorem B_dem0 {C A : Int → Int → Int} (h : y_B C A) {a b d e : Int} (ha : 0 ≤ a ∧ a < A 163 0) (hb : 0 ≤ b ∧ b < 24) (hd : 0 ≤ d ∧ d ≤ 99) (he : 0 ≤ e ∧ e ≤ 99) (hz : A 163 (34 + 80 * a) ≠ 0) : y_B (x_up (x_up (x_up C (7 + 7 * a) 0 1) (8 + 7 * a) b d) (9 + 7 * a) b e) (x_up (x_up A 163 (35 + 80 * a + b) d) 163 (59 + 80 * a + b) e) := by
  have hn := h.i.n
  have hc := h.i.nc
  have hw := h.i.nw
  have hf := h.f
  have hI := h.i
  have hz1 := hI.dm a ha.1 (by omega)
  refine ⟨⟨?_, ?_, ?_⟩, ⟨?_, ?_, ?_⟩, ?_⟩
  · refine ⟨?_, ?_, ?_, ?_, ?_, ?_, ?_, ?_, ?_, ?_, ?_, ?_, ?_, ?_⟩
    · have e := hf.n
      simp only [x_up] at *
      grind (splits := 24)
    · have e := hf.nw
      simp only [x_up] at *
      grind (splits := 24)
    · have e := hf.nc
      simp only [x_up] at *
      grind (splits := 24)
    · have e := hf.hr
      simp only [x_up] at *
      grind (splits := 24)
    · intro s g0 g1
      have e := hf.dk s
      simp only [x_up] at *
      grind (splits := 24)
    · intro s g0 g1
      have e := hf.oc s
      simp only [x_up] at *
      grind (splits := 24)
    · intro s g0 g1
      have e := hf.wa s
      simp only [x_up] at *
      grind (splits := 24)
    · intro s g0 g1
      have e := hf.fl s
      simp only [x_up] at *
      grind (splits := 24)
    · intro s d g0 g1 g2 g3 g4
      have e := hf.ct s d
      simp only [x_up] at *
      grind (splits := 24)
    · intro s t g0 g1 g2 g3 g4
      have e := hf.ln s t
      simp only [x_up] at *
      grind (splits := 24)
    · intro s k g0 g1 g2 g3
      have e := hf.ot s k
      simp only [x_up] at *
      grind (splits := 24)
    · intro s g0 g1
      have e := hf.dm s
      simp only [x_up] at *
      grind (splits := 24)
    · intro s i g0 g1 g2 g3
      have e := hf.db s i
      simp only [x_up] at *
      grind (splits := 24)
    · intro s i g0 g1 g2 g3
      have e := hf.dw s i
      simp only [x_up] at *
      grind (splits := 24)
  · exact FW_fr h.f.toy_FW (fun a k q1 q2 q3 => (by simp only [x_up]; grind)) (fun k q1 q2 q3 => (by simp only [x_up]; grind))
  · exact FK_fr h.f.toy_FK (fun a k q1 q2 => (by simp only [x_up]; grind)) (fun k q1 q2 => (by simp only [x_up]; grind))
  · refine ⟨?_, ?_, ?_, ?_, ?_, ?_, ?_, ?_, ?_, ?_, ?_, ?_, ?_⟩
    · have e := hI.n
      simp only [x_up] at *
      grind (splits := 24)
    · have e := hI.nw
      simp only [x_up] at *
      grind (splits := 24)
    · have e := hI.nc
      simp only [x_up] at *
      grind (splits := 24)
    · have e := hI.hr
      simp only [x_up] at *
      grind (splits := 24)
    · intro s g0 g1 g2
      have e := hI.dk s
      simp only [x_up] at *
      grind (splits := 24)
    · intro s g0 g1 g2
      have e := hI.de s
      simp only [x_up] at *
      grind (splits := 24)
    · intro s t g0 g1 g2 g3 g4
      have e := hI.dl s t
      simp only [x_up] at *
      grind (splits := 24)
    · intro s t g0 g1 g2 g3
      have e := hI.ln s t
      simp only [x_up] at *
      grind (splits := 24)
    · intro s g0 g1 g2
      have e := hI.oc s
      simp only [x_up] at *
      grind (splits := 24)
    · intro s k g0 g1 g2 g3 g4 g5
      have e := hI.os s k
      simp only [x_up] at *
      grind (splits := 24)
    · intro s g0 g1 g2
      have e := hI.wa s
      simp only [x_up] at *
      grind (splits := 24)
    · intro s g0 g1
      have e := hI.dm s
      simp only [x_up] at *
      grind (splits := 24)
    · intro s i g0 g1 g2 g3 g4
      have e := hI.db s i
      simp only [x_up] at *
      grind (splits := 24)
  · exact IW_fr h.i.toy_IW (by simp only [x_up]; grind) (by simp only [x_up]; grind) (fun k q1 q2 q3 => (by simp only [x_up]; grind)) (fun k q1 q2 q3 => (by simp only [x_up]; grind))
  · exact IK_fr h.i.toy_IK (by simp only [x_up]; grind) (by simp only [x_up]; grind) (by simp only [x_up]; grind) (fun k q1 q2 => (by simp only [x_up]; grind)) (fun w q1 q2 q3 q4 => (by simp only [x_up]; grind))
  · exact FT_fr h.t h.i.toy_IK (fun c q1 q2 => (by simp only [x_up]; grind)) (by simp only [x_up]; grind) (fun k q1 q2 => (by simp only [x_up]; grind)) (fun w q1 q2 q3 => (by simp only [x_up]; grind))
theorem B_dem1 {C A : Int → Int → Int} (h : y_B C A) {a b d e : Int} (ha : 0 ≤ a ∧ a < A 163 0) (hb : 0 ≤ b ∧ b < 24) (hd : 0 ≤ d ∧ d ≤ 99) (he : 0 ≤ e ∧ e ≤ 99) (hz : A 163 (34 + 80 * a) = 0) : y_B (x_up (x_up (x_up C (7 + 7 * a) 0 1) (8 + 7 * a) b d) (9 + 7 * a) b e) (x_up (x_up (l_n_demand_a a b d e 50 (x_up A 163 (34 + 80 * a) 1) 1).1 163 (35 + 80 * a + b) d) 163 (59 + 80 * a + b) e) := by
  have hn := h.i.n
  have hc := h.i.nc
  have hw := h.i.nw
  have hf := h.f
  have hI := h.i
  have eD : ∀ c j, (l_n_demand_a a b d e 50 (x_up A 163 (34 + 80 * a) 1) 1).1 c j = _ := fun c j => P_ndem (a := a) (b := b) (d := d) (e := e) 50 (x_up A 163 (34 + 80 * a) 1) 1 (by omega) (by omega) c j
  refine ⟨⟨?_, ?_, ?_⟩, ⟨?_, ?_, ?_⟩, ?_⟩
  · refine ⟨?_, ?_, ?_, ?_, ?_, ?_, ?_, ?_, ?_, ?_, ?_, ?_, ?_, ?_⟩
    · have e := hf.n
      simp only [x_up, eD] at *
      grind (splits := 24)
    · have e := hf.nw
      simp only [x_up, eD] at *
      grind (splits := 24)
    · have e := hf.nc
      simp only [x_up, eD] at *
      grind (splits := 24)
    · have e := hf.hr
      simp only [x_up, eD] at *
      grind (splits := 24)
    · intro s g0 g1
      have e := hf.dk s
      simp only [x_up, eD] at *
      grind (splits := 24)
    · intro s g0 g1
      have e := hf.oc s
      simp only [x_up, eD] at *
      grind (splits := 24)
    · intro s g0 g1
      have e := hf.wa s
      simp only [x_up, eD] at *
      grind (splits := 24)
    · intro s g0 g1
      have e := hf.fl s
      simp only [x_up, eD] at *
      grind (splits := 24)
    · intro s d g0 g1 g2 g3 g4
      have e := hf.ct s d
      simp only [x_up, eD] at *
      grind (splits := 24)
    · intro s t g0 g1 g2 g3 g4
      have e := hf.ln s t
      simp only [x_up, eD] at *
      grind (splits := 24)
    · intro s k g0 g1 g2 g3
      have e := hf.ot s k
      simp only [x_up, eD] at *
      grind (splits := 24)
    · intro s g0 g1
      have e := hf.dm s
      simp only [x_up, eD] at *
      grind (splits := 24)
    · intro s i g0 g1 g2 g3
      have e := hf.db s i
      simp only [x_up, eD] at *
      grind (splits := 24)
    · intro s i g0 g1 g2 g3
      have e := hf.dw s i
      simp only [x_up, eD] at *
      grind (splits := 24)
  · exact FW_fr h.f.toy_FW (fun a k q1 q2 q3 => (by simp only [x_up, eD]; grind)) (fun k q1 q2 q3 => (by simp only [x_up, eD]; grind))
  · exact FK_fr h.f.toy_FK (fun a k q1 q2 => (by simp only [x_up, eD]; grind)) (fun k q1 q2 => (by simp only [x_up, eD]; grind))
  · refine ⟨?_, ?_, ?_, ?_, ?_, ?_, ?_, ?_, ?_, ?_, ?_, ?_, ?_⟩
    · have e := hI.n
      simp only [x_up, eD] at *
      grind (splits := 24)
    · have e := hI.nw
      simp only [x_up, eD] at *
      grind (splits := 24)
    · have e := hI.nc
      simp only [x_up, eD] at *
      grind (splits := 24)
    · have e := hI.hr
      simp only [x_up, eD] at *
      grind (splits := 24)
    · intro s g0 g1 g2
      have e := hI.dk s
      simp only [x_up, eD] at *
      grind (splits := 24)
    · intro s g0 g1 g2
      have e := hI.de s
      simp only [x_up, eD] at *
      grind (splits := 24)
    · intro s t g0 g1 g2 g3 g4
      have e := hI.dl s t
      simp only [x_up, eD] at *
      grind (splits := 24)
    · intro s t g0 g1 g2 g3
      have e := hI.ln s t
      simp only [x_up, eD] at *
      grind (splits := 24)
    · intro s g0 g1 g2
      have e := hI.oc s
      simp only [x_up, eD] at *
      grind (splits := 24)
    · intro s k g0 g1 g2 g3 g4 g5
      have e := hI.os s k
      simp only [x_up, eD] at *
      grind (splits := 24)
    · intro s g0 g1 g2
      have e := hI.wa s
      simp only [x_up, eD] at *
      grind (splits := 24)
    · intro s g0 g1
      have e := hI.dm s
      simp only [x_up, eD] at *
      grind (splits := 24)
    · intro s i g0 g1 g2 g3 g4
      have e := hI.db s i
      simp only [x_up, eD] at *
      grind (splits := 24)
  · exact IW_fr h.i.toy_IW (by simp only [x_up, eD]; grind) (by simp only [x_up, eD]; grind) (fun k q1 q2 q3 => (by simp only [x_up, eD]; grind)) (fun k q1 q2 q3 => (by simp only [x_up, eD]; grind))
  · exact IK_fr h.i.toy_IK (by simp only [x_up, eD]; grind) (by simp only [x_up, eD]; grind) (by simp only [x_up, eD]; grind) (fun k q1 q2 => (by simp only [x_up, eD]; grind)) (fun w q1 q2 q3 q4 => (by simp only [x_up, eD]; grind))
  · exact FT_fr h.t h.i.toy_IK (fun c q1 q2 => (by simp only [x_up, eD]; grind)) (by simp only [x_up, eD]; grind) (fun k q1 q2 => (by simp only [x_up, eD]; grind)) (fun w q1 q2 q3 => (by simp only [x_up, eD]; grind))
theorem O_demand {C A : Int → Int → Int} (h : y_B C A) (a b d e : Int) : v_x_demand a b d e C = v_n_demand a b d e A ∧ y_B (u_x_demand a b d e C) (u_n_demand a b d e A) := by
  have hn := h.f.n
  unfold v_x_demand v_n_demand u_x_demand u_n_demand v_tellHour u_tellHour
  rw [hn]
  refine ⟨by grind, ?_⟩
  by_cases ha : 0 ≤ a ∧ a < A 163 0
  · rw [if_pos ha, if_pos ha]
    by_cases hg : (0 ≤ b ∧ b < 24) ∧ (0 ≤ d ∧ d ≤ 99) ∧ 0 ≤ e ∧ e ≤ 99
    · obtain ⟨hb, hd, he⟩ := hg
      rw [if_neg (show ¬ b < 0 by omega), if_neg (show ¬ 24 ≤ b by omega), if_pos hd, if_pos he, if_neg (by omega), if_neg (show ¬ b < 0 by omega), if_neg (show ¬ 24 ≤ b by omega), if_pos hd, if_pos he, if_pos hb, if_pos (show 0 ≤ d ∧ d < 100 by omega), if_pos (show 0 ≤ e ∧ e < 100 by omega)]
      by_cases hz : A 163 (34 + 80 * a) = 0
      · rw [if_neg (by omega)]; exact B_dem1 h ha hb hd he hz
      · rw [if_pos hz]; exact B_dem0 h ha hb hd he hz
    · have e1 : (if 0 ≤ b ∧ b < 24 then (if 0 ≤ d ∧ d < 100 then (if 0 ≤ e ∧ e < 100 then (if ¬ A 163 (34 + 80 * a) = 0 then (x_up ((x_up A 163 (35 + 80 * a + b) d)) 163 (59 + 80 * a + b) e) else (x_up ((x_up ((l_n_demand_a a b d e 50 ((x_up A 163 (34 + 80 * a) 1)) 1).1) 163 (35 + 80 * a + b) d)) 163 (59 + 80 * a + b) e)) else A) else A) else A) = A := by
        repeat' split
        all_goals first | rfl | (exfalso; omega)
      rw [e1]
      repeat' split
      all_goals first | exact h | (exfalso; omega)
  · rw [if_neg ha, if_neg ha]; exact h
