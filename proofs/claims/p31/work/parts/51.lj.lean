/-! THE LIGHT CALLS KEEP THE RELATION AND ANSWER ALIKE -/
section
variable {z : Int} {P M : Int → Int → Int}
theorem J_next {a b : Int} (hJ : y_J z P M) (h1 : y_TL 2 M (u_x_next a b M)) (h2 : y_TL 8 (u_x_next a b M) (u_n_next a b (u_x_next a b M))) : y_J z P (u_n_next a b (u_x_next a b M)) ∧ v_x_next a b M = v_n_next a b (u_x_next a b M) := by
  have hn := j_n hJ
  have ht := ty_town1 hJ.2.2.1
  have hq := j_q hJ
  have hh := j_h hJ
  have e0 : ∀ k, (u_x_next a b M) 163 k = M 163 k := fun k => h1.2 163 k (Or.inr (by omega))
  have gc : ∀ c k, c < 162 → (u_n_next a b (u_x_next a b M)) c k = (u_x_next a b M) c k := fun c k q => h2.2 c k (Or.inl q)
  by_cases ca : 0 ≤ a ∧ a < M 1 1
  · by_cases cb : 0 ≤ b ∧ b < M 1 1
    · by_cases cc : ¬ a = b
      · have oc := j_oc hJ (s := a) (by omega)
        have tt := ty_st5 (i := a) hJ.2.2.1 (by omega)
        by_cases cd : max 0 (M (3 + 7 * a) 5) < 8
        · have e1 : u_x_next a b M = x_up (x_up M (6 + 7 * a) (max 0 (M (3 + 7 * a) 5)) b) (3 + 7 * a) 5 (1 + max 0 (M (3 + 7 * a) 5)) := by
            unfold u_x_next u_addOther
            rw [if_pos ca, if_pos cb, if_pos cc, if_pos cd]
          have ev : v_x_next a b M = 1 + max 0 (M (3 + 7 * a) 5) := by
            unfold v_x_next v_addOther
            rw [if_pos ca, if_pos cb, if_pos cc, if_pos cd]
          revert h1 h2 e0 gc e1
          generalize u_x_next a b M = M1
          intro h1 h2 e0 gc e1
          have x0 := e0 0
          have x1 := e0 (25 + 80 * a)
          have e2 : u_n_next a b M1 = (if 0 ≤ M1 163 (25 + 80 * a) then (x_up ((x_up M1 163 (26 + 80 * a + M1 163 (25 + 80 * a)) b)) 163 (25 + 80 * a) (1 + M1 163 (25 + 80 * a))) else (x_up ((x_up ((x_up M1 163 (25 + 80 * a) 0)) 163 (26 + 80 * a) b)) 163 (25 + 80 * a) 1)) ∧ v_n_next a b M1 = (if 0 ≤ M1 163 (25 + 80 * a) then 1 + M1 163 (25 + 80 * a) else 1) := by
            unfold u_n_next v_n_next
            rw [if_pos (show 0 ≤ a ∧ a < M1 163 0 by omega), if_pos (show 0 ≤ b ∧ b < M1 163 0 by omega), if_pos cc, if_pos (show ¬ M1 163 (25 + 80 * a) = 8 by omega), if_pos (show 0 ≤ a ∧ a < M1 163 0 by omega), if_pos (show 0 ≤ b ∧ b < M1 163 0 by omega), if_pos cc, if_pos (show ¬ M1 163 (25 + 80 * a) = 8 by omega)]
            exact ⟨rfl, rfl⟩
          have hv : v_x_next a b M = v_n_next a b M1 := by
            rw [ev, e2.2]
            split <;> omega
          have gm : ∀ i, 0 ≤ i → (i = 0 ∨ i = 2 ∨ i = 3 ∨ (10 ≤ i ∧ i < 970 ∧ ((i - 10) % 80 = 15 ∨ (i - 10) % 80 = 24))) → ¬ i = 25 + 80 * a → (u_n_next a b M1) 163 i = M 163 i := fun i i0 hi hne => by
            rw [e2.1]
            split
            · rw [x_up_nk hne, x_up_nk (by omega), e0]
            · rw [x_up_nk hne, x_up_nk (by omega), x_up_nk hne, e0]
          have ga : (u_n_next a b M1) 163 (25 + 80 * a) = 1 + max 0 (M (3 + 7 * a) 5) := by
            rw [e2.1]
            split
            · rw [x_up_self]; omega
            · rw [x_up_self]; omega
          refine ⟨y_j_28 hJ h1 h2 (y_rl_mk ?_ ?_ ?_ (fun s s0 s1 => ?_) (fun s s0 s1 => ?_) (fun s s0 s1 => ?_)), hv⟩
          · rw [gc _ _ (by omega), gm 0 (by omega) (by omega) (by omega), e1, x_up_ne (by omega), x_up_ne (by omega)]; exact hn
          · rw [gc _ _ (by omega), gm 2 (by omega) (by omega) (by omega), e1, x_up_ne (by omega), x_up_ne (by omega)]; exact hq
          · rw [gc _ _ (by omega), gm 3 (by omega) (by omega) (by omega), e1, x_up_ne (by omega), x_up_ne (by omega)]; exact hh
          · rw [gc _ _ (by omega)]
            by_cases hs : s = a
            · subst hs; rw [ga, e1, x_up_self]
            · rw [gm (25 + 80 * s) (by omega) (by omega) (by omega), e1, x_up_no (by omega), x_up_no (by omega)]; exact j_oc hJ ⟨s0, s1⟩
          · rw [gc _ _ (by omega), gm (34 + 80 * s) (by omega) (by omega) (by omega), e1, x_up_no (by omega), x_up_no (by omega)]; exact j_dm hJ ⟨s0, s1⟩
          · rw [gc _ _ (by omega), e1, x_up_ne (by omega), x_up_ne (by omega)] at s0
            rw [gc _ _ (by omega), e1, x_up_no (by omega), x_up_no (by omega)]; exact j_de hJ ⟨s0, s1⟩
        · have e1 : u_x_next a b M = M := by unfold u_x_next u_addOther; rw [if_pos ca, if_pos cb, if_pos cc, if_neg cd]
          rw [e1]
          have q : ¬ ¬ M 163 (25 + 80 * a) = 8 := by omega
          refine ⟨?_, ?_⟩
          · unfold u_n_next
            rw [if_pos (by omega), if_pos (by omega), if_pos cc, if_neg q]; exact hJ
          · unfold v_x_next v_n_next v_addOther
            rw [if_pos ca, if_pos cb, if_pos cc, if_neg cd, if_pos (by omega), if_pos (by omega), if_pos cc, if_neg q]
      · have e1 : u_x_next a b M = M := by unfold u_x_next; rw [if_pos ca, if_pos cb, if_neg cc]
        rw [e1]
        refine ⟨?_, ?_⟩
        · unfold u_n_next
          rw [if_pos (by omega), if_pos (by omega), if_neg cc]; exact hJ
        · unfold v_x_next v_n_next
          rw [if_pos ca, if_pos cb, if_neg cc, if_pos (by omega), if_pos (by omega), if_neg cc]
    · have e1 : u_x_next a b M = M := by unfold u_x_next; rw [if_pos ca, if_neg cb]
      rw [e1]
      have cb2 : ¬ (0 ≤ b ∧ b < M 163 0) := by omega
      refine ⟨?_, ?_⟩
      · unfold u_n_next
        rw [if_pos (by omega), if_neg cb2]; exact hJ
      · unfold v_x_next v_n_next
        rw [if_pos ca, if_neg cb, if_pos (by omega), if_neg cb2]
  · have e1 : u_x_next a b M = M := by unfold u_x_next; rw [if_neg ca]
    rw [e1]
    have ca2 : ¬ (0 ≤ a ∧ a < M 163 0) := by omega
    refine ⟨?_, ?_⟩
    · unfold u_n_next
      rw [if_neg ca2]; exact hJ
    · unfold v_x_next v_n_next
      rw [if_neg ca, if_neg ca2]
theorem J_tear {a b : Int} (hJ : y_J z P M) (h1 : y_TL 2 M (u_x_tear a b M)) (h2 : y_TL 8 (u_x_tear a b M) (u_n_tear a b (u_x_tear a b M))) : y_J z P (u_n_tear a b (u_x_tear a b M)) ∧ v_x_tear a b M = v_n_tear a b (u_x_tear a b M) := by
  have hn := j_n hJ
  have ht := ty_town1 hJ.2.2.1
  have hq := j_q hJ
  have hh := j_h hJ
  have e0 : ∀ k, (u_x_tear a b M) 163 k = M 163 k := fun k => h1.2 163 k (Or.inr (by omega))
  have gc : ∀ c k, c < 162 → (u_n_tear a b (u_x_tear a b M)) c k = (u_x_tear a b M) c k := fun c k q => h2.2 c k (Or.inl q)
  by_cases ca : 0 ≤ a ∧ a < M 1 1
  · have oc := j_oc hJ (s := a) (by omega)
    have dm := j_dm hJ (s := a) (by omega)
    have td := ty_dem0 (i := a) hJ.2.2.1 (by omega)
    by_cases b0 : b = 0
    · subst b0
      by_cases co : M (3 + 7 * a) 5 = -1
      · have e1 : u_x_tear a 0 M = M := by unfold u_x_tear; rw [if_pos ca, if_neg (by omega), if_pos co, if_pos (by omega)]
        rw [e1]
        refine ⟨?_, ?_⟩
        · unfold u_n_tear
          rw [if_pos (by omega), if_pos (by omega), if_neg (by omega), if_neg (by omega), if_neg (by omega)]; exact hJ
        · unfold v_x_tear v_n_tear
          rw [if_pos ca, if_neg (by omega), if_pos co, if_pos (by omega), if_pos (by omega), if_pos (by omega), if_neg (by omega), if_neg (by omega), if_neg (by omega)]
      · have e1 : u_x_tear a 0 M = x_up M (3 + 7 * a) 5 (-1) := by unfold u_x_tear; rw [if_pos ca, if_neg (by omega), if_neg co]
        have ev : v_x_tear a 0 M = 1 := by unfold v_x_tear; rw [if_pos ca, if_neg (by omega), if_neg co]
        revert h1 h2 e0 gc e1
        generalize u_x_tear a 0 M = M1
        intro h1 h2 e0 gc e1
        have x0 := e0 0
        have x1 := e0 (25 + 80 * a)
        have e2 : u_n_tear a 0 M1 = x_up M1 163 (25 + 80 * a) (-1) := by
          unfold u_n_tear
          rw [if_pos (by omega), if_pos (by omega), if_neg (by omega), if_neg (by omega), if_pos (by omega), if_neg (by omega)]
        have ev2 : v_n_tear a 0 M1 = 1 := by
          unfold v_n_tear
          rw [if_pos (by omega), if_pos (by omega), if_neg (by omega), if_neg (by omega), if_pos (by omega), if_neg (by omega)]
        refine ⟨y_j_28 hJ h1 h2 (y_rl_mk ?_ ?_ ?_ (fun s s0 s1 => ?_) (fun s s0 s1 => ?_) (fun s s0 s1 => ?_)), ev.trans ev2.symm⟩
        · rw [gc _ _ (by omega), e2, x_up_nk (by omega), e0, e1, x_up_ne (by omega)]; exact hn
        · rw [gc _ _ (by omega), e2, x_up_nk (by omega), e0, e1, x_up_ne (by omega)]; exact hq
        · rw [gc _ _ (by omega), e2, x_up_nk (by omega), e0, e1, x_up_ne (by omega)]; exact hh
        · by_cases hs : s = a
          · subst hs; rw [gc _ _ (by omega), e2, e1, x_up_self, x_up_self]
          · rw [gc _ _ (by omega), e2, x_up_nk (by omega), e0, e1, x_up_no (by omega)]; exact j_oc hJ ⟨s0, s1⟩
        · rw [gc _ _ (by omega), e2, x_up_nk (by omega), e0, e1, x_up_no (by omega)]; exact j_dm hJ ⟨s0, s1⟩
        · rw [gc _ _ (by omega), e1, x_up_ne (by omega)] at s0
          rw [gc _ _ (by omega), e1, x_up_no (by omega)]; exact j_de hJ ⟨s0, s1⟩
    · by_cases b1 : b = 1
      · subst b1
        by_cases cd : M (7 + 7 * a) 0 = 0
        · have e1 : u_x_tear a 1 M = M := by unfold u_x_tear; rw [if_pos ca, if_pos b0, if_neg (by omega), if_pos cd]
          rw [e1]
          refine ⟨?_, ?_⟩
          · unfold u_n_tear
            rw [if_pos (by omega), if_pos (by omega), if_pos b0, if_pos b0, if_neg (by omega)]; exact hJ
          · unfold v_x_tear v_n_tear
            rw [if_pos ca, if_pos b0, if_neg (by omega), if_pos cd, if_pos (by omega), if_pos (by omega), if_pos b0, if_pos b0, if_neg (by omega)]
        · have e1 : u_x_tear a 1 M = u_forget a M := by unfold u_x_tear; rw [if_pos ca, if_pos b0, if_neg (by omega), if_neg cd]
          have ev : v_x_tear a 1 M = 1 := by unfold v_x_tear; rw [if_pos ca, if_pos b0, if_neg (by omega), if_neg cd]
          have f1 : ∀ c k, c ≠ 8 + 7 * a → c ≠ 9 + 7 * a → ¬ (c = 7 + 7 * a ∧ k = 0) → u_x_tear a 1 M c k = M c k := fun c k q1 q2 q3 => by
            rw [e1]; unfold u_forget; rw [f_forget _ _ _ _ _ q1 q2, x_up_no q3]
          have f2 : u_x_tear a 1 M (7 + 7 * a) 0 = 0 := by
            rw [e1]; unfold u_forget; rw [f_forget _ _ _ _ _ (by omega) (by omega), x_up_self]
          clear e1
          revert h1 h2 e0 gc f1 f2
          generalize u_x_tear a 1 M = M1
          intro h1 h2 e0 gc f1 f2
          have x0 := e0 0
          have x1 := e0 (34 + 80 * a)
          have e2 : u_n_tear a 1 M1 = x_up M1 163 (34 + 80 * a) 0 := by
            unfold u_n_tear
            rw [if_pos (by omega), if_pos (by omega), if_pos b0, if_pos b0, if_pos (by omega), if_pos b0]
          have ev2 : v_n_tear a 1 M1 = 1 := by
            unfold v_n_tear
            rw [if_pos (by omega), if_pos (by omega), if_pos b0, if_pos b0, if_pos (by omega), if_pos b0]
          refine ⟨y_j_28 hJ h1 h2 (y_rl_mk ?_ ?_ ?_ (fun s s0 s1 => ?_) (fun s s0 s1 => ?_) (fun s s0 s1 => ?_)), ev.trans ev2.symm⟩
          · rw [gc _ _ (by omega), e2, x_up_nk (by omega), e0, f1 _ _ (by omega) (by omega) (by omega)]; exact hn
          · rw [gc _ _ (by omega), e2, x_up_nk (by omega), e0, f1 _ _ (by omega) (by omega) (by omega)]; exact hq
          · rw [gc _ _ (by omega), e2, x_up_nk (by omega), e0, f1 _ _ (by omega) (by omega) (by omega)]; exact hh
          · rw [gc _ _ (by omega), e2, x_up_nk (by omega), e0, f1 _ _ (by omega) (by omega) (by omega)]; exact j_oc hJ ⟨s0, s1⟩
          · by_cases hs : s = a
            · subst hs; rw [gc _ _ (by omega), e2, x_up_self]; exact f2
            · rw [gc _ _ (by omega), e2, x_up_nk (by omega), e0, f1 _ _ (by omega) (by omega) (by omega)]; exact j_dm hJ ⟨s0, s1⟩
          · rw [gc _ _ (by omega), f1 _ _ (by omega) (by omega) (by omega)] at s0
            rw [gc _ _ (by omega), f1 _ _ (by omega) (by omega) (by omega)]; exact j_de hJ ⟨s0, s1⟩
      · have e1 : u_x_tear a b M = M := by unfold u_x_tear; rw [if_pos ca, if_pos b0, if_pos b1]
        rw [e1]
        refine ⟨?_, ?_⟩
        · unfold u_n_tear
          rw [if_pos (by omega), if_neg (by omega)]; exact hJ
        · unfold v_x_tear v_n_tear
          rw [if_pos ca, if_pos b0, if_pos b1, if_pos (by omega), if_neg (by omega)]
  · have e1 : u_x_tear a b M = M := by unfold u_x_tear; rw [if_neg ca]
    rw [e1]
    refine ⟨?_, ?_⟩
    · unfold u_n_tear
      rw [if_neg (by omega)]; exact hJ
    · unfold v_x_tear v_n_tear
      rw [if_neg ca, if_neg (by omega)]
theorem J_stand {n : Int} (hJ : y_J z P M) (h1 : y_TL 2 M (u_x_stand n M)) (h2 : y_TL 8 (u_x_stand n M) (u_n_stand n (u_x_stand n M))) : y_J z P (u_n_stand n (u_x_stand n M)) ∧ v_x_stand n M = v_n_stand n (u_x_stand n M) := by
  have hn := j_n hJ
  have ht := ty_town1 hJ.2.2.1
  have hq := j_q hJ
  have hh := j_h hJ
  have e0 : ∀ k, (u_x_stand n M) 163 k = M 163 k := fun k => h1.2 163 k (Or.inr (by omega))
  have gc : ∀ c k, c < 162 → (u_n_stand n (u_x_stand n M)) c k = (u_x_stand n M) c k := fun c k q => h2.2 c k (Or.inl q)
  by_cases ca : (2 ≤ n ∧ n ≤ 12) ∧ M 1 1 < 12
  · obtain ⟨⟨n2, n12⟩, c12⟩ := ca
    have e1 : u_x_stand n M = x_up (u_sSetUp (M 1 1) n M) 1 1 (1 + (u_sSetUp (M 1 1) n M) 1 1) := by
      unfold u_x_stand u_addStand
      rw [if_neg (by omega), if_pos n12, if_pos c12]
    have ev : v_x_stand n M = (u_sSetUp (M 1 1) n M) 1 1 := by
      unfold v_x_stand v_addStand
      rw [if_neg (by omega), if_pos n12, if_pos c12]
    have fS : ∀ c k, (c < 3 + 7 * M 1 1 ∨ 9 + 7 * M 1 1 < c) → (u_sSetUp (M 1 1) n M) c k = M c k := fun c k q => by
      unfold u_sSetUp u_forget
      rw [f_forget _ _ _ _ _ (by omega) (by omega), x_up_no (by omega), f_ssb _ _ _ _ _ (by omega), f_ssa _ _ _ _ _ (by omega), x_up_no (by omega), x_up_no (by omega), x_up_no (by omega), x_up_no (by omega)]
    have fO : (u_sSetUp (M 1 1) n M) (3 + 7 * M 1 1) 5 = -1 := by
      unfold u_sSetUp u_forget
      rw [f_forget _ _ _ _ _ (by omega) (by omega), x_up_no (by omega), f_ssb _ _ _ _ _ (by omega), f_ssa _ _ _ _ _ (by omega), x_up_nk (by omega), x_up_nk (by omega), x_up_self]
    have fD : (u_sSetUp (M 1 1) n M) (7 + 7 * M 1 1) 0 = 0 := by
      unfold u_sSetUp u_forget
      rw [f_forget _ _ _ _ _ (by omega) (by omega), x_up_self]
    have f11 := fS 1 1 (by omega)
    rw [f11] at e1 ev
    revert h1 h2 e0 gc e1 fS fO fD
    generalize u_x_stand n M = M1
    generalize u_sSetUp (M 1 1) n M = S
    intro h1 h2 e0 gc e1 fS fO fD
    have x0 := e0 0
    have e2 : u_n_stand n M1 = (x_up ((x_up ((x_up ((l_n_stand_a n (M1 163 0) 13 ((x_up M1 163 (10 + 80 * M1 163 0) n)) 0).1) 163 (24 + 80 * M1 163 0) ((-1)))) 163 (25 + 80 * M1 163 0) ((-1)))) 163 0 (1 + ((l_n_stand_a n (M1 163 0) 13 ((x_up M1 163 (10 + 80 * M1 163 0) n)) 0).1) 163 0)) := by
      unfold u_n_stand
      rw [if_neg (by omega), if_neg (by omega), if_pos n12]
    have ev2 : v_n_stand n M1 = M1 163 0 := by
      unfold v_n_stand
      rw [if_neg (by omega), if_neg (by omega), if_pos n12]
    have gm : ∀ i, 0 ≤ i → (i = 2 ∨ i = 3 ∨ (10 ≤ i ∧ i < 970 ∧ ((i - 10) % 80 = 15 ∨ (i - 10) % 80 = 24))) → ¬ i = 25 + 80 * M 1 1 → (u_n_stand n M1) 163 i = M 163 i := fun i i0 hi hne => by
      rw [e2, x_up_nk (by omega), x_up_nk (by omega), x_up_nk (by omega), f_nst _ _ _ (by omega) _ _ (by omega), x_up_nk (by omega), e0]
    have g0 : (u_n_stand n M1) 163 0 = 1 + M 163 0 := by
      rw [e2, x_up_self, f_nst _ _ _ (by omega) _ _ (by omega), x_up_nk (by omega), e0]
    have ga : (u_n_stand n M1) 163 (25 + 80 * M 1 1) = -1 := by
      rw [e2, x_up_nk (by omega), show M1 163 0 = M 1 1 by omega, x_up_self]
    have dd := j_de hJ (s := M 1 1) (by omega)
    have dm := j_dm hJ (s := M 1 1) (by omega)
    refine ⟨y_j_28 hJ h1 h2 (y_rl_mk ?_ ?_ ?_ (fun s s0 s1 => ?_) (fun s s0 s1 => ?_) (fun s s0 s1 => ?_)), by omega⟩
    · rw [gc _ _ (by omega), g0, e1, x_up_self]; omega
    · rw [gc _ _ (by omega), gm 2 (by omega) (by omega) (by omega), e1, x_up_nk (by omega), fS _ _ (by omega)]; exact hq
    · rw [gc _ _ (by omega), gm 3 (by omega) (by omega) (by omega), e1, x_up_nk (by omega), fS _ _ (by omega)]; exact hh
    · by_cases hs : s = M 1 1
      · subst hs; rw [gc _ _ (by omega), ga, e1, x_up_no (by omega)]; exact fO
      · rw [gc _ _ (by omega), gm (25 + 80 * s) (by omega) (by omega) (by omega), e1, x_up_no (by omega), fS _ _ (by omega)]; exact j_oc hJ ⟨s0, s1⟩
    · by_cases hs : s = M 1 1
      · subst hs; rw [gc _ _ (by omega), gm _ (by omega) (by omega) (by omega), e1, x_up_no (by omega), fD]; omega
      · rw [gc _ _ (by omega), gm (34 + 80 * s) (by omega) (by omega) (by omega), e1, x_up_no (by omega), fS _ _ (by omega)]; exact j_dm hJ ⟨s0, s1⟩
    · rw [gc _ _ (by omega), e1, x_up_self] at s0
      rw [gc _ _ (by omega), e1, x_up_no (by omega), fS _ _ (by omega)]; exact j_de hJ ⟨by omega, s1⟩
  · have e1 : u_x_stand n M = M := by
      unfold u_x_stand u_addStand
      by_cases q : n < 2
      · rw [if_pos q]
      · rw [if_neg q]
        by_cases q2 : n ≤ 12
        · rw [if_pos q2, if_neg (by omega)]
        · rw [if_neg q2]
    have ev : v_x_stand n M = -1 := by
      unfold v_x_stand v_addStand
      by_cases q : n < 2
      · rw [if_pos q]
      · rw [if_neg q]
        by_cases q2 : n ≤ 12
        · rw [if_pos q2, if_neg (by omega)]
        · rw [if_neg q2]
    rw [e1, ev]
    unfold u_n_stand v_n_stand
    by_cases q0 : M 163 0 = 12
    · rw [if_pos q0, if_pos q0]; exact ⟨hJ, rfl⟩
    rw [if_neg q0, if_neg q0]
    by_cases q1 : n < 2
    · rw [if_pos q1, if_pos q1]; exact ⟨hJ, rfl⟩
    rw [if_neg q1, if_neg q1, if_neg (by omega), if_neg (by omega)]
    exact ⟨hJ, rfl⟩
theorem J_hour (hJ : y_J z P M) (h1 : y_TL 2 M (u_x_hour M)) (h2 : y_TL 8 (u_x_hour M) (u_n_hour (u_x_hour M))) : y_J z P (u_n_hour (u_x_hour M)) ∧ v_x_hour M = v_n_hour (u_x_hour M) := by
  have hn := j_n hJ
  have ht := ty_town1 hJ.2.2.1
  have hq := j_q hJ
  have hh := j_h hJ
  have t6 := ty_town6 hJ.2.2.1
  have t3 := ty_town3 hJ.2.2.1
  have e0 : ∀ k, (u_x_hour M) 163 k = M 163 k := fun k => h1.2 163 k (Or.inr (by omega))
  have gc : ∀ c k, c < 162 → (u_n_hour (u_x_hour M)) c k = (u_x_hour M) c k := fun c k q => h2.2 c k (Or.inl q)
  have fL : ∀ c k, c < 88 → (l_x_hour_a 61 M 0).1 c k = M c k := fun c k q => f_xho _ _ _ (by omega) _ _ (Or.inl q) t3.2
  have f6 := fL 1 6 (by omega)
  have e1 : ∀ c k, c < 88 → ¬ (c = 1 ∧ k = 6) → u_x_hour M c k = M c k := fun c k q q2 => by
    unfold u_x_hour
    split
    · rw [x_up_no q2, fL _ _ q]
    · rw [x_up_no q2, fL _ _ q]
  have e6 : u_x_hour M 1 6 = if 24 ≤ 1 + M 1 6 then 0 else 1 + M 1 6 := by
    unfold u_x_hour
    rw [f6]
    split
    · rw [x_up_self]
    · rw [x_up_self]
  have ev : v_x_hour M = if 24 ≤ 1 + M 1 6 then 0 else 1 + M 1 6 := by
    unfold v_x_hour
    rw [f6]
  revert h1 h2 e0 gc e1 e6
  generalize u_x_hour M = M1
  intro h1 h2 e0 gc e1 e6
  have fN : ∀ k, k < 1114 → (l_n_hour_a 61 M1 0).1 163 k = M 163 k := fun k q => (f_nho _ _ _ (by omega) _ _ (by omega)).trans (e0 k)
  have g3 : (u_n_hour M1) 163 3 = (1 + M 163 3) % 24 := by
    unfold u_n_hour
    rw [x_up_self, fN 3 (by omega)]
  have gm : ∀ k, k < 1114 → ¬ k = 3 → (u_n_hour M1) 163 k = M 163 k := fun k q q2 => by
    unfold u_n_hour
    rw [x_up_nk q2, fN k q]
  have ev2 : v_n_hour M1 = (1 + M 163 3) % 24 := by
    unfold v_n_hour
    rw [fN 3 (by omega)]
  refine ⟨y_j_28 hJ h1 h2 (y_rl_mk ?_ ?_ ?_ (fun s s0 s1 => ?_) (fun s s0 s1 => ?_) (fun s s0 s1 => ?_)), ?_⟩
  · rw [gc _ _ (by omega), gm 0 (by omega) (by omega), e1 _ _ (by omega) (by omega)]; exact hn
  · rw [gc _ _ (by omega), gm 2 (by omega) (by omega), e1 _ _ (by omega) (by omega)]; exact hq
  · rw [gc _ _ (by omega), g3, e6]; split <;> omega
  · rw [gc _ _ (by omega), gm _ (by omega) (by omega), e1 _ _ (by omega) (by omega)]; exact j_oc hJ ⟨s0, s1⟩
  · rw [gc _ _ (by omega), gm _ (by omega) (by omega), e1 _ _ (by omega) (by omega)]; exact j_dm hJ ⟨s0, s1⟩
  · rw [gc _ _ (by omega), e1 _ _ (by omega) (by omega)] at s0
    rw [gc _ _ (by omega), e1 _ _ (by omega) (by omega)]; exact j_de hJ ⟨s0, s1⟩
  · rw [ev, ev2]; split <;> omega
theorem J_cart {a b : Int} (hJ : y_J z P M) (h1 : y_TL 2 M (u_x_cart a b M)) (h2 : y_TL 8 (u_x_cart a b M) (u_n_cart a b (u_x_cart a b M))) : y_J z P (u_n_cart a b (u_x_cart a b M)) ∧ v_x_cart a b M = v_n_cart a b (u_x_cart a b M) := by
  have hn := j_n hJ
  have ht := ty_town1 hJ.2.2.1
  have t5 := ty_town5 hJ.2.2.1
  have hq := j_q hJ
  have hh := j_h hJ
  have e0 : ∀ k, (u_x_cart a b M) 163 k = M 163 k := fun k => h1.2 163 k (Or.inr (by omega))
  have gc : ∀ c k, c < 162 → (u_n_cart a b (u_x_cart a b M)) c k = (u_x_cart a b M) c k := fun c k q => h2.2 c k (Or.inl q)
  by_cases ca : ((1 ≤ a ∧ a ≤ 8) ∧ 0 ≤ b ∧ b < M 1 1) ∧ M 1 5 < 3
  · obtain ⟨⟨⟨a1, a8⟩, cb⟩, c3⟩ := ca
    have fS : ∀ c k, c ≠ 149 + 2 * M 1 5 → (u_cSetUp (M 1 5) a b M) c k = M c k := fun c k q => by
      unfold u_cSetUp
      rw [x_up_ne q, x_up_ne q, x_up_ne q, x_up_ne q, x_up_ne q]
    have f5 := fS 1 5 (by omega)
    have e1 : u_x_cart a b M = x_up (u_cSetUp (M 1 5) a b M) 1 5 (1 + M 1 5) := by
      unfold u_x_cart u_addCart
      rw [if_neg (by omega), if_neg (by omega), if_pos cb, if_pos c3, f5]
    have ev : v_x_cart a b M = M 1 5 := by
      unfold v_x_cart v_addCart
      rw [if_neg (by omega), if_neg (by omega), if_pos cb, if_pos c3, f5]
    revert h1 h2 e0 gc e1 fS
    generalize u_x_cart a b M = M1
    generalize u_cSetUp (M 1 5) a b M = S
    intro h1 h2 e0 gc fS e1
    have x0 := e0 0
    have x2 := e0 2
    have e2 : u_n_cart a b M1 = (x_up ((x_up ((x_up ((x_up ((x_up M1 163 (1594 + 12 * M1 163 2) a)) 163 (1595 + 12 * M1 163 2) b)) 163 (1596 + 12 * M1 163 2) 0)) 163 (1597 + 12 * M1 163 2) 0)) 163 2 (1 + M1 163 2)) := by
      unfold u_n_cart
      rw [if_neg (by omega), if_neg (by omega), if_neg (by omega), if_pos (by omega)]
    have ev2 : v_n_cart a b M1 = M1 163 2 := by
      unfold v_n_cart
      rw [if_neg (by omega), if_neg (by omega), if_neg (by omega), if_pos (by omega)]
    have gm : ∀ k, k < 1114 → ¬ k = 2 → (u_n_cart a b M1) 163 k = M 163 k := fun k q q2 => by
      rw [e2, x_up_nk q2, x_up_nk (by omega), x_up_nk (by omega), x_up_nk (by omega), x_up_nk (by omega), e0]
    refine ⟨y_j_28 hJ h1 h2 (y_rl_mk ?_ ?_ ?_ (fun s s0 s1 => ?_) (fun s s0 s1 => ?_) (fun s s0 s1 => ?_)), by omega⟩
    · rw [gc _ _ (by omega), gm 0 (by omega) (by omega), e1, x_up_nk (by omega), fS _ _ (by omega)]; exact hn
    · rw [gc _ _ (by omega), e2, x_up_self, x2, e1, x_up_self, hq]
    · rw [gc _ _ (by omega), gm 3 (by omega) (by omega), e1, x_up_nk (by omega), fS _ _ (by omega)]; exact hh
    · rw [gc _ _ (by omega), gm _ (by omega) (by omega), e1, x_up_no (by omega), fS _ _ (by omega)]; exact j_oc hJ ⟨s0, s1⟩
    · rw [gc _ _ (by omega), gm _ (by omega) (by omega), e1, x_up_no (by omega), fS _ _ (by omega)]; exact j_dm hJ ⟨s0, s1⟩
    · rw [gc _ _ (by omega), e1, x_up_nk (by omega), fS _ _ (by omega)] at s0
      rw [gc _ _ (by omega), e1, x_up_no (by omega), fS _ _ (by omega)]; exact j_de hJ ⟨s0, s1⟩
  · have e1 : u_x_cart a b M = M ∧ v_x_cart a b M = -1 := by
      unfold u_x_cart u_addCart v_x_cart v_addCart
      by_cases q : a < 1
      · rw [if_pos q, if_pos q]; exact ⟨rfl, rfl⟩
      rw [if_neg q, if_neg q]
      by_cases q2 : 8 < a
      · rw [if_pos q2, if_pos q2]; exact ⟨rfl, rfl⟩
      rw [if_neg q2, if_neg q2]
      by_cases q3 : 0 ≤ b ∧ b < M 1 1
      · rw [if_pos q3, if_pos q3, if_neg (by omega), if_neg (by omega)]; exact ⟨rfl, rfl⟩
      · rw [if_neg q3, if_neg q3]; exact ⟨rfl, rfl⟩
    rw [e1.1, e1.2]
    unfold u_n_cart v_n_cart
    by_cases q0 : M 163 2 = 3
    · rw [if_pos q0, if_pos q0]; exact ⟨hJ, rfl⟩
    rw [if_neg q0, if_neg q0]
    by_cases q1 : a < 1
    · rw [if_pos q1, if_pos q1]; exact ⟨hJ, rfl⟩
    rw [if_neg q1, if_neg q1]
    by_cases q2 : 8 < a
    · rw [if_pos q2, if_pos q2]; exact ⟨hJ, rfl⟩
    rw [if_neg q2, if_neg q2, if_neg (by omega), if_neg (by omega)]
    exact ⟨hJ, rfl⟩
end
