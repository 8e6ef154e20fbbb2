/-! DEMANDS, IMAGES, THE BEGINNING -/
section
variable {z : Int} {P M : Int → Int → Int}
theorem V_length {a b l : Int} (hJ : y_J z P M) {M1 : Int → Int → Int} (h1 : y_TL 0 M M1) : v_x_length a b l M = v_n_length a b l M1 := by
  have hn := j_n hJ
  have e0 : M1 163 0 = M 163 0 := h1.2 163 0 (Or.inr (Or.inl (by omega)))
  unfold v_x_length v_n_length
  rw [e0, ← hn]
  repeat' split
  all_goals first | rfl | omega
theorem V_want {a b : Int} (hJ : y_J z P M) {M1 : Int → Int → Int} (h1 : y_TL 0 M M1) : v_x_want a b M = v_n_want a b M1 := by
  have hn := j_n hJ
  have e0 : M1 163 0 = M 163 0 := h1.2 163 0 (Or.inr (Or.inl (by omega)))
  unfold v_x_want v_n_want
  rw [e0, ← hn]
theorem J_demand {a b d e : Int} (hJ : y_J z P M) (h1 : y_TL 2 M (u_x_demand a b d e M)) (h2 : y_TL 8 (u_x_demand a b d e M) (u_n_demand a b d e (u_x_demand a b d e M))) : y_J z P (u_n_demand a b d e (u_x_demand a b d e M)) ∧ v_x_demand a b d e M = v_n_demand a b d e (u_x_demand a b d e M) := by
  have hn := j_n hJ
  have ht := ty_town1 hJ.2.2.1
  have hq := j_q hJ
  have hh := j_h hJ
  have e0 : ∀ k, (u_x_demand a b d e M) 163 k = M 163 k := fun k => h1.2 163 k (Or.inr (by omega))
  have gc : ∀ c k, c < 162 → (u_n_demand a b d e (u_x_demand a b d e M)) c k = (u_x_demand a b d e M) c k := fun c k q => h2.2 c k (Or.inl q)
  have g2 := h2.1
  by_cases ca : (0 ≤ a ∧ a < M 1 1) ∧ (0 ≤ b ∧ b < 24) ∧ (0 ≤ d ∧ d ≤ 99) ∧ 0 ≤ e ∧ e ≤ 99
  · obtain ⟨ca, cb, cd, ce⟩ := ca
    have v1 : v_tellHour a b d e M = 1 := by
      unfold v_tellHour
      rw [if_neg (by omega), if_neg (by omega), if_pos cd, if_pos ce]
    have e1 : u_x_demand a b d e M = x_up (x_up (x_up M (7 + 7 * a) 0 1) (8 + 7 * a) b d) (9 + 7 * a) b e := by
      unfold u_x_demand u_tellHour
      rw [if_pos ca, v1, if_neg (by omega), if_neg (by omega), if_neg (by omega), if_pos cd, if_pos ce]
    have ev : v_x_demand a b d e M = 1 := by
      unfold v_x_demand
      rw [if_pos ca, v1, if_neg (by omega)]
    have dm := j_dm hJ (s := a) (by omega)
    have td := ty_dem0 (i := a) hJ.2.2.1 (by omega)
    revert h1 h2 e0 gc g2 e1
    generalize u_x_demand a b d e M = M1
    intro h1 h2 e0 gc g2 e1
    have x0 := e0 0
    have x1 := e0 (34 + 80 * a)
    have e2 : u_n_demand a b d e M1 = (if ¬ M1 163 (34 + 80 * a) = 0 then (x_up ((x_up M1 163 (35 + 80 * a + b) d)) 163 (59 + 80 * a + b) e) else (x_up ((x_up ((l_n_demand_a a b d e 50 ((x_up M1 163 (34 + 80 * a) 1)) 1).1) 163 (35 + 80 * a + b) d)) 163 (59 + 80 * a + b) e)) := by
      unfold u_n_demand
      rw [if_pos (show 0 ≤ a ∧ a < M1 163 0 by omega), if_pos cb, if_pos (show 0 ≤ d ∧ d < 100 by omega), if_pos (show 0 ≤ e ∧ e < 100 by omega)]
    have ev2 : v_n_demand a b d e M1 = 1 := by
      unfold v_n_demand
      rw [if_pos (show 0 ≤ a ∧ a < M1 163 0 by omega), if_pos cb, if_pos (show 0 ≤ d ∧ d < 100 by omega), if_pos (show 0 ≤ e ∧ e < 100 by omega)]
      split <;> rfl
    have gm : ∀ i, 0 ≤ i → (i = 0 ∨ i = 2 ∨ i = 3 ∨ (10 ≤ i ∧ i < 970 ∧ ((i - 10) % 80 = 15 ∨ (i - 10) % 80 = 24))) → ¬ i = 34 + 80 * a → (u_n_demand a b d e M1) 163 i = M 163 i := fun i i0 hi hne => by
      rw [e2]
      split
      · rw [x_up_nk (by omega), x_up_nk (by omega), e0]
      · rw [x_up_nk (by omega), x_up_nk (by omega), f_nde _ _ _ (by omega) _ _ (by omega), x_up_nk hne, e0]
    have ga : (u_n_demand a b d e M1) 163 (34 + 80 * a) = 1 := by
      rw [e2]
      split
      · rw [x_up_nk (by omega), x_up_nk (by omega)]; omega
      · rw [x_up_nk (by omega), x_up_nk (by omega), f_nde _ _ _ (by omega) _ _ (by omega), x_up_self]
    refine ⟨y_j_28 hJ h1 h2 (y_rl_mk ?_ ?_ ?_ (fun s s0 s1 => ?_) (fun s s0 s1 => ?_) (fun s s0 s1 => ?_)), ev.trans ev2.symm⟩
    · rw [gc _ _ (by omega), gm 0 (by omega) (by omega) (by omega), e1, x_up_ne (by omega), x_up_ne (by omega), x_up_ne (by omega)]; exact hn
    · rw [gc _ _ (by omega), gm 2 (by omega) (by omega) (by omega), e1, x_up_ne (by omega), x_up_ne (by omega), x_up_ne (by omega)]; exact hq
    · rw [gc _ _ (by omega), gm 3 (by omega) (by omega) (by omega), e1, x_up_ne (by omega), x_up_ne (by omega), x_up_ne (by omega)]; exact hh
    · rw [gc _ _ (by omega), gm _ (by omega) (by omega) (by omega), e1, x_up_ne (by omega), x_up_ne (by omega), x_up_ne (by omega)]; exact j_oc hJ ⟨s0, s1⟩
    · by_cases hs : s = a
      · subst hs; rw [gc _ _ (by omega), ga, e1, x_up_ne (by omega), x_up_ne (by omega), x_up_self]
      · rw [gc _ _ (by omega), gm _ (by omega) (by omega) (by omega), e1, x_up_ne (by omega), x_up_ne (by omega), x_up_ne (by omega)]; exact j_dm hJ ⟨s0, s1⟩
    · rw [gc _ _ (by omega), e1, x_up_ne (by omega), x_up_ne (by omega), x_up_ne (by omega)] at s0
      rw [gc _ _ (by omega), e1, x_up_ne (by omega), x_up_ne (by omega), x_up_ne (by omega)]; exact j_de hJ ⟨s0, s1⟩
  · have e1 : u_x_demand a b d e M = M ∧ v_x_demand a b d e M = 0 := by
      unfold u_x_demand v_x_demand u_tellHour v_tellHour
      repeat' split
      all_goals first | exact ⟨rfl, rfl⟩ | (exfalso; omega)
    rw [e1.1, e1.2]
    have e2 : u_n_demand a b d e M = M ∧ v_n_demand a b d e M = 0 := by
      unfold u_n_demand v_n_demand
      by_cases q1 : 0 ≤ a ∧ a < M 163 0
      · rw [if_pos q1, if_pos q1]
        by_cases q2 : 0 ≤ b ∧ b < 24
        · rw [if_pos q2, if_pos q2]
          by_cases q3 : 0 ≤ d ∧ d < 100
          · rw [if_pos q3, if_pos q3, if_neg (by omega), if_neg (by omega)]; exact ⟨rfl, rfl⟩
          · rw [if_neg q3, if_neg q3]; exact ⟨rfl, rfl⟩
        · rw [if_neg q2, if_neg q2]; exact ⟨rfl, rfl⟩
      · rw [if_neg q1, if_neg q1]; exact ⟨rfl, rfl⟩
    rw [e2.1, e2.2]
    exact ⟨hJ, rfl⟩
theorem f_img {a : Int} (ha : 0 ≤ a) : ∀ (k : Nat) (M : Int → Int → Int) (i : Int), 0 ≤ i → 1640 - i < (k : Int) → ∀ c j, (l_n_image_a a k M i).1 c j = if c = 163 ∧ 1640 + 1640 * a + i ≤ j ∧ j < 3280 + 1640 * a then M 163 (j - 1640 - 1640 * a) else M c j := by
  intro k
  induction k with
  | zero => intro M i h0 h1 c j; rw [if_neg (by omega)]; rfl
  | succ k ih =>
    intro M i h0 h1 c j
    rw [l_n_image_a]
    by_cases q : 1640 ≤ i
    · rw [if_pos q, if_neg (by omega)]
    · rw [if_neg q, ih _ _ (by omega) (by omega)]
      by_cases h : c = 163 ∧ 1640 + 1640 * a + i ≤ j ∧ j < 3280 + 1640 * a
      · rw [if_pos h]
        by_cases h2 : j = 1640 + 1640 * a + i
        · rw [if_neg (by omega), h.1, h2, x_up_self, show 1640 + 1640 * a + i - 1640 - 1640 * a = i by omega]
        · rw [if_pos (by omega), x_up_nk (by omega)]
      · rw [if_neg (by omega), if_neg h, x_up_no (by omega)]
theorem f_aga {a : Int} (ha : 0 ≤ a) : ∀ (k : Nat) (M : Int → Int → Int) (i : Int), 0 ≤ i → 1640 - i < (k : Int) → ∀ c j, (l_n_again_a a k M i).1 c j = if c = 163 ∧ i ≤ j ∧ j < 1640 then M 163 (1640 + 1640 * a + j) else M c j := by
  intro k
  induction k with
  | zero => intro M i h0 h1 c j; rw [if_neg (by omega)]; rfl
  | succ k ih =>
    intro M i h0 h1 c j
    rw [l_n_again_a]
    by_cases q : 1640 ≤ i
    · rw [if_pos q, if_neg (by omega)]
    · rw [if_neg q, ih _ _ (by omega) (by omega)]
      by_cases h : c = 163 ∧ i ≤ j ∧ j < 1640
      · rw [if_pos h]
        by_cases h2 : j = i
        · rw [if_neg (by omega), h.1, h2, x_up_self]
        · rw [if_pos (by omega), x_up_nk (by omega)]
      · rw [if_neg (by omega), if_neg h, x_up_no (by omega)]
theorem J_image {a z2 : Int} {P2 M2 : Int → Int → Int} (hJ : y_J z P M) (h1 : y_IP a z P M z2 P2 M2) (h2 : y_TL 3 M2 (u_n_image a M2)) : y_J z2 P2 (u_n_image a M2) := by
  obtain ⟨i1, i2, i3, i4, i5, i6, i7⟩ := h1
  obtain ⟨hS, hI, hT, hR, hK⟩ := hJ
  have tn := ty_town1 hT
  by_cases ha : 0 ≤ a ∧ a < 4
  · obtain ⟨ne, M3, hC, f3⟩ := i6 ha
    have gm : ∀ j, (u_n_image a M2) 163 j = if 1640 + 1640 * a ≤ j ∧ j < 3280 + 1640 * a then M 163 (j - 1640 - 1640 * a) else M 163 j := fun j => by
      unfold u_n_image
      rw [if_pos ha, f_img ha.1 _ _ _ (by omega) (by omega)]
      by_cases q : 1640 + 1640 * a ≤ j ∧ j < 3280 + 1640 * a
      · rw [if_pos ⟨rfl, by omega, q.2⟩, if_pos q, x_up_ne (by omega), i4 _ _ (by omega)]
      · rw [if_neg (by omega), if_neg q, x_up_ne (by omega), i4 _ _ (by omega)]
    have gh : ∀ j, (u_n_image a M2) 164 j = if j = a then 1 else M 164 j := fun j => by
      unfold u_n_image
      rw [if_pos ha, f_img ha.1 _ _ _ (by omega) (by omega), if_neg (by omega)]
      by_cases q : j = a
      · rw [if_pos q, q, x_up_self]
      · rw [if_neg q, x_up_nk q, i4 _ _ (by omega)]
    have gc : ∀ c k, c < 162 → (u_n_image a M2) c k = M c k := fun c k q => (h2.2 c k (Or.inl q)).trans (i4 c k (by omega))
    have gi : ∀ c k, 170 ≤ c → (u_n_image a M2) c k = M2 c k := fun c k q => h2.2 c k (Or.inr q)
    refine ⟨i1, y_im_fr i2 gi, h2.1, ?_, fun k h0 h4 => ?_⟩
    · exact y_rl_fr (r2 := 0) hR (gc _ _ (by omega)) (gc _ _ (by omega)) (gc _ _ (by omega)) (fun s s0 s1 => ⟨gc _ _ (by omega), gc _ _ (by omega)⟩) (fun i i0 i1 _ => by rw [gm, if_neg (by omega)]) tn.1
    · by_cases hk : k = a
      · subst hk
        rw [gh, if_pos rfl, if_neg ne]
        refine ⟨rfl, fun _ => ?_⟩
        have e := hC.1.1.2.2.1
        rcases i2.2.1 k h0 h4 with q | ⟨q1, q2, j, hj, ej, hz⟩
        · exact absurd q ne
        · refine y_rl_fr (o2 := P2 155 k) (r2 := 1640 + 1640 * k) hR ?_ ?_ ?_ (fun s s0 s1 => ⟨?_, ?_⟩) (fun i i0 i1 _ => ?_) tn.1
          · rw [gi _ _ (by omega), e.1, f3 _ _ (by omega)]
          · rw [gi _ _ (by omega), e.2.2.1, f3 _ _ (by omega)]
          · rw [gi _ _ (by omega), e.2.2.2, f3 _ _ (by omega)]
          · have cs := (hC.1.1.2.2.2 s ⟨s0, s1⟩).1.2.1
            rw [gi _ _ (by omega), show P2 155 k + 2 + 7 * s = 2 + 7 * s + P2 155 k by omega, cs, f3 _ _ (by omega), show 2 + 7 * s + 1 = 1 + 2 + 7 * s by omega]
          · have cs := (hC.1.1.2.2.2 s ⟨s0, s1⟩).2.2.2.2.1
            rw [gi _ _ (by omega), show P2 155 k + 6 + 7 * s = 6 + 7 * s + P2 155 k by omega, cs, f3 _ _ (by omega), show 6 + 7 * s + 1 = 1 + 6 + 7 * s by omega]
          · rw [gm, if_pos (by omega), show 1640 + 1640 * k + i - 1640 - 1640 * k = 0 + i by omega]
      · obtain ⟨p1, p2⟩ := i5 k h0 h4 hk
        rw [gh, if_neg hk, p1]
        refine ⟨(hK k h0 h4).1, fun hne => ?_⟩
        rcases hI.2.1 k h0 h4 with q | ⟨q1, q2, j, hj, ej, hz⟩
        · exact absurd q hne
        · have g := p2 hne
          have hb : y_bs (P 155 k) := Or.inr ⟨j, hj, ej⟩
          have t := y_okT_of (f := 0) (k := 1) hT.1 hb (by omega)
          unfold y_okt at t
          rw [if_pos rfl, if_pos rfl, show P 155 k + 0 = P 155 k by omega] at t
          have g0 : ∀ j, M2 (P 155 k) j = M (P 155 k) j := fun j => by have := g 0 j (by omega) (by omega); rwa [show P 155 k + 0 = P 155 k by omega] at this
          refine y_rl_fr ((hK k h0 h4).2 hne) ?_ ?_ ?_ (fun s s0 s1 => ⟨?_, ?_⟩) (fun i i0 i1 _ => ?_) t.1
          · rw [gi _ _ (by omega), g0]
          · rw [gi _ _ (by omega), g0]
          · rw [gi _ _ (by omega), g0]
          · rw [gi _ _ (by omega), show P 155 k + 2 + 7 * s = P 155 k + (2 + 7 * s) by omega, g _ _ (by omega) (by omega)]
          · rw [gi _ _ (by omega), show P 155 k + 6 + 7 * s = P 155 k + (6 + 7 * s) by omega, g _ _ (by omega) (by omega)]
          · rw [gm, if_neg (by omega)]
  · obtain ⟨rfl, rfl⟩ := i7 ha
    have e : u_n_image a M2 = M2 := by unfold u_n_image; rw [if_neg ha]
    rw [e]
    exact ⟨i1, i2, hT, hR, hK⟩
theorem V_image {a : Int} {M2 : Int → Int → Int} : (if 0 ≤ a ∧ a < 4 then 1 else 0) = v_n_image a M2 := rfl
theorem J_again {a : Int} {M2 : Int → Int → Int} (hJ : y_J z P M) (h1 : y_TL 2 M M2) (hC : (0 ≤ a ∧ a < 4) ∧ P 155 a ≠ -1 → x_C3 1 (P 155 a) 3 M2 M) (hN : ¬ ((0 ≤ a ∧ a < 4) ∧ P 155 a ≠ -1) → M2 = M) (h2 : y_TL 3 M2 (u_n_again a M2)) : y_J z P (u_n_again a M2) ∧ (if (0 ≤ a ∧ a < 4) ∧ P 155 a ≠ -1 then 1 else 0) = v_n_again a M2 := by
  have hJ0 := hJ
  obtain ⟨hS, hI, hT, hR, hK⟩ := hJ
  by_cases ha : (0 ≤ a ∧ a < 4) ∧ P 155 a ≠ -1
  · have hC := hC ha
    have k1 := hK a ha.1.1 ha.1.2
    rw [if_neg ha.2] at k1
    have e4 : M2 164 a = 1 := (h1.2 164 a (Or.inr (by omega))).trans k1.1
    have gm : ∀ j, (u_n_again a M2) 163 j = if 0 ≤ j ∧ j < 1640 then M 163 (1640 + 1640 * a + j) else M 163 j := fun j => by
      unfold u_n_again
      rw [if_pos ha.1, if_pos (by omega), f_aga ha.1.1 _ _ _ (by omega) (by omega)]
      by_cases q : 0 ≤ j ∧ j < 1640
      · rw [if_pos ⟨rfl, q⟩, if_pos q, h1.2 163 _ (Or.inr (by omega))]
      · rw [if_neg (by omega), if_neg q, h1.2 163 _ (Or.inr (by omega))]
    have gh : ∀ c k, c ≠ 163 → (u_n_again a M2) c k = M2 c k := fun c k q => by
      unfold u_n_again
      rw [if_pos ha.1, if_pos (by omega), f_aga ha.1.1 _ _ _ (by omega) (by omega), if_neg (by omega)]
    have gi : ∀ c k, 170 ≤ c → (u_n_again a M2) c k = M c k := fun c k q => (gh c k (by omega)).trans (h1.2 c k (Or.inr (by omega)))
    have e := hC.1.1.2.2.1
    rcases hI.2.1 a ha.1.1 ha.1.2 with q | ⟨q1, q2, j, hj, ej, hz⟩
    · exact absurd q ha.2
    have hb : y_bs (P 155 a) := Or.inr ⟨j, hj, ej⟩
    have t := y_okT_of (f := 0) (k := 1) hT.1 hb (by omega)
    unfold y_okt at t
    rw [if_pos rfl, if_pos rfl, show P 155 a + 0 = P 155 a by omega] at t
    refine ⟨y_j_mut hJ0 h2.1 gi (fun k => (gh 164 k (by omega)).trans (h1.2 164 k (Or.inr (by omega)))) (fun k h => by rw [gm, if_neg (by omega)]) (y_rl_fr (o2 := 1) (r2 := 0) (k1.2 ha.2) ?_ ?_ ?_ (fun s s0 s1 => ⟨?_, ?_⟩) (fun i i0 i1 _ => ?_) t.1), ?_⟩
    · rw [gh _ _ (by omega), e.1]
    · rw [gh _ _ (by omega), e.2.2.1]
    · rw [gh _ _ (by omega), e.2.2.2]
    · have cs := (hC.1.1.2.2.2 s ⟨s0, s1⟩).1.2.1
      rw [gh _ _ (by omega), show 1 + 2 + 7 * s = 2 + 7 * s + 1 by omega, cs, show 2 + 7 * s + P 155 a = P 155 a + 2 + 7 * s by omega]
    · have cs := (hC.1.1.2.2.2 s ⟨s0, s1⟩).2.2.2.2.1
      rw [gh _ _ (by omega), show 1 + 6 + 7 * s = 6 + 7 * s + 1 by omega, cs, show 6 + 7 * s + P 155 a = P 155 a + 6 + 7 * s by omega]
    · rw [gm, if_pos (by omega), show 1640 + 1640 * a + (0 + i) = 1640 + 1640 * a + i by omega]
    · rw [if_pos ha]
      unfold v_n_again
      rw [if_pos ha.1, if_pos (by omega)]
  · have e := hN ha
    subst e
    have e2 : u_n_again a M2 = M2 ∧ v_n_again a M2 = 0 := by
      unfold u_n_again v_n_again
      by_cases q : 0 ≤ a ∧ a < 4
      · have k1 := (hK a q.1 q.2).1
        rw [if_pos (by omega)] at k1
        rw [if_pos q, if_pos q, if_neg (by omega), if_neg (by omega)]; exact ⟨rfl, rfl⟩
      · rw [if_neg q, if_neg q]; exact ⟨rfl, rfl⟩
    rw [e2.1, e2.2, if_neg ha]
    exact ⟨hJ0, rfl⟩
end
theorem y_okNum {f v : Int} (h : x_tk f = 2 ∨ x_tk f = 5 ∨ x_tk f = 0) (hf : 0 ≤ f ∧ f < 154) : y_okt f 0 v := by
  unfold x_tk at h
  unfold y_okt
  by_cases g0 : f = 0
  · rw [if_pos g0] at h; omega
  rw [if_neg g0] at h ⊢
  by_cases g1 : f = 1
  · rw [if_pos g1]; trivial
  rw [if_neg g1] at h ⊢
  by_cases g86 : f < 86
  · rw [if_pos g86] at h ⊢
    by_cases r0 : (f - 2) % 7 = 0
    · rw [if_pos r0, if_neg (by omega), if_neg (by omega), if_neg (by omega)]; trivial
    · rw [if_neg r0] at h
      by_cases r4 : (f - 2) % 7 = 4
      · rw [if_pos r4] at h; omega
      · rw [if_neg r4] at h; omega
  rw [if_neg g86] at h ⊢
  by_cases g862 : f = 86
  · rw [if_pos g862]; trivial
  rw [if_neg g862] at h ⊢
  by_cases g147 : f < 147
  · rw [if_pos g147, if_neg (by omega), if_neg (by omega), if_neg (by omega), if_neg (by omega), if_neg (by omega), if_neg (by omega), if_neg (by omega), if_neg (by omega)]; trivial
  rw [if_neg g147] at h ⊢
  by_cases g1472 : f = 147
  · rw [if_pos g1472]; trivial
  rw [if_neg g1472] at h ⊢
  by_cases r0 : (f - 148) % 2 = 0
  · rw [if_pos r0, if_neg (by omega), if_neg (by omega), if_neg (by omega)]; trivial
  · rw [if_neg r0] at h; omega
theorem y_oA0 {i : Int} : y_oA i 0 := by simp [y_oA, y_oAS, y_oAW, y_oAC]
/-- the beginning -/
theorem J_0 {P M : Int → Int → Int} (hS : x_Sh 170 P) (hI : ∀ k, P 155 k = -1) (hM : x_TM 1 M) (hZ : ∀ a k, 1 ≤ a → a < 162 → M a k = 0 ∨ y_zk a k) (h162 : ∀ k, M 162 k = 0) (hA : ∀ i, M 163 i = a_F 144 i) (h164 : ∀ b k, 164 ≤ b → M b k = 0) : y_J 170 P M := by
  have z0 : ∀ a k, 1 ≤ a → a < 162 → ¬ y_zk a k → M a k = 0 := fun a k h1 h2 h3 => (hZ a k h1 h2).resolve_right h3
  have kd1 : ∀ k, M 1 k = 0 := fun k => z0 1 k (by omega) (by omega) (fun q => by rcases q.2 with q | q | q <;> (revert q; decide))
  refine ⟨hS, ⟨⟨0, by omega, by omega⟩, fun k _ _ => Or.inl (hI k), fun k l _ _ _ _ _ h => absurd (hI k) h⟩, ⟨fun a k => ?_, hM⟩, y_rl_mk ?_ ?_ ?_ (fun s s0 s1 => ?_) (fun s s0 s1 => ?_) (fun s s0 s1 => ?_), fun k h0 h4 => ⟨?_, fun h => absurd (hI k) h⟩⟩
  · unfold y_okv
    by_cases q1 : a < 1
    · rw [if_pos q1]; trivial
    rw [if_neg q1]
    by_cases q2 : a < 155
    · rw [if_pos q2]
      rcases hZ a k (by omega) (by omega) with e | ⟨e1, e2⟩
      · rw [e]; exact y_okt0
      · subst e1
        have hk : x_kd a = x_tk (a - 1) := by have := (hb_main (a - 1) (by omega) (by omega)).1; rwa [show 1 + (a - 1) = a by omega] at this
        rw [hk] at e2
        exact y_okNum e2 (by omega)
    rw [if_neg q2]
    by_cases q3 : a < 170
    · rw [if_pos q3]
      have hz : ¬ a = 163 → M a k = 0 := fun q => by
        by_cases h1 : a < 162
        · refine z0 a k (by omega) h1 (fun w => ?_)
          rcases (show a = 155 ∨ a = 156 ∨ a = 157 ∨ a = 158 ∨ a = 159 ∨ a = 160 ∨ a = 161 by omega) with rfl | rfl | rfl | rfl | rfl | rfl | rfl <;> (rcases w.2 with w | w | w <;> (revert w; decide))
        · by_cases h2 : a = 162
          · rw [h2]; exact h162 k
          · exact h164 a k (by omega)
      by_cases h3 : a = 163
      · subst h3
        unfold y_okm
        rw [if_neg (by omega), if_neg (by omega), if_neg (by omega), if_neg (by omega), if_neg (by omega), if_neg (by omega), if_pos rfl, hA]
        unfold a_F
        split
        · rename_i g
          unfold y_oA
          rw [if_neg (by omega), if_neg (by omega), if_pos (by omega)]; omega
        · exact y_oA0
      · rw [hz h3]
        simp [y_okm, y_oA0]
    · rw [if_neg q3, h164 a k (by omega)]; exact y_okt0
  · rw [kd1, hA]; rfl
  · rw [kd1, hA]; rfl
  · rw [kd1, hA]; rfl
  · rw [z0 _ _ (by omega) (by omega) (fun q => absurd q.1 (by omega)), hA]
    unfold a_F
    rw [if_neg (by omega)]
  · have hk : x_kd (7 + 7 * s) = 1 := kd_main (tk_dem ⟨s0, s1⟩) (by omega) (by omega)
    rw [z0 _ _ (by omega) (by omega) (fun q => by rcases q.2 with q | q | q <;> omega), hA]
    unfold a_F
    rw [if_neg (by omega)]
  · rw [kd1] at s0
    have hk : x_kd (7 + 7 * s) = 1 := kd_main (tk_dem ⟨s0, s1⟩) (by omega) (by omega)
    exact z0 _ _ (by omega) (by omega) (fun q => by rcases q.2 with q | q | q <;> omega)
  · rw [hI, if_pos rfl]; exact h164 _ _ (by omega)
