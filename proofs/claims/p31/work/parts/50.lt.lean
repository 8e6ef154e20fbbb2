/-! THE LIGHT RELATION -/
def y_RL (o r : Int) (M : Int → Int → Int) : Prop := (M o 1 = M 163 r ∧ M o 5 = M 163 (r + 2) ∧ M o 6 = M 163 (r + 3)) ∧ (∀ s, 0 ≤ s → s < 12 → M (o + 2 + 7 * s) 5 = M 163 (r + 25 + 80 * s) ∧ M (o + 6 + 7 * s) 0 = M 163 (r + 34 + 80 * s)) ∧ ∀ s, M o 1 ≤ s → s < 12 → M (o + 6 + 7 * s) 0 = 0
def y_J (z : Int) (P M : Int → Int → Int) : Prop := x_Sh z P ∧ y_IM z P M ∧ y_TC M ∧ y_RL 1 0 M ∧ ∀ k, 0 ≤ k → k < 4 → (M 164 k = if P 155 k = -1 then 0 else 1) ∧ (P 155 k ≠ -1 → y_RL (P 155 k) (1640 + 1640 * k) M)
theorem y_rl_fr {o r o2 r2 : Int} {M M2 : Int → Int → Int} (h : y_RL o r M) (h1 : M2 o2 1 = M o 1) (h5 : M2 o2 5 = M o 5) (h6 : M2 o2 6 = M o 6) (hc : ∀ s, 0 ≤ s → s < 12 → M2 (o2 + 2 + 7 * s) 5 = M (o + 2 + 7 * s) 5 ∧ M2 (o2 + 6 + 7 * s) 0 = M (o + 6 + 7 * s) 0) (hr : ∀ i, 0 ≤ i → i < 1640 → (i = 0 ∨ i = 2 ∨ i = 3 ∨ (10 ≤ i ∧ i < 970 ∧ ((i - 10) % 80 = 15 ∨ (i - 10) % 80 = 24))) → M2 163 (r2 + i) = M 163 (r + i)) (hn : 0 ≤ M o 1) : y_RL o2 r2 M2 := by
  refine ⟨⟨?_, ?_, ?_⟩, fun s s0 s1 => ⟨?_, ?_⟩, fun s s0 s1 => ?_⟩
  · have e := hr 0 (by omega) (by omega) (by omega)
    rw [show r2 + 0 = r2 by omega, show r + 0 = r by omega] at e
    rw [h1, e]; exact h.1.1
  · rw [h5, hr 2 (by omega) (by omega) (by omega)]; exact h.1.2.1
  · rw [h6, hr 3 (by omega) (by omega) (by omega)]; exact h.1.2.2
  · have e := hr (25 + 80 * s) (by omega) (by omega) (by omega)
    rw [(hc s s0 s1).1, show r2 + 25 + 80 * s = r2 + (25 + 80 * s) by omega, e, show r + (25 + 80 * s) = r + 25 + 80 * s by omega]; exact (h.2.1 s s0 s1).1
  · have e := hr (34 + 80 * s) (by omega) (by omega) (by omega)
    rw [(hc s s0 s1).2, show r2 + 34 + 80 * s = r2 + (34 + 80 * s) by omega, e, show r + (34 + 80 * s) = r + 34 + 80 * s by omega]; exact (h.2.1 s s0 s1).2
  · rw [h1] at s0
    rw [(hc s (by omega) s1).2]; exact h.2.2 s s0 s1
/-- what the images' rows and marks are stays -/
theorem y_j_mut {z : Int} {P M M2 : Int → Int → Int} (hJ : y_J z P M) (hT : y_TC M2) (f1 : ∀ a k, 170 ≤ a → M2 a k = M a k) (f2 : ∀ k, M2 164 k = M 164 k) (f3 : ∀ k, 1640 ≤ k → M2 163 k = M 163 k) (hR : y_RL 1 0 M2) : y_J z P M2 := by
  obtain ⟨hS, hI, hT0, hR0, hK⟩ := hJ
  refine ⟨hS, y_im_fr hI f1, hT, hR, fun k h0 h4 => ⟨(f2 k).trans (hK k h0 h4).1, fun hne => ?_⟩⟩
  rcases hI.2.1 k h0 h4 with q | ⟨q1, q2, j, hj, e, hz⟩
  · exact absurd q hne
  · have hb : y_bs (P 155 k) := Or.inr ⟨j, hj, e⟩
    have t := y_okT_of (f := 0) (k := 1) hT0.1 hb (by omega)
    unfold y_okt at t
    rw [if_pos rfl, if_pos rfl, show P 155 k + 0 = P 155 k by omega] at t
    exact y_rl_fr ((hK k h0 h4).2 hne) (f1 _ _ (by omega)) (f1 _ _ (by omega)) (f1 _ _ (by omega)) (fun s s0 s1 => ⟨f1 _ _ (by omega), f1 _ _ (by omega)⟩) (fun i i0 i1 _ => f3 _ (by omega)) t.1
theorem y_j_light {z : Int} {P M M1 M2 : Int → Int → Int} (hJ : y_J z P M) (h1 : y_TL 0 M M1) (h2 : y_TL 1 M1 M2) : y_J z P M2 := by
  have hn := ty_town1 hJ.2.2.1
  have gc : ∀ a k, a < 162 → y_lc a k → M2 a k = M a k := fun a k q q2 => (h2.2 a k (Or.inl q)).trans (h1.2 a k (Or.inr (Or.inr q2)))
  have gm : ∀ a k, a = 163 → y_lm a k → M2 a k = M a k := fun a k q q2 => (h2.2 a k (Or.inr (Or.inr q2))).trans (h1.2 a k (Or.inr (Or.inl (by omega))))
  refine y_j_mut hJ h2.1 (fun a k h => (h2.2 a k (Or.inr (Or.inl h))).trans (h1.2 a k (Or.inr (Or.inl (by omega))))) (fun k => (h2.2 164 k (Or.inr (Or.inr (by unfold y_lm; omega)))).trans (h1.2 164 k (Or.inr (Or.inl (by omega))))) (fun k h => gm 163 k rfl (by unfold y_lm; omega)) ?_
  exact y_rl_fr (r := 0) (r2 := 0) hJ.2.2.2.1 (gc _ _ (by omega) (by unfold y_lc; omega)) (gc _ _ (by omega) (by unfold y_lc; omega)) (gc _ _ (by omega) (by unfold y_lc; omega)) (fun s s0 s1 => ⟨gc _ _ (by omega) (by unfold y_lc; omega), gc _ _ (by omega) (by unfold y_lc; omega)⟩) (fun i i0 i1 q => gm _ _ rfl (by unfold y_lm; omega)) hn.1
theorem y_j_put {z : Int} {P M M1 M2 : Int → Int → Int} (hJ : y_J z P M) (h1 : y_TL 9 M M1) (h2 : y_TL 10 M1 M2) : y_J z P M2 := by
  have hn := ty_town1 hJ.2.2.1
  have gc : ∀ a k, a < 162 → y_lc a k → ¬ (a = 1 ∧ k = 3) → M2 a k = M a k := fun a k q q2 q3 => (h2.2 a k (Or.inl q)).trans (h1.2 a k (Or.inr (Or.inr ⟨q2, q3⟩)))
  have gm : ∀ a k, a = 163 → y_lm a k → ¬ k = 1 → M2 a k = M a k := fun a k q q2 q3 => (h2.2 a k (Or.inr (Or.inr ⟨q2, fun e => q3 e.2⟩))).trans (h1.2 a k (Or.inr (Or.inl (by omega))))
  refine y_j_mut hJ h2.1 (fun a k h => (h2.2 a k (Or.inr (Or.inl h))).trans (h1.2 a k (Or.inr (Or.inl (by omega))))) (fun k => (h2.2 164 k (Or.inr (Or.inr ⟨by unfold y_lm; omega, by omega⟩))).trans (h1.2 164 k (Or.inr (Or.inl (by omega))))) (fun k h => gm 163 k rfl (by unfold y_lm; omega) (by omega)) ?_
  exact y_rl_fr (r := 0) (r2 := 0) hJ.2.2.2.1 (gc _ _ (by omega) (by unfold y_lc; omega) (by omega)) (gc _ _ (by omega) (by unfold y_lc; omega) (by omega)) (gc _ _ (by omega) (by unfold y_lc; omega) (by omega)) (fun s s0 s1 => ⟨gc _ _ (by omega) (by unfold y_lc; omega) (by omega), gc _ _ (by omega) (by unfold y_lc; omega) (by omega)⟩) (fun i i0 i1 q => gm _ _ rfl (by unfold y_lm; omega) (by omega)) hn.1
/-- a change of the main town alone -/
theorem y_j_28 {z : Int} {P M M1 M2 : Int → Int → Int} (hJ : y_J z P M) (h1 : y_TL 2 M M1) (h2 : y_TL 8 M1 M2) (hR : y_RL 1 0 M2) : y_J z P M2 :=
  y_j_mut hJ h2.1 (fun a k h => (h2.2 a k (Or.inr (Or.inl h))).trans (h1.2 a k (Or.inr (by omega)))) (fun k => (h2.2 164 k (Or.inr (Or.inr (Or.inl rfl)))).trans (h1.2 164 k (Or.inr (by omega)))) (fun k h => (h2.2 163 k (Or.inr (Or.inr (Or.inr ⟨rfl, h⟩)))).trans (h1.2 163 k (Or.inr (by omega)))) hR
section
variable {z : Int} {P M : Int → Int → Int}
theorem j_n (hJ : y_J z P M) : M 1 1 = M 163 0 := hJ.2.2.2.1.1.1
theorem j_q (hJ : y_J z P M) : M 1 5 = M 163 2 := hJ.2.2.2.1.1.2.1
theorem j_h (hJ : y_J z P M) : M 1 6 = M 163 3 := hJ.2.2.2.1.1.2.2
theorem j_oc (hJ : y_J z P M) {s : Int} (h : 0 ≤ s ∧ s < 12) : M (3 + 7 * s) 5 = M 163 (25 + 80 * s) := by
  have := (hJ.2.2.2.1.2.1 s h.1 h.2).1
  rwa [show 1 + 2 + 7 * s = 3 + 7 * s by omega, show 0 + 25 + 80 * s = 25 + 80 * s by omega] at this
theorem j_dm (hJ : y_J z P M) {s : Int} (h : 0 ≤ s ∧ s < 12) : M (7 + 7 * s) 0 = M 163 (34 + 80 * s) := by
  have := (hJ.2.2.2.1.2.1 s h.1 h.2).2
  rwa [show 1 + 6 + 7 * s = 7 + 7 * s by omega, show 0 + 34 + 80 * s = 34 + 80 * s by omega] at this
theorem j_de (hJ : y_J z P M) {s : Int} (h : M 1 1 ≤ s ∧ s < 12) : M (7 + 7 * s) 0 = 0 := by
  have := hJ.2.2.2.1.2.2 s h.1 h.2
  rwa [show 1 + 6 + 7 * s = 7 + 7 * s by omega] at this
theorem y_rl_mk (n : M 1 1 = M 163 0) (q : M 1 5 = M 163 2) (h : M 1 6 = M 163 3) (oc : ∀ s, 0 ≤ s → s < 12 → M (3 + 7 * s) 5 = M 163 (25 + 80 * s)) (dm : ∀ s, 0 ≤ s → s < 12 → M (7 + 7 * s) 0 = M 163 (34 + 80 * s)) (de : ∀ s, M 1 1 ≤ s → s < 12 → M (7 + 7 * s) 0 = 0) : y_RL 1 0 M := by
  refine ⟨⟨n, q, h⟩, fun s s0 s1 => ⟨?_, ?_⟩, fun s s0 s1 => ?_⟩
  · rw [show 1 + 2 + 7 * s = 3 + 7 * s by omega, show 0 + 25 + 80 * s = 25 + 80 * s by omega]; exact oc s s0 s1
  · rw [show 1 + 6 + 7 * s = 7 + 7 * s by omega, show 0 + 34 + 80 * s = 34 + 80 * s by omega]; exact dm s s0 s1
  · rw [show 1 + 6 + 7 * s = 7 + 7 * s by omega]; exact de s s0 s1
end
/-! frames of the loops -/
theorem f_forget {s : Int} : ∀ (k : Nat) (M : Int → Int → Int) (h : Int), ∀ a j, a ≠ 8 + 7 * s → a ≠ 9 + 7 * s → (l_forget_a s k M h).1 a j = M a j := by
  intro k
  induction k with
  | zero => intro M h a j _ _; rfl
  | succ k ih =>
    intro M h a j h1 h2
    rw [l_forget_a]
    split
    · rfl
    · rw [ih _ _ _ _ h1 h2, x_up_ne h2, x_up_ne h1]
theorem f_ssa {s n : Int} : ∀ (k : Nat) (M : Int → Int → Int) (h : Int), ∀ a j, a ≠ 4 + 7 * s → (l_sSetUp_a s n k M h).1 a j = M a j := by
  intro k
  induction k with
  | zero => intro M h a j _; rfl
  | succ k ih =>
    intro M h a j h1
    rw [l_sSetUp_a]
    split
    · rfl
    · rw [ih _ _ _ _ h1, x_up_ne h1]
theorem f_ssb {s n : Int} : ∀ (k : Nat) (M : Int → Int → Int) (h : Int), ∀ a j, a ≠ 5 + 7 * s → (l_sSetUp_b s n k M h).1 a j = M a j := by
  intro k
  induction k with
  | zero => intro M h a j _; rfl
  | succ k ih =>
    intro M h a j h1
    rw [l_sSetUp_b]
    split
    · rfl
    · split
      · rw [ih _ _ _ _ h1, x_up_ne h1]
      · rw [ih _ _ _ _ h1, x_up_ne h1]
theorem f_nst {n s : Int} : ∀ (k : Nat) (M : Int → Int → Int) (d : Int), 0 ≤ d → ∀ a j, ¬ (a = 163 ∧ 11 + 80 * s + d ≤ j ∧ j < 11 + 80 * s + n) → (l_n_stand_a n s k M d).1 a j = M a j := by
  intro k
  induction k with
  | zero => intro M d _ a j _; rfl
  | succ k ih =>
    intro M d hd a j h1
    rw [l_n_stand_a]
    split
    · rfl
    · rw [ih _ _ (by omega) _ _ (by omega), x_up_no (by omega)]
theorem f_nde {a b d e : Int} : ∀ (k : Nat) (M : Int → Int → Int) (h : Int), 1 ≤ h → ∀ c j, ¬ (c = 163 ∧ 34 + 80 * a + h ≤ j ∧ j ≤ 82 + 80 * a) → (l_n_demand_a a b d e k M h).1 c j = M c j := by
  intro k
  induction k with
  | zero => intro M h _ c j _; rfl
  | succ k ih =>
    intro M h hh c j h1
    rw [l_n_demand_a]
    split
    · rfl
    · rw [ih _ _ (by omega) _ _ (by omega), x_up_no (by omega)]
theorem f_cah {i : Int} {M : Int → Int → Int} {a j : Int} (h : a ≠ 88 + i) : (u_chargeAnHour i M) a j = M a j := by
  unfold u_chargeAnHour
  repeat' split
  all_goals first | rfl | exact x_up_ne h
theorem f_xho : ∀ (k : Nat) (M : Int → Int → Int) (i : Int), 0 ≤ i → ∀ a j, a < 88 ∨ 162 ≤ a → M 1 3 ≤ 60 → (l_x_hour_a k M i).1 a j = M a j := by
  intro k
  induction k with
  | zero => intro M i _ a j _ _; rfl
  | succ k ih =>
    intro M i hi a j h1 h3
    rw [l_x_hour_a]
    split
    · rfl
    · split
      · exact ih _ _ (by omega) _ _ h1 h3
      · rw [ih _ _ (by omega) _ _ h1 (by rw [f_cah (by omega)]; exact h3), f_cah (by omega)]
theorem f_nho : ∀ (k : Nat) (M : Int → Int → Int) (i : Int), 0 ≤ i → ∀ a j, ¬ (a = 163 ∧ 1114 ≤ j) → (l_n_hour_a k M i).1 a j = M a j := by
  intro k
  induction k with
  | zero => intro M i _ a j _; rfl
  | succ k ih =>
    intro M i hi a j h1
    rw [l_n_hour_a]
    repeat' split
    all_goals first
      | rfl
      | exact ih _ _ (by omega) _ _ h1
      | (rw [ih _ _ (by omega) _ _ h1, x_up_no (by omega)])
