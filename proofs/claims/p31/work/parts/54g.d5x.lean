/-! PLAN -/
def y_ov (A : Int → Int → Int) (i : Int) : Int := if A 163 (24 + 80 * i) < 0 then 0 else v_m_cntW i 0 1 A - A 163 (24 + 80 * i)
theorem cntW_in {A : Int → Int → Int} {s p x : Int} : 0 ≤ v_m_cntW s p x A ∧ v_m_cntW s p x A ≤ 61 := by
  have P : ∀ (k : Nat) (n d : Int), n ≤ (l_m_cntW_a s p x A k n d).1 ∧ (l_m_cntW_a s p x A k n d).1 ≤ n + (k : Int) := by
    intro k
    induction k with
    | zero => intro n d; show n ≤ n ∧ n ≤ n + 0; omega
    | succ k ih =>
      intro n d
      rw [l_m_cntW_a]
      have i1 := ih n (1 + d)
      have i2 := ih (1 + n) (1 + d)
      repeat' split
      all_goals first | omega | (show n ≤ n ∧ n ≤ n + _; omega)
  have := P 61 0 0
  unfold v_m_cntW
  omega
theorem ov_cg {A A2 : Int → Int → Int} {i : Int} (e : ∀ j, A2 163 j = A 163 j) : y_ov A2 i = y_ov A i := by
  unfold y_ov; rw [e, cntW_cg e]
theorem F_sur {C A : Int → Int → Int} (h : y_B C A) {i : Int} (hi : 0 ≤ i ∧ i < A 163 0) : v_surplusAt i C = y_ov A i := by
  have hn := h.i.n
  have wa := h.i.wa i hi.1 (by omega) hi.2
  unfold v_surplusAt y_ov
  rw [h.f.wa i hi.1 (by omega), F_mov h.f h.i.nw.2]
  by_cases q : A 163 (24 + 80 * i) = -1
  · rw [if_neg (by omega), if_pos (by omega)]
  · rw [if_pos q, if_neg (by omega)]
theorem ov_in {C A : Int → Int → Int} (h : y_B C A) {i : Int} (hi : 0 ≤ i ∧ i < A 163 0) : -100 ≤ y_ov A i ∧ y_ov A i ≤ 100 := by
  have hn := h.i.n
  have wa := h.i.wa i hi.1 (by omega) hi.2
  have := cntW_in (A := A) (s := i) (p := 0) (x := 1)
  unfold y_ov
  split <;> omega
theorem fi_step {M : Int → Int → Int} {s : Int} (k : Nat) (hw : -1 ≤ M 163 (24 + 80 * s)) : l_m_finds_a (k + 1) M s = if M 163 0 ≤ s then (M, s) else if y_ov M s = 0 then l_m_finds_a k M (1 + s) else l_m_finds_a k ((x_up ((x_up ((x_up M 165 (M 162 7) s)) 166 (M 162 7) (y_ov M s))) 162 7 (1 + M 162 7))) (1 + s) := by
  rw [l_m_finds_a]
  unfold y_ov
  by_cases q : M 163 0 ≤ s
  · rw [if_pos q, if_pos q]
  · rw [if_neg q, if_neg q]
    by_cases q1 : M 163 (24 + 80 * s) < 0
    · rw [if_pos q1, if_pos q1, if_pos rfl]
    · rw [if_neg q1, if_neg q1]
      by_cases q2 : M 163 (24 + 80 * s) = v_m_cntW s 0 1 M
      · rw [if_neg (by omega), if_pos (by omega)]
      · rw [if_pos q2, if_neg (by omega)]
theorem fi_mono {A : Int → Int → Int} (wa : ∀ s, 0 ≤ s → s < A 163 0 → -1 ≤ A 163 (24 + 80 * s)) : ∀ (k : Nat) (M : Int → Int → Int) (s : Int), (∀ j, M 163 j = A 163 j) → 0 ≤ s → M 162 7 ≤ (l_m_finds_a k M s).1 162 7 ∧ (∀ j, j < M 162 7 → (l_m_finds_a k M s).1 165 j = M 165 j ∧ (l_m_finds_a k M s).1 166 j = M 166 j) ∧ ∀ a j, a ≠ 165 → a ≠ 166 → ¬ (a = 162 ∧ j = 7) → (l_m_finds_a k M s).1 a j = M a j := by
  intro k
  induction k with
  | zero => intro M s e h0; exact ⟨Int.le_refl _, fun j hj => ⟨rfl, rfl⟩, fun a j _ _ _ => rfl⟩
  | succ k ih =>
    intro M s e h0
    by_cases q : M 163 0 ≤ s
    · rw [l_m_finds_a, if_pos q]; exact ⟨Int.le_refl _, fun j hj => ⟨rfl, rfl⟩, fun a j _ _ _ => rfl⟩
    · rw [fi_step k (by rw [e]; exact wa s h0 (by rw [← e]; omega)), if_neg q]
      by_cases q2 : y_ov M s = 0
      · rw [if_pos q2]; exact ih M (1 + s) e (by omega)
      · rw [if_neg q2]
        have I := ih ((x_up ((x_up ((x_up M 165 (M 162 7) s)) 166 (M 162 7) (y_ov M s))) 162 7 (1 + M 162 7))) (1 + s) (fun j => by rw [x_up_ne (by omega), x_up_ne (by omega), x_up_ne (by omega)]; exact e j) (by omega)
        rw [x_up_self] at I
        refine ⟨by omega, fun j hj => ?_, fun a j a1 a2 a3 => ?_⟩
        · have := I.2.1 j (by omega)
          rw [this.1, this.2, x_up_ne (by omega), x_up_ne (by omega), x_up_nk (by omega), x_up_ne (by omega), x_up_nk (by omega), x_up_ne (by omega)]
          exact ⟨rfl, rfl⟩
        · rw [I.2.2 a j a1 a2 a3, x_up_no a3, x_up_ne a2, x_up_ne a1]
/-- the rows that both gather -/
def y_G (A M D : Int → Int → Int) (c : Nat) (i : Int) : Prop := (M 156 4 = (c : Int)) ∧ (D 162 7 = (c : Int)) ∧ (∀ k : Nat, k < c → M 158 (k : Int) = D 165 (k : Int)) ∧ (∀ k : Nat, k < c → M 159 (k : Int) = D 166 (k : Int)) ∧ (∀ k : Nat, k < c → 0 ≤ D 165 (k : Int) ∧ D 165 (k : Int) < i) ∧ (∀ k : Nat, k < c → D 166 (k : Int) = y_ov A (D 165 (k : Int))) ∧ (∀ k l : Nat, k < l → l < c → D 165 (k : Int) < D 165 (l : Int)) ∧ (∀ k : Nat, k < c → -D 166 (k : Int) ≤ v_m_cntD (D 165 (k : Int)) (-1) A)
theorem y_G.c1 {A M D : Int → Int → Int} {c : Nat} {i : Int} (h : y_G A M D c i) : M 156 4 = (c : Int) := h.1
theorem y_G.c2 {A M D : Int → Int → Int} {c : Nat} {i : Int} (h : y_G A M D c i) : D 162 7 = (c : Int) := h.2.1
theorem y_G.r1 {A M D : Int → Int → Int} {c : Nat} {i : Int} (h : y_G A M D c i) : ∀ k : Nat, k < c → M 158 (k : Int) = D 165 (k : Int) := h.2.2.1
theorem y_G.r2 {A M D : Int → Int → Int} {c : Nat} {i : Int} (h : y_G A M D c i) : ∀ k : Nat, k < c → M 159 (k : Int) = D 166 (k : Int) := h.2.2.2.1
theorem y_G.r3 {A M D : Int → Int → Int} {c : Nat} {i : Int} (h : y_G A M D c i) : ∀ k : Nat, k < c → 0 ≤ D 165 (k : Int) ∧ D 165 (k : Int) < i := h.2.2.2.2.1
theorem y_G.r4 {A M D : Int → Int → Int} {c : Nat} {i : Int} (h : y_G A M D c i) : ∀ k : Nat, k < c → D 166 (k : Int) = y_ov A (D 165 (k : Int)) := h.2.2.2.2.2.1
theorem y_G.r5 {A M D : Int → Int → Int} {c : Nat} {i : Int} (h : y_G A M D c i) : ∀ k l : Nat, k < l → l < c → D 165 (k : Int) < D 165 (l : Int) := h.2.2.2.2.2.2.1
theorem y_G.r6 {A M D : Int → Int → Int} {c : Nat} {i : Int} (h : y_G A M D c i) : ∀ k : Nat, k < c → -D 166 (k : Int) ≤ v_m_cntD (D 165 (k : Int)) (-1) A := h.2.2.2.2.2.2.2
theorem ga {C A : Int → Int → Int} (h : y_B C A) : ∀ (u : Nat) (M D : Int → Int → Int) (c : Nat) (i : Int), A 163 0 - i < (u : Int) → 0 ≤ i → i ≤ A 163 0 → c ≤ 7 → (∀ a k, a < 155 → M a k = C a k) → (∀ j, D 163 j = A 163 j) → y_G A M D c i → (∀ a k, a ≠ 158 → a ≠ 159 → ¬ (a = 156 ∧ k = 4) → z_gather_a u M i a k = M a k) ∧ ((w_gather_a u M i = 1 ∧ ∃ n : Nat, n ≤ 7 ∧ y_G A (z_gather_a u M i) (l_m_finds_a u D i).1 n (A 163 0)) ∨ (w_gather_a u M i = 0 ∧ (7 < (l_m_finds_a u D i).1 162 7 ∨ ∃ k : Nat, (k : Int) < (l_m_finds_a u D i).1 162 7 ∧ ¬ -(l_m_finds_a u D i).1 166 (k : Int) ≤ v_m_cntD ((l_m_finds_a u D i).1 165 (k : Int)) (-1) A))) := by
  intro u
  have hn := h.i.n
  have wa : ∀ s, 0 ≤ s → s < A 163 0 → -1 ≤ A 163 (24 + 80 * s) := fun s s0 s1 => (h.i.wa s s0 (by omega) s1).1
  induction u with
  | zero => intro M D c i z1 z2 z3; omega
  | succ u ih =>
    intro M D c i z1 z2 z3 z4 e1 e2 g
    have m1 : M 1 1 = A 163 0 := (e1 1 1 (by omega)).trans h.f.n
    rw [w_gather_a, z_gather_a, m1]
    by_cases q : A 163 0 ≤ i
    · rw [if_pos q, if_pos q, l_m_finds_a, e2, if_pos q]
      have : i = A 163 0 := by omega
      subst this
      exact ⟨fun a k _ _ _ => rfl, Or.inl ⟨rfl, c, z4, g⟩⟩
    · have hM : y_B M A := B_cong h (fun a k _ q2 => e1 a k q2) (fun k _ _ => rfl)
      have hi : 0 ≤ i ∧ i < A 163 0 := ⟨z2, by omega⟩
      have hD := h.i.dk i hi.1 (by omega) hi.2
      rw [if_neg q, if_neg q, F_sur hM hi, F_free hM.f ⟨hi.1, by omega⟩ hD.2, fi_step u (by rw [e2]; exact wa i hi.1 hi.2), e2, if_neg q, ov_cg e2, g.c1, g.c2]
      by_cases q2 : y_ov A i = 0
      · rw [if_pos q2, if_pos q2, if_pos q2]
        exact ih M D c (1 + i) (by omega) (by omega) (by omega) z4 e1 e2 ⟨g.c1, g.c2, g.r1, g.r2, fun k hk => by have := g.r3 k hk; omega, g.r4, g.r5, g.r6⟩
      · rw [if_neg q2, if_neg q2, if_neg q2]
        have e2' : ∀ j, (x_up (x_up (x_up D 165 (c : Int) i) 166 (c : Int) (y_ov A i)) 162 7 (1 + (c : Int))) 163 j = A 163 j := fun j => by rw [x_up_ne (by omega), x_up_ne (by omega), x_up_ne (by omega)]; exact e2 j
        have mono := fi_mono wa u (x_up (x_up (x_up D 165 (c : Int) i) 166 (c : Int) (y_ov A i)) 162 7 (1 + (c : Int))) (1 + i) e2' (by omega)
        rw [x_up_self] at mono
        by_cases q3 : (7 : Int) ≤ (c : Int)
        · rw [if_pos q3, if_pos q3]
          exact ⟨fun a k _ _ _ => rfl, Or.inr ⟨rfl, Or.inl (by omega)⟩⟩
        · rw [if_neg q3, if_neg q3]
          by_cases q4 : -y_ov A i ≤ v_m_cntD i (-1) A
          · rw [if_pos q4, if_pos q4]
            have I := ih (x_up (x_up (x_up M 158 (c : Int) i) 159 (c : Int) (y_ov A i)) 156 4 (1 + (c : Int))) (x_up (x_up (x_up D 165 (c : Int) i) 166 (c : Int) (y_ov A i)) 162 7 (1 + (c : Int))) (c + 1) (1 + i) (by omega) (by omega) (by omega) (by omega) (fun a k q => by rw [x_up_ne (by omega), x_up_ne (by omega), x_up_ne (by omega)]; exact e1 a k q) e2' ?_
            · exact ⟨fun a k a1 a2 a3 => by rw [I.1 a k a1 a2 a3, x_up_no a3, x_up_ne a2, x_up_ne a1], I.2⟩
            · have d5 : ∀ k : Nat, (x_up (x_up (x_up D 165 (c : Int) i) 166 (c : Int) (y_ov A i)) 162 7 (1 + (c : Int))) 165 (k : Int) = if k = c then i else D 165 (k : Int) := fun k => by
                rw [x_up_ne (by omega), x_up_ne (by omega)]
                by_cases w : k = c
                · subst w; rw [x_up_self, if_pos rfl]
                · rw [x_up_nk (by omega), if_neg w]
              have d6 : ∀ k : Nat, (x_up (x_up (x_up D 165 (c : Int) i) 166 (c : Int) (y_ov A i)) 162 7 (1 + (c : Int))) 166 (k : Int) = if k = c then y_ov A i else D 166 (k : Int) := fun k => by
                rw [x_up_ne (by omega)]
                by_cases w : k = c
                · subst w; rw [x_up_self, if_pos rfl]
                · rw [x_up_nk (by omega), if_neg w, x_up_ne (by omega)]
              have m5 : ∀ k : Nat, (x_up (x_up (x_up M 158 (c : Int) i) 159 (c : Int) (y_ov A i)) 156 4 (1 + (c : Int))) 158 (k : Int) = if k = c then i else M 158 (k : Int) := fun k => by
                rw [x_up_ne (by omega), x_up_ne (by omega)]
                by_cases w : k = c
                · subst w; rw [x_up_self, if_pos rfl]
                · rw [x_up_nk (by omega), if_neg w]
              have m6 : ∀ k : Nat, (x_up (x_up (x_up M 158 (c : Int) i) 159 (c : Int) (y_ov A i)) 156 4 (1 + (c : Int))) 159 (k : Int) = if k = c then y_ov A i else M 159 (k : Int) := fun k => by
                rw [x_up_ne (by omega)]
                by_cases w : k = c
                · subst w; rw [x_up_self, if_pos rfl]
                · rw [x_up_nk (by omega), if_neg w, x_up_ne (by omega)]
              refine ⟨by rw [x_up_self]; omega, by rw [x_up_self]; omega, fun k hk => ?_, fun k hk => ?_, fun k hk => ?_, fun k hk => ?_, fun k l kl hl => ?_, fun k hk => ?_⟩
              · rw [m5, d5]; split
                · rfl
                · exact g.r1 k (by omega)
              · rw [m6, d6]; split
                · rfl
                · exact g.r2 k (by omega)
              · rw [d5]; split
                · omega
                · have := g.r3 k (by omega); omega
              · rw [d5, d6]; split
                · rfl
                · exact g.r4 k (by omega)
              · rw [d5, d5, if_neg (show ¬ k = c by omega)]; split
                · exact (g.r3 k (by omega)).2
                · exact g.r5 k l kl (by omega)
              · rw [d5, d6]; split
                · exact q4
                · exact g.r6 k (by omega)
          · rw [if_neg q4, if_neg q4]
            refine ⟨fun a k _ _ _ => rfl, Or.inr ⟨rfl, Or.inr ⟨c, by omega, ?_⟩⟩⟩
            have := mono.2.1 (c : Int) (by omega)
            rw [this.1, this.2, x_up_ne (a := 162) (b := 166) (by omega), x_up_self, x_up_ne (a := 162) (b := 165) (by omega), x_up_ne (a := 166) (b := 165) (by omega), x_up_self]
            exact q4
theorem pb_fr (a : Int) : ∀ (k : Nat) (M : Int → Int → Int) (j : Int) (b x : Int), b ≠ 167 → (l_n_plan_b a k M j).1 b x = M b x := by
  intro k
  induction k with
  | zero => intro M j b x h; rfl
  | succ k ih =>
    intro M j b x h
    rw [l_n_plan_b]
    split
    · rfl
    · rw [ih _ _ _ _ h, x_up_ne h]
theorem wz_bad {a : Int} {A D : Int → Int → Int} (e : ∀ j, D 163 j = A 163 j) {b : Nat} (hb : (b : Int) < D 162 7) (hbad : ¬ -D 166 (b : Int) ≤ v_m_cntD (D 165 (b : Int)) (-1) A) : ∀ (u : Nat) (j : Nat), j ≤ b → w_n_plan_a a (u + (b - j) + 1) D (j : Int) = -1 ∧ z_n_plan_a a (u + (b - j) + 1) D (j : Int) = D := by
  have key : ∀ (w : Nat) (u : Nat) (j : Nat), b - j = w → j ≤ b → w_n_plan_a a (u + w + 1) D (j : Int) = -1 ∧ z_n_plan_a a (u + w + 1) D (j : Int) = D := by
    intro w
    induction w with
    | zero =>
      intro u j h1 h2
      have : j = b := by omega
      subst this
      rw [w_n_plan_a, z_n_plan_a, if_neg (show ¬ D 162 7 ≤ (j : Int) by omega), if_neg (show ¬ D 162 7 ≤ (j : Int) by omega), cntD_cg e, if_neg hbad, if_neg hbad]
      exact ⟨rfl, rfl⟩
    | succ w ih =>
      intro u j h1 h2
      rw [w_n_plan_a, z_n_plan_a, if_neg (show ¬ D 162 7 ≤ (j : Int) by omega), if_neg (show ¬ D 162 7 ≤ (j : Int) by omega)]
      by_cases q : -D 166 (j : Int) ≤ v_m_cntD (D 165 (j : Int)) (-1) D
      · rw [if_pos q, if_pos q, show (1 : Int) + (j : Int) = ((j + 1 : Nat) : Int) by omega, show u + (w + 1) = u + w + 1 by omega]
        exact ih u (j + 1) (by omega) (by omega)
      · rw [if_neg q, if_neg q]; exact ⟨rfl, rfl⟩
  intro u j h
  exact key (b - j) u j rfl h
theorem wz_ok {a : Int} {A D : Int → Int → Int} (e : ∀ j, D 163 j = A 163 j) {n : Nat} (hn : D 162 7 = (n : Int)) (ok : ∀ k : Nat, k < n → -D 166 (k : Int) ≤ v_m_cntD (D 165 (k : Int)) (-1) A) : ∀ (w u : Nat) (j : Nat), n - j = w → j ≤ n → w_n_plan_a a (u + w + 1) D (j : Int) = (if 0 ≤ (l_n_plan_c a 6000000 ((l_n_plan_b a 8 D 0).1) ((-1)) 1).2.1 then (l_n_plan_c a 6000000 ((l_n_plan_b a 8 D 0).1) ((-1)) 1).2.1 else (-1)) ∧ z_n_plan_a a (u + w + 1) D (j : Int) = (if 0 ≤ (l_n_plan_c a 6000000 ((l_n_plan_b a 8 D 0).1) ((-1)) 1).2.1 then (l_n_plan_e a ((l_n_plan_c a 6000000 ((l_n_plan_b a 8 D 0).1) ((-1)) 1).2.1) ((l_n_plan_c a 6000000 ((l_n_plan_b a 8 D 0).1) ((-1)) 1).2.2) 8 ((x_up ((l_n_plan_c a 6000000 ((l_n_plan_b a 8 D 0).1) ((-1)) 1).1) 162 11 (((l_n_plan_c a 6000000 ((l_n_plan_b a 8 D 0).1) ((-1)) 1).1) 162 7))) 0).1 else (l_n_plan_c a 6000000 ((l_n_plan_b a 8 D 0).1) ((-1)) 1).1) := by
  intro w
  induction w with
  | zero =>
    intro u j h1 h2
    have : j = n := by omega
    subst this
    rw [w_n_plan_a, z_n_plan_a, if_pos (show D 162 7 ≤ (j : Int) by omega), if_pos (show D 162 7 ≤ (j : Int) by omega)]
    exact ⟨rfl, rfl⟩
  | succ w ih =>
    intro u j h1 h2
    have q : -D 166 (j : Int) ≤ v_m_cntD (D 165 (j : Int)) (-1) D := by rw [cntD_cg e]; exact ok j (by omega)
    rw [w_n_plan_a, z_n_plan_a, if_neg (show ¬ D 162 7 ≤ (j : Int) by omega), if_neg (show ¬ D 162 7 ≤ (j : Int) by omega), if_pos q, if_pos q, show (1 : Int) + (j : Int) = ((j + 1 : Nat) : Int) by omega, show u + (w + 1) = u + w + 1 by omega]
    exact ih u (j + 1) (by omega) (by omega)
