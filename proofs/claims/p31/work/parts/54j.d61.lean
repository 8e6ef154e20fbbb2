/-! CARRY, whole -/
def y_g (B : Int) (A : Int → Int → Int) : Prop := ∀ c, 0 ≤ c → c < 3 → 0 ≤ A 163 (1596 + 12 * c) ∧ A 163 (1596 + 12 * c) ≤ B
theorem cntW_c2 {A A2 : Int → Int → Int} {t : Int} (hW : 0 ≤ A 163 1 ∧ A 163 1 ≤ 60) (e : ∀ x, (x = 1 ∨ (1114 ≤ x ∧ x < 1594)) → A2 163 x = A 163 x) : v_m_cntW t 0 1 A2 = v_m_cntW t 0 1 A := by
  unfold v_m_cntW
  have P : ∀ (k : Nat) (n d : Int), 0 ≤ d → l_m_cntW_a t 0 1 A2 k n d = l_m_cntW_a t 0 1 A k n d := by
    intro k
    induction k with
    | zero => intro n d z; rfl
    | succ k ih =>
      intro n d z
      rw [l_m_cntW_a, l_m_cntW_a, e 1 (by omega)]
      by_cases q : A 163 1 ≤ d
      · rw [if_pos q, if_pos q]
      · rw [if_neg q, if_neg q, e _ (by omega), e _ (by omega), e _ (by omega), ih _ _ (by omega), ih _ _ (by omega)]
  rw [P _ _ _ (by omega)]
theorem sv {C A : Int → Int → Int} (h : y_B C A) {a s ln j : Int} (ha : 0 ≤ a ∧ a < A 163 2) (hs : 0 ≤ s ∧ s < A 163 0) (hg : 0 ≤ A 163 (1596 + 12 * a) ∧ A 163 (1596 + 12 * a) ≤ 1000000000) (ho : v_m_over s A = y_ov A s) : ∃ A3, (l_n_carry_c a ln j s 100 (l_n_carry_b a ln j s (v_n_drive a s A) 13 (u_n_drive a s A) (v_m_over s (u_n_drive a s A)) 0).1 (v_n_drive a s A) (l_n_carry_b a ln j s (v_n_drive a s A) 13 (u_n_drive a s A) (v_m_over s (u_n_drive a s A)) 0).2.1).1 = A3 ∧ y_B (u_serve a s C) A3 ∧ (∀ b k, 155 ≤ b → u_serve a s C b k = C b k) ∧ (∀ b k, b ≠ 163 → A3 b k = A b k) ∧ (∀ x, (x < 11 ∨ (13 ≤ (x - 10) % 80 ∧ x < 970) ∨ ((x - 10) % 80 = 0 ∧ x < 970) ∨ (970 ≤ x ∧ x < 1114) ∨ (1594 ≤ x ∧ (x - 1594) % 12 < 3)) → ¬ (x = 1595 + 12 * a ∨ x = 1596 + 12 * a) → A3 163 x = A 163 x) ∧ (0 ≤ A3 163 (1596 + 12 * a) ∧ A3 163 (1596 + 12 * a) ≤ A 163 (1596 + 12 * a) + 999) ∧ ∀ t, t ≠ s → v_m_cntW t 0 1 A3 = v_m_cntW t 0 1 A := by
  have hn := h.i.n
  have hN := h.i.nc
  have hW := h.i.nw
  have kl := h.i.kl a ha.1 (by omega) ha.2
  have O := O_drive h a s
  have ln1 := h.i.ln (A 163 (1595 + 12 * a)) s kl.2.1 (by omega) hs.1 (by omega)
  have eC : u_x_drive a s C = u_moveCart a s C := by
    unfold u_x_drive
    rw [h.f.nc, h.f.n, if_pos ha, if_pos hs]
  have eg : v_n_drive a s A = A 163 (1596 + 12 * a) + A 163 (970 + 12 * A 163 (1595 + 12 * a) + s) := by
    unfold v_n_drive
    rw [if_pos ha, if_pos hs]
    exact x_wn ⟨rfl, by omega, by omega⟩
  have eA : u_n_drive a s A = x_up (x_up A 163 (1596 + 12 * a) (A 163 (1596 + 12 * a) + A 163 (970 + 12 * A 163 (1595 + 12 * a) + s))) 163 (1595 + 12 * a) s := by
    unfold u_n_drive
    rw [if_pos ha, if_pos hs, x_wn (w := A 163 (1596 + 12 * a) + A 163 (970 + 12 * A 163 (1595 + 12 * a) + s)) ⟨rfl, by omega, by omega⟩]
  have B1 := O.2
  rw [eC] at B1
  have g0 : 0 ≤ v_n_drive a s A := by rw [eg]; omega
  have g1 : u_n_drive a s A 163 (1596 + 12 * a) = A 163 (1596 + 12 * a) + A 163 (970 + 12 * A 163 (1595 + 12 * a) + s) := by rw [eA, x_up_nk (by omega), x_up_self]
  have g2 : u_n_drive a s A 163 (1595 + 12 * a) = s := by rw [eA, x_up_self]
  have fx : ∀ b k, ¬ (b = 163 ∧ (k = 1595 + 12 * a ∨ k = 1596 + 12 * a)) → u_n_drive a s A b k = A b k := fun b k q => by rw [eA, x_up_no (by omega), x_up_no (by omega)]
  have cw : ∀ t, v_m_cntW t 0 1 (u_n_drive a s A) = v_m_cntW t 0 1 A := fun t => cntW_c2 hW (fun x q => fx 163 x (by omega))
  have oc : v_m_over s (u_n_drive a s A) = v_m_over s A := over_cg (fx _ _ (by omega)) (fun j => fx _ _ (by omega)) (fun j => fx _ _ (by omega))
  have vc : y_ov (u_n_drive a s A) s = y_ov A s := by unfold y_ov; rw [cw, fx _ _ (by omega)]
  have n0 : u_n_drive a s A 163 0 = A 163 0 := fx _ _ (by omega)
  have n2 : u_n_drive a s A 163 2 = A 163 2 := fx _ _ (by omega)
  have SU := F_sur B1 (i := s) (by rw [n0]; exact hs)
  have mc : ∀ b k, 155 ≤ b → u_moveCart a s C b k = C b k := fun b k q => by unfold u_moveCart; rw [x_up_ne (by omega), x_up_ne (by omega)]
  revert B1 g0 g1 g2 fx cw oc vc n0 n2 SU
  generalize v_n_drive a s A = go
  generalize u_n_drive a s A = A1
  intro B1 g0 g1 g2 fx cw oc vc n0 n2 SU
  have CA := ca_a (ln := ln) (j := j) (go := go) (s := s) 13 (u_moveCart a s C) A1 (y_ov A1 s) 0 B1 (by rw [n2]; exact ha) g2 (by omega)
  rw [oc, ho, ← vc]
  have eS : u_serve a s C = (l_serve_b a s ((l_serve_a a s 13 ((u_moveCart a s C)) (v_surplusAt s ((u_moveCart a s C))) 0).2.1) 100 ((l_serve_a a s 13 ((u_moveCart a s C)) (v_surplusAt s ((u_moveCart a s C))) 0).1) (-((l_serve_a a s 13 ((u_moveCart a s C)) (v_surplusAt s ((u_moveCart a s C))) 0).2.1))).1 := by
    unfold u_serve
    rw [h.f.n, if_pos hs]
  rw [eS, SU]
  revert CA
  generalize l_serve_a a s 13 (u_moveCart a s C) (y_ov A1 s) 0 = X
  generalize l_n_carry_b a ln j s go 13 A1 (y_ov A1 s) 0 = Y
  intro CA
  obtain ⟨c1, c2, c3, c4⟩ := CA
  rw [c2]
  have CB := ca_b (ln := ln) (j := j) (s := s) (sp := Y.2.1) 100 X.1 Y.1 go Y.2.1 c1 (by rw [c3.f 2 (by omega) (by omega), n2]; exact ha) (by rw [c3.g.1]; exact g2) g0
  have V := V_tr c3 CB.2.1
  refine ⟨_, rfl, CB.1, fun b k q => by rw [CB.2.2 b k q, c4 b k q, mc b k q], fun b k q => by rw [V.o b k q, fx b k (by omega)], fun x q q2 => by rw [V.f x q q2, fx _ _ (by omega)], ?_, fun t q => by rw [V.w t q, cw]⟩
  rw [V.g.2, g1]; omega
theorem ca_go {a ln l2 : Int} : ∀ (k : Nat) (C A : Int → Int → Int) (j : Nat) (B : Int), y_B C A → y_R C A → (0 ≤ a ∧ a < A 163 2) → (∀ x : Nat, j ≤ x → (x : Int) < A 162 11 → (0 ≤ A 169 (x : Int) ∧ A 169 (x : Int) < A 163 0) ∧ v_m_over (A 169 (x : Int)) A = y_ov A (A 169 (x : Int))) → (∀ k l : Nat, k < l → (l : Int) < A 162 11 → A 169 (k : Int) ≠ A 169 (l : Int)) → y_g (B + 999 * (j : Int)) A → j ≤ 7 → 0 ≤ B → B ≤ 900000000 → y_B (l_x_carry_a a a l2 k C (j : Int)).1 (l_n_carry_a a ln k A (j : Int)).1 ∧ y_R (l_x_carry_a a a l2 k C (j : Int)).1 (l_n_carry_a a ln k A (j : Int)).1 ∧ y_g (B + 6993) (l_n_carry_a a ln k A (j : Int)).1 := by
  intro k
  induction k with
  | zero => intro C A j B h r ha st ne g hj hb hb2; exact ⟨h, r, fun c c0 c1 => by have := g c c0 c1; exact ⟨this.1, by have := this.2; show A 163 _ ≤ _; omega⟩⟩
  | succ k ih =>
    intro C A j B h r ha st ne g hj hb hb2
    have hN := h.i.nc
    have hW := h.i.nw
    have hn := h.i.n
    rw [l_x_carry_a, l_n_carry_a, r.1]
    by_cases q : A 162 11 ≤ (j : Int)
    · rw [if_pos q, if_pos q]; exact ⟨h, r, fun c c0 c1 => by have := g c c0 c1; exact ⟨this.1, by have := this.2; show A 163 _ ≤ _; omega⟩⟩
    · rw [if_neg q, if_neg q]
      have s := st j (Nat.le_refl j) (by omega)
      have e7 := r.2.1.2
      have es : v_stopAt (j : Int) C = A 169 (j : Int) := by
        unfold v_stopAt
        rw [r.1, if_neg (by omega), if_neg (by omega), if_neg (by omega)]
        exact r.2.2 _ (by omega) (by omega)
      have gg := g a ha.1 (by omega)
      rw [es]
      obtain ⟨A3, a1, a2, a3, a4, a5, a6, a7⟩ := sv h (a := a) (s := A 169 (j : Int)) (ln := ln) (j := (j : Int)) ha s.1 ⟨gg.1, by omega⟩ s.2
      rw [a1, show (1 : Int) + (j : Int) = ((j + 1 : Nat) : Int) by omega]
      have z11 : A3 162 11 = A 162 11 := a4 _ _ (by omega)
      have z69 : ∀ x, A3 169 x = A 169 x := fun x => a4 _ _ (by omega)
      refine ih (u_serve a (A 169 (j : Int)) C) A3 (j + 1) B a2 (R_cong r (a3 _ _ (by omega)) (fun k => a3 _ _ (by omega)) z11 z69) (by rw [a5 2 (by omega) (by omega)]; exact ha) (fun x x1 x2 => ?_) (fun x y xy y1 => ?_) (fun c c0 c1 => ?_) (by omega) hb hb2
      · rw [z11] at x2
        have t := st x (by omega) x2
        have nx := ne j x (by omega) x2
        rw [z69, a5 0 (by omega) (by omega)]
        refine ⟨t.1, ?_⟩
        have o : v_m_over (A 169 (x : Int)) A3 = v_m_over (A 169 (x : Int)) A := over_cg (a4 _ _ (by omega)) (fun j => a4 _ _ (by omega)) (fun j => a4 _ _ (by omega))
        rw [o, t.2]
        unfold y_ov
        rw [a7 _ (fun z => nx z.symm), a5 (24 + 80 * A 169 (x : Int)) (by omega) (by omega)]
      · rw [z11] at y1; rw [z69, z69]; exact ne x y xy y1
      · have gc := g c c0 c1
        by_cases w : c = a
        · subst w; omega
        · rw [a5 (1596 + 12 * c) (by omega) (by omega)]; omega
theorem O_carry {C A : Int → Int → Int} (h : y_B C A) (r : y_R C A) {B : Int} (g : y_g B A) (hb : 0 ≤ B) (hb2 : B ≤ 900000000) (a : Int) : v_x_carry a C = v_n_carry a A ∧ y_B (u_x_carry a C) (u_n_carry a A) ∧ y_R (u_x_carry a C) (u_n_carry a A) ∧ y_g (B + 6993) (u_n_carry a A) := by
  have hN := h.i.nc
  have P := O_plan h r a
  obtain ⟨p1, p2, p3, p4, p5, p6⟩ := P
  have gP : y_g (B + 999 * ((0 : Nat) : Int)) (u_n_plan a A) := fun c c0 c1 => by rw [p6]; have := g c c0 c1; exact ⟨this.1, by omega⟩
  have gQ : y_g (B + 6993) (u_n_plan a A) := fun c c0 c1 => by rw [p6]; have := g c c0 c1; exact ⟨this.1, by omega⟩
  unfold v_x_plan at p1
  unfold u_x_plan at p2 p3
  rw [h.f.nc] at p1 p2 p3
  unfold v_x_carry u_x_carry v_n_carry u_n_carry
  rw [h.f.nc]
  by_cases ha : 0 ≤ a ∧ a < A 163 2
  · rw [if_pos ha] at p1 p2 p3
    rw [if_pos ha, if_pos ha, p1]
    by_cases q : v_n_plan a A = -1
    · rw [if_pos q, if_pos q, if_neg (show ¬ 0 ≤ v_n_plan a A by omega), if_neg (show ¬ 0 ≤ v_n_plan a A by omega)]
      exact ⟨rfl, p2, p3, gQ⟩
    · rw [if_neg q, if_neg q, if_pos (show 0 ≤ v_n_plan a A by omega), if_pos (show 0 ≤ v_n_plan a A by omega)]
      have Y := p4 (by omega)
      have I := ca_go (a := a) (ln := v_n_plan a A) (l2 := v_n_plan a A) 8 (u_prepare1 a C) (u_n_plan a A) 0 B p2 p3 (by rw [p6]; exact ha) (fun x x0 x1 => Y.st x x1) Y.ne gP (by omega) hb hb2
      exact ⟨rfl, I.1, I.2.1, I.2.2⟩
  · rw [if_neg ha] at p1 p2 p3
    rw [if_neg ha, if_neg ha]
    have v1 : v_n_plan a A = -1 := by unfold v_n_plan; rw [if_neg ha]
    rw [if_neg (show ¬ 0 ≤ v_n_plan a A by omega), if_neg (show ¬ 0 ≤ v_n_plan a A by omega), ite_self, ite_self]
    exact ⟨rfl, p2, p3, gQ⟩
