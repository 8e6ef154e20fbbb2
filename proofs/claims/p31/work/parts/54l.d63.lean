theorem Q_shortage {C A : Int → Int → Int} (h : y_B C A) (a : Int) : y_Qm A (u_n_shortage a A) := by
  have hn := h.i.n
  unfold u_n_shortage
  by_cases ha : 0 ≤ a ∧ a < A 163 0
  · rw [if_pos ha]
    have c0 : 0 ≤ v_m_cntD a (-2) A := by
      have P : ∀ (k : Nat) (n d : Int), n ≤ (l_m_cntD_a a (-2) A k n d).1 := by
        intro k
        induction k with
        | zero => intro n d; exact Int.le_refl n
        | succ k ih =>
          intro n d
          rw [l_m_cntD_a]
          have i1 := ih n (1 + d)
          have i2 := ih (1 + n) (1 + d)
          split
          · exact Int.le_refl n
          · split <;> (try split) <;> omega
      exact P 13 0 0
    have T := F_thr h 0 ha (w := 0) ⟨by omega, c0⟩
    rw [l_n_shortage_a, if_neg (show ¬ v_m_cntD a (-2) A < 0 by omega), if_pos (show (-1 : Int) < 0 by omega)]
    have S := F_sho h ha 13 (u_m_through a 0 A) 0 (u_m_through a 0 A 162 2) (1 + 0) T.2.2 T.2.1 (by omega)
    exact ⟨fun b k q1 q2 => S.2 b k (by omega), fun c c0 c1 => S.2 163 _ (by omega)⟩
  · rw [if_neg ha]; exact Qm_rf
theorem cl_ne {w a k : Int} {M : Int → Int → Int} (h : M 1 1 ≤ 12) (q : a = 1 ∨ 155 ≤ a) : u_clearDock w M a k = M a k := by
  unfold u_clearDock
  split
  · split
    · rfl
    · rw [fill_ne (by omega)]
  · rfl
theorem ln_ne {w p a k : Int} {M : Int → Int → Int} (h : M 1 1 ≤ 12) (hw : 0 ≤ w ∧ w < 60) (q : a = 1 ∨ 155 ≤ a) : u_lendOne1 w p M a k = M a k ∧ u_lendOne0 w M a k = M a k := by
  unfold u_lendOne1 u_lendOne0
  rw [x_up_ne (by omega), x_up_ne (by omega), move_ne (by omega), cl_ne h q, x_up_ne (by omega), x_up_ne (by omega), move_ne (by omega), cl_ne h q]
  exact ⟨rfl, rfl⟩
theorem Qc_hire {C A : Int → Int → Int} (h : y_B C A) (a b d : Int) : y_Qc C (u_x_hire a b d C) := by
  have hn := h.i.n
  have n := h.f.n
  have hW := h.i.nw
  have nw := h.f.nw
  have L0 : ∀ w, (0 ≤ w ∧ w < 60) → ∀ e k, 155 ≤ e → u_lend0 w C e k = C e k := fun w hw e k q => by
    unfold u_lend0
    have n3 : u_lendOne0 w C 1 3 = C 1 3 := (ln_ne (p := 0) (by omega) hw (Or.inl rfl)).2
    rw [P_lend0 _ _ _ (by omega) (by omega) _ _ (by omega)]
    exact (ln_ne (p := 0) (by omega) hw (Or.inr q)).2
  have L1 : ∀ w p, (0 ≤ w ∧ w < 60) → (0 ≤ p ∧ p < 60) → ∀ e k, 155 ≤ e → u_lend1 w p C e k = C e k := fun w p hw hp e k q => by
    unfold u_lend1
    have n1 : u_lendOne1 w p C 1 1 = C 1 1 := (ln_ne (by omega) hw (Or.inl rfl)).1
    have n3 : u_lendOne1 p w (u_lendOne1 w p C) 1 3 = C 1 3 := ((ln_ne (by omega) hp (Or.inl rfl)).1).trans (ln_ne (by omega) hw (Or.inl rfl)).1
    rw [P_lend1 _ _ _ (by omega) (by omega) _ _ (by omega)]
    exact ((ln_ne (by omega) hp (Or.inr q)).1).trans (ln_ne (by omega) hw (Or.inr q)).1
  intro e k q
  unfold u_x_hire
  by_cases c1 : ((0 ≤ a ∧ a < C 1 1) ∧ 0 ≤ b ∧ b < C (3 + 7 * a) 1) ∧ 0 ≤ C (4 + 7 * a) b ∧ C (4 + 7 * a) b < C 1 3
  · rw [if_pos c1]
    have w0 : 0 ≤ C (4 + 7 * a) b ∧ C (4 + 7 * a) b < 60 := by omega
    repeat' split
    all_goals first | rfl | exact L0 _ w0 e k q | exact L1 _ _ w0 (by omega) e k q
  · rw [if_neg c1]
theorem nh_row {a b d w c : Int} : ∀ (k : Nat) (M : Int → Int → Int) (e : Int) (b2 j : Int), b2 ≠ 163 → (l_n_hire_a a b d w c k M e).1 b2 j = M b2 j := by
  intro k
  induction k with
  | zero => intro M e b2 j h; rfl
  | succ k ih =>
    intro M e b2 j h
    rw [l_n_hire_a]
    split
    · rfl
    · split
      · exact ih _ _ _ _ h
      · split
        · exact ih _ _ _ _ h
        · rw [ih _ _ _ _ h, x_up_ne h]
theorem nd_row {w p b j : Int} {A : Int → Int → Int} (h : b ≠ 163) : u_m_hired w p A b j = A b j := by
  rw [P_hired, if_neg (by omega), if_neg (by omega), if_neg (by omega), if_neg (by omega), P_leaves, if_neg (by omega)]
theorem Qm_hire {C A : Int → Int → Int} (h : y_B C A) (a b d : Int) : y_Qm A (u_n_hire a b d A) := by
  have hn := h.i.n
  have hW := h.i.nw
  unfold u_n_hire
  by_cases c1 : (0 ≤ a ∧ a < A 163 0) ∧ 0 ≤ b ∧ b < A 163 (10 + 80 * a)
  · rw [if_pos c1]
    have hD := h.i.dk a c1.1.1 (by omega) c1.1.2
    by_cases c2 : 0 ≤ A 163 (11 + 80 * a + b)
    · rw [if_pos c2]
      have cr := h.i.cr a b c1.1.1 (by omega) c1.2.1 (by omega) c1.1.2 c1.2.2
      have ct := h.i.ct a b _ c1.1.1 (by omega) c1.2.1 (by omega) c2 (by omega) c1.1.2 c1.2.2 rfl
      generalize A 163 (11 + 80 * a + b) = w at *
      have hw : 0 ≤ w ∧ w < A 163 1 := ⟨c2, cr.2⟩
      have X := X_of h.i
      have ONE : ∀ p, y_Qm A (u_m_hired w p A) := fun p => Qm_any (fun b j q => nd_row q) (fun k q => by
        by_cases z : 1116 + 8 * w ≤ k ∧ k < 1122 + 8 * w
        · omega
        · exact (R_hired X hw ct.1).1 k (by omega) z)
      have E1 : ∀ p, u_m_hired w p A 163 1 = A 163 1 := fun p => (R_hired X hw ct.1).1 1 (by omega) (by omega)
      have LP : ∀ c M, M 163 1 ≤ 60 → y_Qm M (l_n_hire_a a b d w c 61 M 0).1 := fun c M hM => Qm_any (fun b j q => nh_row _ _ _ _ _ q) (fun k q => P_nhire 61 M 0 (by omega) hM k (by omega))
      have N0 : ∀ c p, y_Qm A (l_n_hire_a a b d w c 61 (u_m_hired w p A) 0).1 := fun c p => Qm_tr (ONE p) (LP c _ (by rw [E1]; exact hW.2))
      split
      · split
        · split
          · split
            · exact N0 _ _
            · by_cases c4 : (0 ≤ a ∧ a < A 163 0) ∧ 0 ≤ d ∧ d < A 163 (10 + 80 * a)
              · rw [if_pos c4]
                by_cases c5 : A 163 (11 + 80 * a + d) < 0
                · rw [if_pos c5]; exact Qm_rf
                · rw [if_neg c5]
                  have cr2 := h.i.cr a d c1.1.1 (by omega) c4.2.1 (by omega) c1.1.2 c4.2.2
                  have ct2 := h.i.ct a d _ c1.1.1 (by omega) c4.2.1 (by omega) (by omega) (by omega) c1.1.2 c4.2.2 rfl
                  generalize A 163 (11 + 80 * a + d) = c at *
                  by_cases c6 : ¬ A 163 (1114 + 8 * c) = 3
                  · rw [if_pos c6]; exact Qm_rf
                  · rw [if_neg c6]
                    split
                    · have wc : c ≠ w := by intro z; rw [z] at c6; omega
                      have Bx := (Bx_hired (p := c) (Bx_of h) hw ct.1).x
                      have e2 : u_m_hired w c A 163 (1116 + 8 * c) = 0 := ((R_hired X hw ct.1).1 _ (by omega) (by omega)).trans ct2.1
                      have R2 := R_hired (w := c) (p := w) Bx (by rw [E1]; exact ⟨by omega, cr2.2⟩) e2
                      have TWO : y_Qm (u_m_hired w c A) (u_m_hired c w (u_m_hired w c A)) := Qm_any (fun b j q => nd_row q) (fun k q => by
                        by_cases z : 1116 + 8 * c ≤ k ∧ k < 1122 + 8 * c
                        · omega
                        · exact R2.1 k (by omega) z)
                      exact Qm_tr (Qm_tr (ONE c) TWO) (LP c _ (by rw [R2.1 1 (by omega) (by omega), E1]; exact hW.2))
                    · exact Qm_rf
              · rw [if_neg c4]; exact Qm_rf
          · exact Qm_rf
        · exact Qm_rf
      · exact Qm_rf
    · rw [if_neg c2]; exact Qm_rf
  · rw [if_neg c1]; exact Qm_rf
theorem Q_hire {C A : Int → Int → Int} (h : y_B C A) (a b d : Int) : y_Qc C (u_x_hire a b d C) ∧ y_Qm A (u_n_hire a b d A) := ⟨Qc_hire h a b d, Qm_hire h a b d⟩
/-! end -/
theorem arr_row {w c s b j : Int} {A : Int → Int → Int} (h : b ≠ 163) : u_m_arrives w c s A b j = A b j := by
  have cm := fun (x s d : Int) (M : Int → Int → Int) => show u_m_comes x s d M b j = M b j from by rw [P_comes, if_neg (by omega), if_neg (by omega), if_neg (by omega), if_neg (by omega)]
  unfold u_m_arrives
  repeat' split
  all_goals first | rfl | (rw [x_up_ne h, x_up_ne h, x_up_ne h, P_leaves, if_neg (by omega), cm]) | (rw [cm, cm]) | (rw [cm])
theorem go_row {w l b j : Int} {A : Int → Int → Int} (h : b ≠ 163) : u_m_goes w l A b j = A b j := by
  unfold u_m_goes
  split <;> rw [x_up_ne h]
theorem ne_row {a b c b2 x : Int} (h : b2 ≠ 163) : ∀ (k : Nat) (M : Int → Int → Int) (p j th mo : Int), (l_n_end_a a b c k M p j th mo).1 b2 x = M b2 x := by
  intro k
  induction k with
  | zero => intro M p j th mo; rfl
  | succ k ih =>
    intro M p j th mo
    rw [l_n_end_a]
    split
    · rfl
    · split
      · rw [ih, x_up_ne h]
      · split <;> rw [ih, arr_row h, go_row h, x_up_ne h]
theorem gl_ne {V : Int → (Int → Int → Int) → Int} {U : Int → (Int → Int → Int) → Int → Int → Int} {f : Int} (H : ∀ s M b k, (0 ≤ s ∧ s < 12) → (b = 1 ∨ 155 ≤ b) → U s M b k = M b k) : ∀ (k : Nat) (M : Int → Int → Int) (h rd dk i : Int), M 1 1 ≤ 12 → ∀ b x, (b = 1 ∨ 155 ≤ b) → (gl V U f k M h rd dk i).1 b x = M b x := by
  intro k
  induction k with
  | zero => intro M h rd dk i hM b x q; rfl
  | succ k ih =>
    intro M h rd dk i hM b x q
    rw [gl]
    split
    · rfl
    · split
      · rfl
      · split
        · rename_i z
          rw [ih _ _ _ _ _ (by rw [H _ _ _ _ ⟨z.1, by omega⟩ (Or.inl rfl)]; exact hM) b x q, H _ _ _ _ ⟨z.1, by omega⟩ q]
        · exact ih _ _ _ _ _ hM b x q
theorem Qc_end {C A : Int → Int → Int} (h : y_B C A) (a b : Int) : y_Qc C (u_x_end a b C) := by
  have hn := h.i.n
  have n := h.f.n
  have hW := h.i.nw
  have nw := h.f.nw
  intro e k q
  unfold u_x_end
  by_cases ha : 0 ≤ a ∧ a < C 1 3
  · rw [if_pos ha]
    by_cases hb : 0 ≤ b ∧ b < C 1 1
    · rw [if_pos hb]
      have D0 : ∀ s M b k, (0 ≤ s ∧ s < 12) → (b = 1 ∨ 155 ≤ b) → u_docksBoth0 a s M b k = M b k := fun s M b k hs q => by
        unfold u_docksBoth0
        split
        · rw [put_ne (by omega) (by omega)]
        · rw [x_up_ne (by omega)]
      have D1 : ∀ p, (0 ≤ p ∧ p < 60) → ∀ s M b k, (0 ≤ s ∧ s < 12) → (b = 1 ∨ 155 ≤ b) → u_docksBoth1 a p s M b k = M b k := fun p hp s M b k hs q => by
        unfold u_docksBoth1
        split
        · split
          · rw [put_ne (by omega) (by omega), put_ne (by omega) (by omega), fill_ne (by omega)]
          · rw [x_up_ne (by omega), fill_ne (by omega), fill_ne (by omega)]
        · rw [x_up_ne (by omega)]
      have BB : u_bringBack a b C e k = C e k := by
        unfold u_bringBack u_ride u_leaveOnStreet0 u_leaveOnStreet1
        by_cases hp : 0 ≤ (C (88 + a) 9) ∧ (C (88 + a) 9) < C 1 3
        · have G := fun dk rd => gl_ne (V := v_docksBoth1 a (C (88 + a) 9)) (f := b) (D1 _ ⟨hp.1, by omega⟩) 9 (u_docksBoth1 a (C (88 + a) 9) b C) b rd dk 0 (by rw [D1 _ ⟨hp.1, by omega⟩ b C 1 1 ⟨hb.1, by omega⟩ (Or.inl rfl)]; omega) e k (Or.inr q)
          have G2 := D1 _ ⟨hp.1, by omega⟩ b C e k ⟨hb.1, by omega⟩ (Or.inr q)
          rw [if_pos hp, gl_b]
          split
          · rw [x_up_ne (by omega), x_up_ne (by omega), x_up_ne (by omega), G, G2]
          · rw [x_up_ne (by omega), x_up_ne (by omega), x_up_ne (by omega), move_ne (by omega), move_ne (by omega), G, G2]
        · have G := fun dk rd => gl_ne (V := v_docksBoth0 a) (f := b) D0 9 (u_docksBoth0 a b C) b rd dk 0 (by rw [D0 b C 1 1 ⟨hb.1, by omega⟩ (Or.inl rfl)]; omega) e k (Or.inr q)
          have G2 := D0 b C e k ⟨hb.1, by omega⟩ (Or.inr q)
          rw [if_neg hp, gl_a]
          split
          · rw [x_up_ne (by omega), x_up_ne (by omega), G, G2]
          · rw [x_up_ne (by omega), x_up_ne (by omega), move_ne (by omega), G, G2]
      repeat' split
      all_goals first | rfl | exact BB
    · rw [if_neg hb]
  · rw [if_neg ha]; split <;> rfl
theorem Qm_end {C A : Int → Int → Int} (h : y_B C A) (a b : Int) : y_Qm A (u_n_end a b A) := by
  have hn := h.i.n
  have hW := h.i.nw
  by_cases ha : 0 ≤ a ∧ a < A 163 1
  · by_cases hp : A 163 (1116 + 8 * a) = 2
    · by_cases hk : A 163 (1114 + 8 * a) = 3
      · unfold u_n_end
        rw [if_pos ha, if_neg (fun z => z hp), if_pos hk]; exact Qm_rf
      · by_cases hb : 0 ≤ b ∧ b < A 163 0
        · have hi := hi_of h.i.toy_IW hW.2 ha hp hk rfl
          have key : ∃ C2 A2 h2 rd2 dk2 i2 j2, l_n_end_a a b (A 163 (1121 + 8 * a)) 20 (u_m_arrives a (A 163 (1121 + 8 * a)) b (u_m_goes a (A 163 (970 + 12 * A 163 (1117 + 8 * a) + b)) A)) b 0 (v_m_arrives a (A 163 (1121 + 8 * a)) b (u_m_goes a (A 163 (970 + 12 * A 163 (1117 + 8 * a) + b)) A)) (if (v_m_arrives a (A 163 (1121 + 8 * a)) b (u_m_goes a (A 163 (970 + 12 * A 163 (1117 + 8 * a) + b)) A)) = 0 then 1 else 0) = (A2, h2, j2, dk2, 0) ∧ y_fx a (A 163 (1121 + 8 * a)) A A2 ∧ (C2 : Int) = rd2 ∧ (i2 : Int) = (i2 : Int) := by
            rcases hi.2.2.2.2 with hc | hc
            · rw [hc] at hi ⊢
              obtain ⟨C2, A2, h2, rd2, dk2, i2, j2, a1, a2, a3, a4, a5, a6, a7, a8⟩ := end_go ARR0 h hi hb
              exact ⟨0, A2, h2, 0, dk2, i2, j2, a2, a7, rfl, rfl⟩
            · obtain ⟨C2, A2, h2, rd2, dk2, i2, j2, a1, a2, a3, a4, a5, a6, a7, a8⟩ := end_go (ARR1 hc.1.1) h hi hb
              exact ⟨0, A2, h2, 0, dk2, i2, j2, a2, a7, rfl, rfl⟩
          obtain ⟨C2, A2, h2, rd2, dk2, i2, j2, a2, a7, _, _⟩ := key
          have N := (N_end ha hp hk hb rfl rfl rfl a2).2
          rw [N]
          have cr : A 163 (1121 + 8 * a) = -1 ∨ (0 ≤ A 163 (1121 + 8 * a) ∧ A 163 (1121 + 8 * a) < 60) := by
            rcases hi.2.2.2.2 with z | z
            · exact Or.inl z
            · exact Or.inr ⟨z.1.1, by omega⟩
          have q2 : y_Qm A A2 := Qm_any (fun b2 k q => by
            have e := congrArg (fun t => t.1 b2 k) a2
            rw [← show _ = A2 b2 k from e]
            show (l_n_end_a _ _ _ _ _ _ _ _ _).1 b2 k = _
            rw [ne_row q, arr_row q, go_row q]) (fun k q => a7 k (by omega) (by omega) (by omega))
          have st : ∀ w M, (0 ≤ w ∧ w < 60) → y_Qm M (u_m_streets w h2 M) := fun w M hw => by unfold u_m_streets; (repeat' first | exact Qm_rf | exact Qm_up (by omega) | refine Qm_tr ?_ (Qm_up (by omega)) | split)
          have u1 : ∀ M w, (0 ≤ w ∧ w < 60) → y_Qm M (x_up M 163 (1121 + 8 * w) (-1)) := fun M w hw => Qm_up (by omega)
          have ra : 0 ≤ a ∧ a < 60 := ⟨ha.1, by omega⟩
          by_cases hc : A 163 (1121 + 8 * a) < 0
          · rw [if_pos hc]
            refine Qm_tr ?_ (u1 _ a ra)
            split
            · exact Qm_tr q2 (st a A2 ra)
            · exact q2
          · rw [if_neg hc]
            have rc : 0 ≤ A 163 (1121 + 8 * a) ∧ A 163 (1121 + 8 * a) < 60 := by omega
            refine Qm_tr (Qm_tr ?_ (u1 _ a ra)) (u1 _ _ rc)
            split
            · exact Qm_tr (Qm_tr q2 (st a A2 ra)) (st _ _ rc)
            · exact q2
        · unfold u_n_end
          rw [if_pos ha, if_neg (fun z => z hp), if_neg hk, if_neg hb]; exact Qm_rf
    · unfold u_n_end
      rw [if_pos ha, if_pos hp]; exact Qm_rf
  · unfold u_n_end
    rw [if_neg ha]; exact Qm_rf
theorem Q_end {C A : Int → Int → Int} (h : y_B C A) (a b : Int) : y_Qc C (u_x_end a b C) ∧ y_Qm A (u_n_end a b A) := ⟨Qc_end h a b, Qm_end h a b⟩
/-! carts -/
theorem Q_cart {C A : Int → Int → Int} (h : y_B C A) (a b : Int) : y_Qc C (u_x_cart a b C) ∧ (∀ b2 k, b2 ≠ 163 → u_n_cart a b A b2 k = A b2 k) ∧ ∀ B, 0 ≤ B → y_g B A → y_g B (u_n_cart a b A) := by
  have hN := h.i.nc
  have nc := h.f.nc
  unfold u_x_cart u_n_cart u_addCart u_cSetUp
  refine ⟨fun b k q => ?_, fun b k q => ?_, fun B hB g => ?_⟩
  · (repeat' first | rw [x_up_ne (by omega)] | rw [put_ne (by omega) (by omega)] | rw [move_ne (by omega)] | rw [fill_ne (by omega)] | rfl | split)
  · (repeat' first | rw [x_up_ne (by omega)] | rw [put_ne (by omega) (by omega)] | rw [move_ne (by omega)] | rw [fill_ne (by omega)] | rfl | split)
  · split
    · exact g
    · split
      · exact g
      · split
        · exact g
        · split
          · intro c c0 c1
            have gc := g c c0 c1
            by_cases w : c = A 163 2
            · rw [x_up_nk (by omega), x_up_nk (by omega), w, x_up_self]; omega
            · rw [x_up_nk (by omega), x_up_nk (by omega), x_up_nk (by omega), x_up_nk (by omega), x_up_nk (by omega)]; exact gc
          · exact g
theorem Q_drive {C A : Int → Int → Int} (h : y_B C A) (a b : Int) : y_Qc C (u_x_drive a b C) ∧ (∀ b2 k, b2 ≠ 163 → u_n_drive a b A b2 k = A b2 k) ∧ ∀ B, 0 ≤ B → B ≤ 900000000 → y_g B A → y_g (B + 999) (u_n_drive a b A) := by
  have hN := h.i.nc
  have nc := h.f.nc
  have hn := h.i.n
  unfold u_x_drive u_n_drive u_moveCart
  refine ⟨fun b k q => ?_, fun b k q => ?_, fun B hB hB2 g => ?_⟩
  · (repeat' first | rw [x_up_ne (by omega)] | rw [put_ne (by omega) (by omega)] | rw [move_ne (by omega)] | rw [fill_ne (by omega)] | rfl | split)
  · (repeat' first | rw [x_up_ne (by omega)] | rw [put_ne (by omega) (by omega)] | rw [move_ne (by omega)] | rw [fill_ne (by omega)] | rfl | split)
  · have g2 : y_g (B + 999) A := fun c c0 c1 => by have := g c c0 c1; omega
    by_cases ha : 0 ≤ a ∧ a < A 163 2
    · rw [if_pos ha]
      by_cases hb : 0 ≤ b ∧ b < A 163 0
      · rw [if_pos hb]
        have kl := h.i.kl a ha.1 (by omega) ha.2
        have ln := h.i.ln (A 163 (1595 + 12 * a)) b kl.2.1 (by omega) hb.1 (by omega)
        intro c c0 c1
        have gc := g c c0 c1
        by_cases w : c = a
        · subst w
          rw [x_up_nk (by omega), x_up_self, x_wn (w := A 163 (1596 + 12 * c) + A 163 (970 + 12 * A 163 (1595 + 12 * c) + b)) ⟨rfl, by omega, by omega⟩]; omega
        · rw [x_up_nk (by omega), x_up_nk (by omega)]; exact g2 c c0 c1
      · rw [if_neg hb]; exact g2
    · rw [if_neg ha]; exact g2
