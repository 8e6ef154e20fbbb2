/-! PLAN: the model's orders -/
theorem tu_a {M M2 : Int → Int → Int} {n : Int} (h : ∀ j, 0 ≤ j → j < n → M 167 j = M2 167 j) : ∀ (k : Nat) (j : Int), j ≤ n - 2 → l_m_turns_a M k j = l_m_turns_a M2 k j := by
  intro k
  induction k with
  | zero => intro j z; rfl
  | succ k ih =>
    intro j z
    rw [l_m_turns_a, l_m_turns_a]
    by_cases q : j < 0
    · rw [if_pos q, if_pos q]
    · rw [if_neg q, if_neg q, h j (by omega) (by omega), h (1 + j) (by omega) (by omega), ih _ (by omega)]
theorem tu_b {M M2 : Int → Int → Int} {n i0 : Int} (h : ∀ j, 0 ≤ j → j < n → M 167 j = M2 167 j) (h0 : 0 ≤ i0) (hm : M 167 i0 ≤ M 167 (1 + i0)) : ∀ (k : Nat) (i : Int), 1 + i0 ≤ i → i < n → l_m_turns_b i0 M k i = l_m_turns_b i0 M2 k i := by
  intro k
  induction k with
  | zero => intro i z1 z2; rfl
  | succ k ih =>
    intro i z1 z2
    rw [l_m_turns_b, l_m_turns_b, ← h i0 (by omega) (by omega), ← h i (by omega) (by omega)]
    by_cases q : M 167 i0 ≤ M 167 i
    · rw [if_pos q, if_pos q]
    · rw [if_neg q, if_neg q]
      have : i ≠ 1 + i0 := by intro z; rw [z] at q; exact q hm
      exact ih _ (by omega) (by omega)
theorem tu_c {j i v n : Int} : ∀ (k : Nat) (M M2 : Int → Int → Int) (p t : Int), (∀ j, 0 ≤ j → j < n → M 167 j = M2 167 j) → 0 ≤ p → t < n → ∀ x, 0 ≤ x → x < n → (l_m_turns_c j i v k M p t).1 167 x = (l_m_turns_c j i v k M2 p t).1 167 x := by
  intro k
  induction k with
  | zero => intro M M2 p t h z1 z2 x x0 x1; exact h x x0 x1
  | succ k ih =>
    intro M M2 p t h z1 z2 x x0 x1
    rw [l_m_turns_c, l_m_turns_c]
    by_cases q : t ≤ p
    · rw [if_pos q, if_pos q]; exact h x x0 x1
    · rw [if_neg q, if_neg q]
      refine ih _ _ _ _ (fun y y0 y1 => ?_) (by omega) (by omega) x x0 x1
      simp only [x_up]
      rw [h p z1 (by omega), h t (by omega) z2, h y y0 y1]
theorem tu_cf {j i v : Int} : ∀ (k : Nat) (M : Int → Int → Int) (p t : Int) (a x : Int), a ≠ 167 → (l_m_turns_c j i v k M p t).1 a x = M a x := by
  intro k
  induction k with
  | zero => intro M p t a x h; rfl
  | succ k ih =>
    intro M p t a x h
    rw [l_m_turns_c]
    split
    · rfl
    · rw [ih _ _ _ _ _ h, x_up_ne h, x_up_ne h]
theorem tu_fr {M : Int → Int → Int} {a x : Int} (h : a ≠ 167) : u_m_turns M a x = M a x := by
  unfold u_m_turns
  split
  · rw [tu_cf _ _ _ _ _ _ h, x_up_ne h, x_up_ne h]
  · rfl
theorem tu_cg {M M2 : Int → Int → Int} {n : Int} (h7 : M 162 7 = n) (h72 : M2 162 7 = n) (hn : n ≤ 7) (h : ∀ j, 0 ≤ j → j < n → M 167 j = M2 167 j) : v_m_turns M = v_m_turns M2 ∧ ∀ x, 0 ≤ x → x < n → u_m_turns M 167 x = u_m_turns M2 167 x := by
  unfold v_m_turns u_m_turns
  rw [h7, h72, ← tu_a h 9 (-2 + n) (by omega)]
  refine ⟨rfl, fun x x0 x1 => ?_⟩
  by_cases q : 0 ≤ l_m_turns_a M 9 (-2 + n)
  · by_cases n0 : n < 0
    · omega
    have A := y_la (M := M) 9 (-2 + n) (by omega) (by omega)
    rw [if_pos q, if_pos q]
    have m := A.2 q
    have A1 := A.1
    generalize l_m_turns_a M 9 (-2 + n) = i0 at *
    rw [← tu_b h q m 9 (-1 + n) (by omega) (by omega)]
    have B := y_lb m 9 (-1 + n) (by omega) (by omega)
    have B1 := B.1
    generalize l_m_turns_b i0 M 9 (-1 + n) = i1 at *
    have e0 := h i0 (by omega) (by omega)
    rw [← e0]
    refine tu_c 9 _ _ _ _ (fun y y0 y1 => ?_) (by omega) (by omega) x x0 x1
    simp only [x_up]
    rw [h y y0 y1, h i1 (by omega) (by omega)]
  · rw [if_neg q, if_neg q]; exact h x x0 x1
/-- the order that stands in the row -/
def pl_is (n : Nat) (M : Int → Int → Int) (l : List Nat) : Prop := M 162 7 = (n : Int) ∧ ∀ j : Nat, j < n → M 167 (j : Int) = ((l.getD j 0 : Nat) : Int)
theorem pl_is_cm {n : Nat} {M : Int → Int → Int} {l : List Nat} (h : pl_is n M l) : ∀ j, 0 ≤ j → j < (n : Int) → M 167 j = pl_cm n l 167 j := by
  intro j j0 j1
  have := h.2 j.toNat (by omega)
  rw [show ((j.toNat : Nat) : Int) = j by omega] at this
  rw [this]; unfold pl_cm; rw [if_pos rfl]
theorem pl_step {n : Nat} {M : Int → Int → Int} {l l2 : List Nat} {r : List (List Nat)} (hn : n < 8) (h : pl_is n M l) (hc : pl_ch n (l :: l2 :: r) = true) : v_m_turns M = 1 ∧ pl_is n (u_m_turns M) l2 ∧ pl_ch n (l2 :: r) = true := by
  have C := tu_cg (n := (n : Int)) h.1 (show pl_cm n l 162 7 = (n : Int) by unfold pl_cm; rw [if_neg (by omega)]) (by omega) (pl_is_cm h)
  simp only [pl_ch, Bool.and_eq_true, decide_eq_true_eq, List.all_eq_true, List.mem_range] at hc
  refine ⟨C.1.trans hc.1.1, ⟨?_, fun j hj => ?_⟩, hc.2⟩
  · rw [tu_fr (by omega)]; exact h.1
  · rw [C.2 j (by omega) (by omega)]; exact hc.1.2 j hj
theorem pl_last {n : Nat} {M : Int → Int → Int} {l : List Nat} (hn : n < 8) (h : pl_is n M l) (hc : pl_ch n [l] = true) : v_m_turns M = 0 := by
  have C := tu_cg (n := (n : Int)) h.1 (show pl_cm n l 162 7 = (n : Int) by unfold pl_cm; rw [if_neg (by omega)]) (by omega) (pl_is_cm h)
  simp only [pl_ch, decide_eq_true_eq] at hc
  exact C.1.trans hc
/-- the length -/
theorem pl_W_0 {T S : Nat → Int} {fa : Int → Int → Int} {ld : Int} {n : Nat} (hf : ∀ i j, i < n → j < n → 0 ≤ fa (T i) (T j)) : ∀ (l : List Nat) (h g v : Int), (∀ i, i ∈ l → i < n) → (∀ j, j < n → 0 ≤ fa h (T j)) → pl_W T S fa ld h g l = some v → 0 ≤ v := by
  intro l
  induction l with
  | nil => intro h g v hl hh e; rw [pl_W] at e; split at e <;> cases e; omega
  | cons i l ih =>
    intro h g v hl hh e
    have hi := hl i (List.mem_cons_self ..)
    rw [pl_W] at e
    split at e
    · cases e
    · split at e
      · cases hw : pl_W T S fa ld (T i) (g + S i) l with
        | none => rw [hw] at e; cases e
        | some u =>
          rw [hw] at e
          cases e
          have := ih (T i) (g + S i) u (fun j hj => hl j (List.mem_cons_of_mem _ hj)) (fun j hj => hf i j hi hj) hw
          have := hh i hi
          show 0 ≤ fa h (T i) + u
          omega
      · cases e
theorem pl_len {n : Nat} {M : Int → Int → Int} {c ld : Int} {T S : Nat → Int} {fa : Int → Int → Int} (h7 : M 162 7 = (n : Int)) (hld : M 163 (1594 + 12 * c) = ld) (hT : ∀ i, i < n → M 165 (i : Int) = T i) (hS : ∀ i, i < n → M 166 (i : Int) = S i) (hfa : ∀ a b, M 163 (970 + 12 * a + b) = fa a b) : ∀ (l : List Nat) (k : Nat) (h g sm : Int) (j : Nat), j + l.length = n → l.length < k → (∀ i, i ∈ l → i < n) → (∀ i, i < l.length → M 167 ((j + i : Nat) : Int) = ((l.getD i 0 : Nat) : Int)) → w_m_len_a c M k h g sm (j : Int) = match pl_W T S fa ld h g l with | none => -1 | some v => sm + v := by
  intro l
  induction l with
  | nil =>
    intro k h g sm j z1 z2 z3 z4
    cases k with
    | zero => cases z2
    | succ k =>
      have : j = n := by simpa using z1
      rw [w_m_len_a, h7, if_pos (by omega), pl_W]
      by_cases q : g = 0
      · rw [if_neg (by omega), if_pos q]; show sm = sm + 0; omega
      · rw [if_pos q, if_neg q]
  | cons i l ih =>
    intro k h g sm j z1 z2 z3 z4
    rw [List.length_cons] at z1 z2
    cases k with
    | zero => cases z2
    | succ k =>
      have hi := z3 i (List.mem_cons_self ..)
      have e := z4 0 (by rw [List.length_cons]; omega)
      rw [Nat.add_zero] at e
      have e : M 167 (j : Int) = (i : Int) := e
      rw [w_m_len_a, h7, if_neg (by omega), e, hS i hi, hT i hi, hld, pl_W]
      by_cases q : g + S i < 0
      · rw [if_pos q, if_pos q]
      · rw [if_neg q, if_neg q]
        by_cases q2 : g + S i ≤ ld
        · rw [if_pos q2, if_pos q2, hfa]
          have I := ih k (T i) (g + S i) (sm + fa h (T i)) (j + 1) (by omega) (by omega) (fun x hx => z3 x (List.mem_cons_of_mem _ hx)) (fun x hx => by
            have := z4 (x + 1) (by rw [List.length_cons]; omega)
            rw [show j + 1 + x = j + (x + 1) by omega]
            exact this)
          rw [show (1 : Int) + (j : Int) = ((j + 1 : Nat) : Int) by omega, I]
          cases pl_W T S fa ld (T i) (g + S i) l with
          | none => rfl
          | some v => show sm + fa h (T i) + v = sm + (fa h (T i) + v); omega
        · rw [if_neg q2, if_neg q2]
theorem pl_d {a le mo ll : Int} : ∀ (k : Nat) (M : Int → Int → Int) (j : Int), 0 ≤ j → M 162 7 - j < (k : Int) → ∀ b x, (l_n_plan_d a le mo ll k M j).1 b x = if b = 168 ∧ j ≤ x ∧ x < M 162 7 then M 165 (M 167 x) else M b x := by
  intro k
  induction k with
  | zero => intro M j z1 z2 b x; show M b x = _; rw [if_neg (by omega)]
  | succ k ih =>
    intro M j z1 z2 b x
    rw [l_n_plan_d]
    by_cases q : M 162 7 ≤ j
    · rw [if_pos q, if_neg (by omega)]
    · rw [if_neg q, ih _ _ (by omega) (by rw [x_up_ne (by omega)]; omega), x_up_ne (show (162 : Int) ≠ 168 by omega), x_up_ne (show (165 : Int) ≠ 168 by omega), x_up_ne (show (167 : Int) ≠ 168 by omega)]
      by_cases q2 : b = 168 ∧ x = j
      · rw [if_neg (by omega), if_pos (by omega), q2.1, q2.2, x_up_self]
      · rw [x_up_no (by omega)]
        by_cases q3 : b = 168 ∧ 1 + j ≤ x ∧ x < M 162 7
        · rw [if_pos q3, if_pos (by omega)]
        · rw [if_neg q3, if_neg (by omega)]
theorem pl_e {a le mo : Int} : ∀ (k : Nat) (M : Int → Int → Int) (j : Int), 0 ≤ j → M 162 7 - j < (k : Int) → ∀ b x, (l_n_plan_e a le mo k M j).1 b x = if b = 169 ∧ j ≤ x ∧ x < M 162 7 then M 168 x else M b x := by
  intro k
  induction k with
  | zero => intro M j z1 z2 b x; show M b x = _; rw [if_neg (by omega)]
  | succ k ih =>
    intro M j z1 z2 b x
    rw [l_n_plan_e]
    by_cases q : M 162 7 ≤ j
    · rw [if_pos q, if_neg (by omega)]
    · rw [if_neg q, ih _ _ (by omega) (by rw [x_up_ne (by omega)]; omega), x_up_ne (show (162 : Int) ≠ 169 by omega), x_up_ne (show (168 : Int) ≠ 169 by omega)]
      by_cases q2 : b = 169 ∧ x = j
      · rw [if_neg (by omega), if_pos (by omega), q2.1, q2.2, x_up_self]
      · rw [x_up_no (by omega)]
        by_cases q3 : b = 169 ∧ 1 + j ≤ x ∧ x < M 162 7
        · rw [if_pos q3, if_pos (by omega)]
        · rw [if_neg q3, if_neg (by omega)]
/-- the best that stands in the row -/
def pl_st (n : Nat) (T : Nat → Int) (M : Int → Int → Int) (le : Int) (o : Option (Int × List Nat)) : Prop := match o with | none => le = -1 | some p => le = p.1 ∧ 0 ≤ p.1 ∧ ∀ j : Nat, j < n → M 168 (j : Int) = T (p.2.getD j 0)
theorem pl_loop {n : Nat} {a ld : Int} {T S : Nat → Int} {fa : Int → Int → Int} (hn : n < 8) (hf : ∀ i j, i < n → j < n → 0 ≤ fa (T i) (T j)) (h0 : Int) (hh : ∀ j, j < n → 0 ≤ fa h0 (T j)) : ∀ (L : List (List Nat)) (l : List Nat) (k : Nat) (M : Int → Int → Int) (le : Int) (o : Option (Int × List Nat)), L.length + 1 < k → pl_ch n (l :: L) = true → (∀ x, x ∈ l :: L → x.length = n ∧ ∀ i, i ∈ x → i < n) → pl_is n M l → M 163 (1594 + 12 * a) = ld → M 163 (1595 + 12 * a) = h0 → (∀ i, i < n → M 165 (i : Int) = T i) → (∀ i, i < n → M 166 (i : Int) = S i) → (∀ a b, M 163 (970 + 12 * a + b) = fa a b) → pl_st n T M le o → pl_st n T (l_n_plan_c a k M le 1).1 (l_n_plan_c a k M le 1).2.1 (pl_cb o (pl_bo (pl_W T S fa ld h0 0) (l :: L))) ∧ ∀ b x, b ≠ 167 → b ≠ 168 → (l_n_plan_c a k M le 1).1 b x = M b x := by
  intro L
  induction L with
  | nil =>
    intro l k M le o z1 z2 z3 z4 z5 z6 z7 z8 z9 zA
    cases k with
    | zero => cases z1
    | succ k =>
      have wl := z3 l (List.mem_cons_self ..)
      have len := pl_len z4.1 z5 z7 z8 z9 l 8 h0 0 0 0 (by omega) (by omega) wl.2 (fun i hi => by rw [Nat.zero_add]; exact z4.2 i (by omega))
      have len : v_m_len a M = match pl_W T S fa ld h0 0 l with | none => -1 | some v => 0 + v := by unfold v_m_len; rw [z6]; exact len
      have done : ∀ (k : Nat) (M : Int → Int → Int) (le : Int), l_n_plan_c a k M le 0 = (M, le, 0) := by
        intro k M le
        cases k with
        | zero => rfl
        | succ k => rw [l_n_plan_c, if_pos rfl]
      have v1 := pl_last hn z4 z2
      have isd : ∀ ll, pl_is n (l_n_plan_d a ll 1 ll 8 M 0).1 l := fun ll => by
        have D := fun b x => pl_d (a := a) (le := ll) (mo := 1) (ll := ll) 8 M 0 (by omega) (by rw [z4.1]; omega) b x
        exact ⟨by rw [D, if_neg (by omega)]; exact z4.1, fun j hj => by rw [D, if_neg (by omega)]; exact z4.2 j hj⟩
      have v2 := fun ll => pl_last hn (isd ll) z2
      rw [l_n_plan_c, if_neg (by omega), len]
      show pl_st n T _ _ (pl_cb o (pl_cb ((pl_W T S fa ld h0 0 l).map (fun v => (v, l))) none)) ∧ _
      rw [pl_cb_none]
      cases hw : pl_W T S fa ld h0 0 l with
      | none =>
        rw [if_pos (show (-1 : Int) < 0 by omega), v1, done]
        refine ⟨?_, fun b x b1 b2 => tu_fr b1⟩
        show pl_st n T _ le (pl_cb o none)
        rw [pl_cb_none]
        cases o with
        | none => exact zA
        | some p => exact ⟨zA.1, zA.2.1, fun j hj => (tu_fr (by omega)).trans (zA.2.2 j hj)⟩
      | some v =>
        have hv := pl_W_0 hf l h0 0 v wl.2 hh hw
        dsimp only
        simp only [Int.zero_add]
        rw [if_neg (show ¬ v < 0 by omega)]
        have D := fun b x => pl_d (a := a) (le := v) (mo := 1) (ll := v) 8 M 0 (by omega) (by rw [z4.1]; omega) b x
        have NEW : pl_st n T (u_m_turns (l_n_plan_d a v 1 v 8 M 0).1) v (some (v, l)) ∧ ∀ b x, b ≠ 167 → b ≠ 168 → u_m_turns (l_n_plan_d a v 1 v 8 M 0).1 b x = M b x := by
          refine ⟨⟨rfl, hv, fun j hj => ?_⟩, fun b x b1 b2 => by rw [tu_fr b1, D, if_neg (by omega)]⟩
          rw [tu_fr (by omega), D, if_pos (by rw [z4.1]; omega), z4.2 j hj]
          have : l.getD j 0 < n := by
            have : l.getD j 0 = l[j]'(by omega) := by simp [List.getD, List.getElem?_eq_getElem (show j < l.length by omega)]
            rw [this]; exact wl.2 _ (List.getElem_mem _)
          exact z7 _ this
        cases o with
        | none =>
          rw [if_pos (by have : le = -1 := zA; omega), v2, done]
          exact NEW
        | some p =>
          have zA : le = p.1 ∧ 0 ≤ p.1 ∧ ∀ j : Nat, j < n → M 168 (j : Int) = T (p.2.getD j 0) := zA
          rw [if_neg (by omega)]
          by_cases q : le ≤ v
          · rw [if_pos q, v1, done]
            refine ⟨?_, fun b x b1 b2 => tu_fr b1⟩
            show pl_st n T _ le (if v < p.1 then some (v, l) else some p)
            rw [if_neg (by omega)]
            exact ⟨zA.1, zA.2.1, fun j hj => (tu_fr (by omega)).trans (zA.2.2 j hj)⟩
          · rw [if_neg q, v2, done]
            show pl_st n T _ v (if v < p.1 then some (v, l) else some p) ∧ _
            rw [if_pos (by omega)]
            exact NEW
  | cons l2 L ih =>
    intro l k M le o z1 z2 z3 z4 z5 z6 z7 z8 z9 zA
    cases k with
    | zero => cases z1
    | succ k =>
      have wl := z3 l (List.mem_cons_self ..)
      have len := pl_len z4.1 z5 z7 z8 z9 l 8 h0 0 0 0 (by omega) (by omega) wl.2 (fun i hi => by rw [Nat.zero_add]; exact z4.2 i (by omega))
      have len : v_m_len a M = match pl_W T S fa ld h0 0 l with | none => -1 | some v => 0 + v := by unfold v_m_len; rw [z6]; exact len
      have v1 := pl_step hn z4 z2
      have isd : ∀ ll, pl_is n (l_n_plan_d a ll 1 ll 8 M 0).1 l := fun ll => by
        have D := fun b x => pl_d (a := a) (le := ll) (mo := 1) (ll := ll) 8 M 0 (by omega) (by rw [z4.1]; omega) b x
        exact ⟨by rw [D, if_neg (by omega)]; exact z4.1, fun j hj => by rw [D, if_neg (by omega)]; exact z4.2 j hj⟩
      have v2 := fun ll => pl_step hn (isd ll) z2
      have w2 : ∀ x, x ∈ l2 :: L → x.length = n ∧ ∀ i, i ∈ x → i < n := fun x hx => z3 x (List.mem_cons_of_mem _ hx)
      have z1 : L.length + 1 < k := by rw [List.length_cons] at z1; omega
      rw [l_n_plan_c, if_neg (by omega), len]
      show pl_st n T _ _ (pl_cb o (pl_cb ((pl_W T S fa ld h0 0 l).map (fun v => (v, l))) (pl_bo (pl_W T S fa ld h0 0) (l2 :: L)))) ∧ _
      rw [← pl_cb_as]
      have OLD : ∀ o2, pl_st n T M le o2 → pl_st n T (l_n_plan_c a k (u_m_turns M) le 1).1 (l_n_plan_c a k (u_m_turns M) le 1).2.1 (pl_cb o2 (pl_bo (pl_W T S fa ld h0 0) (l2 :: L))) ∧ ∀ b x, b ≠ 167 → b ≠ 168 → (l_n_plan_c a k (u_m_turns M) le 1).1 b x = M b x := fun o2 zB => by
        have I := ih l2 k (u_m_turns M) le o2 z1 v1.2.2 w2 v1.2.1 (by rw [tu_fr (by omega)]; exact z5) (by rw [tu_fr (by omega)]; exact z6) (fun i hi => by rw [tu_fr (by omega)]; exact z7 i hi) (fun i hi => by rw [tu_fr (by omega)]; exact z8 i hi) (fun x y => by rw [tu_fr (by omega)]; exact z9 x y) (by
          cases o2 with
          | none => exact zB
          | some p => exact ⟨zB.1, zB.2.1, fun j hj => by rw [tu_fr (by omega)]; exact zB.2.2 j hj⟩)
        exact ⟨I.1, fun b x b1 b2 => (I.2 b x b1 b2).trans (tu_fr b1)⟩
      cases hw : pl_W T S fa ld h0 0 l with
      | none =>
        rw [if_pos (show (-1 : Int) < 0 by omega), v1.1]
        show pl_st n T _ _ (pl_cb (pl_cb o none) _) ∧ _
        rw [pl_cb_none]
        exact OLD o zA
      | some v =>
        have hv := pl_W_0 hf l h0 0 v wl.2 hh hw
        dsimp only
        simp only [Int.zero_add]
        rw [if_neg (show ¬ v < 0 by omega)]
        have D := fun b x => pl_d (a := a) (le := v) (mo := 1) (ll := v) 8 M 0 (by omega) (by rw [z4.1]; omega) b x
        have NEW : pl_st n T (l_n_plan_c a k (u_m_turns (l_n_plan_d a v 1 v 8 M 0).1) v 1).1 (l_n_plan_c a k (u_m_turns (l_n_plan_d a v 1 v 8 M 0).1) v 1).2.1 (pl_cb (some (v, l)) (pl_bo (pl_W T S fa ld h0 0) (l2 :: L))) ∧ ∀ b x, b ≠ 167 → b ≠ 168 → (l_n_plan_c a k (u_m_turns (l_n_plan_d a v 1 v 8 M 0).1) v 1).1 b x = M b x := by
          have E : ∀ b x, b ≠ 167 → b ≠ 168 → u_m_turns (l_n_plan_d a v 1 v 8 M 0).1 b x = M b x := fun b x b1 b2 => by rw [tu_fr b1, D, if_neg (by omega)]
          have I := ih l2 k (u_m_turns (l_n_plan_d a v 1 v 8 M 0).1) v (some (v, l)) z1 (v2 v).2.2 w2 (v2 v).2.1 (by rw [E _ _ (by omega) (by omega)]; exact z5) (by rw [E _ _ (by omega) (by omega)]; exact z6) (fun i hi => by rw [E _ _ (by omega) (by omega)]; exact z7 i hi) (fun i hi => by rw [E _ _ (by omega) (by omega)]; exact z8 i hi) (fun x y => by rw [E _ _ (by omega) (by omega)]; exact z9 x y) (by
            refine ⟨rfl, hv, fun j hj => ?_⟩
            rw [tu_fr (by omega), D, if_pos (by rw [z4.1]; omega), z4.2 j hj]
            have : l.getD j 0 < n := by
              have : l.getD j 0 = l[j]'(by omega) := by simp [List.getD, List.getElem?_eq_getElem (show j < l.length by omega)]
              rw [this]; exact wl.2 _ (List.getElem_mem _)
            exact z7 _ this)
          exact ⟨I.1, fun b x b1 b2 => (I.2 b x b1 b2).trans (E b x b1 b2)⟩
        cases o with
        | none =>
          rw [if_pos (by have : le = -1 := zA; omega), (v2 v).1]
          exact NEW
        | some p =>
          have zA : le = p.1 ∧ 0 ≤ p.1 ∧ ∀ j : Nat, j < n → M 168 (j : Int) = T (p.2.getD j 0) := zA
          rw [if_neg (by omega)]
          by_cases q : le ≤ v
          · rw [if_pos q, v1.1]
            show pl_st n T _ _ (pl_cb (if v < p.1 then some (v, l) else some p) _) ∧ _
            rw [if_neg (by omega)]
            exact OLD (some p) zA
          · rw [if_neg q, (v2 v).1]
            show pl_st n T _ _ (pl_cb (if v < p.1 then some (v, l) else some p) _) ∧ _
            rw [if_pos (by omega)]
            exact NEW
