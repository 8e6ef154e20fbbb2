/-! DROP -/
theorem P_lfg {c w : Int} : ∀ (k : Nat) (M : Int → Int → Int) (i : Int), 1 ≤ i → M (149 + 2 * c) 6 - i < (k : Int) → 0 ≤ c → ∀ a j, (l_letFirstGo_a c w k M i).1 a j = if a = 150 + 2 * c ∧ i - 1 ≤ j ∧ j < M (149 + 2 * c) 6 - 1 then M a (1 + j) else M a j := by
  intro k
  induction k with
  | zero => intro M i h0 h1 hc a j; rw [l_letFirstGo_a, if_neg (by omega)]
  | succ k ih =>
    intro M i h0 h1 hc a j
    rw [l_letFirstGo_a]
    by_cases q : M (149 + 2 * c) 6 ≤ i
    · rw [if_pos q, if_neg (by omega)]
    · have e : ∀ x, x_up M (150 + 2 * c) (-1 + i) x (149 + 2 * c) 6 = M (149 + 2 * c) 6 := fun x => x_up_ne (by omega)
      rw [if_neg q, ih _ _ (by omega) (by rw [e]; omega) hc, e]
      by_cases q2 : a = 150 + 2 * c ∧ i - 1 ≤ j ∧ j < M (149 + 2 * c) 6 - 1
      · rw [if_pos q2]
        by_cases q3 : j = i - 1
        · rw [if_neg (by omega), q3, q2.1, show -1 + i = i - 1 by omega, x_up_self, show 1 + (i - 1) = i by omega]
        · rw [if_pos (by omega), x_up_no (by omega)]
      · rw [if_neg q2, if_neg (by omega), x_up_no (by omega)]
theorem P_ndr {a w d : Int} : ∀ (k : Nat) (M : Int → Int → Int) (i : Int), 0 ≤ i → M 163 (1597 + 12 * a) - i < (k : Int) → ∀ j, (l_n_drop_a a w d k M i).1 163 j = if 1598 + 12 * a + i ≤ j ∧ j < 1598 + 12 * a + M 163 (1597 + 12 * a) then M 163 (1 + j) else M 163 j := by
  intro k
  induction k with
  | zero => intro M i h0 h1 j; rw [l_n_drop_a, if_neg (by omega)]
  | succ k ih =>
    intro M i h0 h1 j
    rw [l_n_drop_a]
    by_cases q : M 163 (1597 + 12 * a) ≤ i
    · rw [if_pos q, if_neg (by omega)]
    · have e : ∀ x, x_up M 163 (1598 + 12 * a + i) x 163 (1597 + 12 * a) = M 163 (1597 + 12 * a) := fun x => x_up_nk (by omega)
      rw [if_neg q, ih _ _ (by omega) (by rw [e]; omega), e]
      by_cases q2 : 1598 + 12 * a + i ≤ j ∧ j < 1598 + 12 * a + M 163 (1597 + 12 * a)
      · rw [if_pos q2]
        by_cases q3 : j = 1598 + 12 * a + i
        · rw [if_neg (by omega), q3, x_up_self, show 1 + (1598 + 12 * a + i) = 1599 + 12 * a + i by omega]
        · rw [if_pos (by omega), x_up_nk (by omega)]
      · rw [if_neg q2, if_neg (by omega), x_up_nk (by omega)]
