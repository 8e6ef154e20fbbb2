/-! PLAN: the chain of orders, in seven pieces -/
theorem pl_ch6 : (List.range 7).all (fun n => pl_ch n (pl_pm n n 0)) = true := by decide +kernel
def pl_cx (n : Nat) : List (List Nat) → List Nat → Bool
  | [], _ => true
  | [l], x => decide (v_m_turns (pl_cm n l) = 1) && (List.range n).all (fun (j : Nat) => decide (u_m_turns (pl_cm n l) 167 (j : Int) = ((x.getD j 0 : Nat) : Int)))
  | l :: l' :: r, x => decide (v_m_turns (pl_cm n l) = 1) && (List.range n).all (fun (j : Nat) => decide (u_m_turns (pl_cm n l) 167 (j : Int) = ((l'.getD j 0 : Nat) : Int))) && pl_cx n (l' :: r) x
theorem pl_cx_app {n : Nat} {x : List Nat} {K : List (List Nat)} (hK : pl_ch n (x :: K) = true) : ∀ (r : List (List Nat)) (l : List Nat), pl_cx n (l :: r) x = true → pl_ch n (l :: (r ++ x :: K)) = true := by
  intro r
  induction r with
  | nil =>
    intro l h
    show pl_ch n (l :: x :: K) = true
    rw [pl_ch, hK, Bool.and_true]
    exact h
  | cons l2 r ih =>
    intro l h
    show pl_ch n (l :: l2 :: (r ++ x :: K)) = true
    rw [pl_cx, Bool.and_eq_true] at h
    rw [pl_ch, ih l2 h.2, Bool.and_true]
    exact h.1
theorem pl_cx_to {n : Nat} {x : List Nat} {L K : List (List Nat)} (hL : pl_cx n L x = true) (hx : K.head? = some x) (hK : pl_ch n K = true) : pl_ch n (L ++ K) = true := by
  cases K with
  | nil => cases hx
  | cons y K =>
    have e : y = x := Option.some.inj hx
    subst e
    cases L with
    | nil => exact hK
    | cons l r => exact pl_cx_app hK r l hL
def pl_C (i : Nat) : List (List Nat) := if pl_b 0 i = 0 then (pl_pm 7 6 (0 + 2 ^ i)).map (fun l => i :: l) else []
theorem pl_pm7 : pl_pm 7 7 0 = pl_C 0 ++ (pl_C 1 ++ (pl_C 2 ++ (pl_C 3 ++ (pl_C 4 ++ (pl_C 5 ++ (pl_C 6 ++ [])))))) := by
  show [0, 1, 2, 3, 4, 5, 6].flatMap pl_C = _
  simp only [List.flatMap_cons, List.flatMap_nil]
theorem pl_c0 : pl_cx 7 (pl_C 0) [1, 0, 2, 3, 4, 5, 6] = true := by decide +kernel
theorem pl_c1 : pl_cx 7 (pl_C 1) [2, 0, 1, 3, 4, 5, 6] = true := by decide +kernel
