/-! PLAN: the orders one after the other -/
def pl_cm (n : Nat) (l : List Nat) : Int → Int → Int := fun a k => if a = 167 then ((l.getD k.toNat 0 : Nat) : Int) else (n : Int)
def pl_ch (n : Nat) : List (List Nat) → Bool
  | [] => false
  | [l] => decide (v_m_turns (pl_cm n l) = 0)
  | l :: l' :: r => decide (v_m_turns (pl_cm n l) = 1) && (List.range n).all (fun (j : Nat) => decide (u_m_turns (pl_cm n l) 167 (j : Int) = ((l'.getD j 0 : Nat) : Int))) && pl_ch n (l' :: r)
theorem pl_pm_wf {n : Nat} : ∀ (k vi : Nat) (l : List Nat), l ∈ pl_pm n k vi → l.length = k ∧ ∀ i, i ∈ l → i < n := by
  intro k
  induction k with
  | zero =>
    intro vi l h
    rw [pl_pm] at h
    have e := List.mem_singleton.1 h
    rw [e]
    exact ⟨rfl, fun i hi => absurd hi List.not_mem_nil⟩
  | succ k ih =>
    intro vi l h
    rw [pl_pm] at h
    obtain ⟨i, hi, hl⟩ := List.mem_flatMap.1 h
    by_cases q : pl_b vi i = 0
    · rw [if_pos q] at hl
      obtain ⟨l2, h2, e⟩ := List.mem_map.1 hl
      have e : i :: l2 = l := e
      have I := ih _ _ h2
      rw [← e]
      refine ⟨by rw [List.length_cons, I.1], fun j hj => ?_⟩
      rcases List.mem_cons.1 hj with q | q
      · rw [q]; exact List.mem_range.1 hi
      · exact I.2 j q
    · rw [if_neg q] at hl
      exact absurd hl List.not_mem_nil
theorem pl_fm_len {F : Nat → List (List Nat)} {B : Nat} (h : ∀ i, (F i).length ≤ B) : ∀ r : List Nat, (r.flatMap F).length ≤ r.length * B := by
  intro r
  induction r with
  | nil => exact Nat.zero_le _
  | cons i r ih =>
    rw [List.flatMap_cons, List.length_append, List.length_cons, Nat.succ_mul]
    have := h i
    omega
theorem pl_pm_len {n : Nat} : ∀ k vi : Nat, (pl_pm n k vi).length ≤ n ^ k := by
  intro k
  induction k with
  | zero => intro vi; rw [pl_pm, Nat.pow_zero]; exact Nat.le_refl 1
  | succ k ih =>
    intro vi
    rw [pl_pm, Nat.pow_succ, Nat.mul_comm]
    have := pl_fm_len (F := fun i => if pl_b vi i = 0 then (pl_pm n k (vi + 2 ^ i)).map (fun l => i :: l) else []) (B := n ^ k) (fun i => by
      by_cases q : pl_b vi i = 0
      · show (if pl_b vi i = 0 then (pl_pm n k (vi + 2 ^ i)).map (fun l => i :: l) else []).length ≤ _
        rw [if_pos q, List.length_map]; exact ih _
      · show (if pl_b vi i = 0 then (pl_pm n k (vi + 2 ^ i)).map (fun l => i :: l) else []).length ≤ _
        rw [if_neg q]; exact Nat.zero_le _) (List.range n)
    rw [List.length_range] at this
    exact this
theorem pl_hd : (List.range 8).all (fun n => ((pl_pm n n 0).head? == some (List.range n)) && decide (n ^ n < 900000)) = true := by decide +kernel
theorem pl_wf_all {n : Nat} (h : n < 8) : (∀ x, x ∈ pl_pm n n 0 → x.length = n ∧ ∀ i, i ∈ x → i < n) ∧ (pl_pm n n 0).length < 900000 ∧ (pl_pm n n 0).head? = some (List.range n) := by
  have q := List.all_eq_true.1 pl_hd n (List.mem_range.2 h)
  simp only [Bool.and_eq_true, decide_eq_true_eq, beq_iff_eq] at q
  have l := pl_pm_len (n := n) n 0
  exact ⟨fun x hx => pl_pm_wf n 0 x hx, Nat.lt_of_le_of_lt l q.2, q.1⟩
