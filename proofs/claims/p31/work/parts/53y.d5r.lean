/-! PLAN: orders and sets -/
def pl_b (vi i : Nat) : Nat := vi / 2 ^ i % 2
def pl_pm (n : Nat) : Nat → Nat → List (List Nat)
  | 0, _ => [[]]
  | k + 1, vi => (List.range n).flatMap (fun i => if pl_b vi i = 0 then (pl_pm n k (vi + 2 ^ i)).map (fun l => i :: l) else [])
def pl_rm (n vi : Nat) : Nat := ((List.range n).filter (fun i => pl_b vi i == 0)).length
def pl_ck (n vi : Nat) : Bool := (pl_rm n vi == 0) == (vi == 2 ^ n - 1) && (List.range n).all (fun i => pl_b vi i != 0 || (pl_rm n (vi + 2 ^ i) + 1 == pl_rm n vi && decide (vi + 2 ^ i < 2 ^ n) && (List.range n).all (fun j => pl_b (vi + 2 ^ i) j == (if j = i then 1 else pl_b vi j))))
theorem pl_ck_all : (List.range 8).all (fun n => (List.range (2 ^ n)).all (fun vi => pl_ck n vi)) = true := by decide +kernel
theorem pl_sets {n : Nat} (hn : n < 8) {vi : Nat} (hv : vi < 2 ^ n) : (pl_rm n vi = 0 ↔ vi = 2 ^ n - 1) ∧ ∀ i, i < n → (pl_b vi i = 0 → pl_rm n (vi + 2 ^ i) + 1 = pl_rm n vi ∧ vi + 2 ^ i < 2 ^ n ∧ ∀ j, j < n → pl_b (vi + 2 ^ i) j = if j = i then 1 else pl_b vi j) := by
  have h := List.all_eq_true.1 (List.all_eq_true.1 pl_ck_all n (List.mem_range.2 hn)) vi (List.mem_range.2 hv)
  simp only [pl_ck, Bool.and_eq_true, beq_iff_eq, List.all_eq_true, List.mem_range, Bool.or_eq_true, bne_iff_ne, ne_eq, decide_eq_true_eq] at h
  refine ⟨?_, fun i hi hb => ?_⟩
  · have := h.1
    constructor
    · intro q; rw [q] at this; simpa using this.symm
    · intro q; rw [q] at this ⊢; simpa using this
  · rcases h.2 i hi with q | q
    · exact absurd hb q
    · exact ⟨q.1.1, q.1.2, q.2⟩
theorem pl_rm0 : ∀ n, n < 8 → pl_rm n 0 = n ∧ ∀ i, i < n → pl_b 0 i = 0 := by decide +kernel
/-- a length, if there is one; and the order that gave it -/
def pl_cb (a b : Option (Int × List Nat)) : Option (Int × List Nat) :=
  match a, b with
  | none, b => b
  | some x, none => some x
  | some x, some y => if y.1 < x.1 then some y else some x
theorem pl_cb_none (a : Option (Int × List Nat)) : pl_cb a none = a := by cases a <;> rfl
theorem pl_cb_as (a b c : Option (Int × List Nat)) : pl_cb (pl_cb a b) c = pl_cb a (pl_cb b c) := by
  cases a with
  | none => rfl
  | some x =>
    cases b with
    | none => rfl
    | some y =>
      cases c with
      | none => exact pl_cb_none _
      | some z =>
        simp only [pl_cb]
        by_cases p : y.1 < x.1
        · by_cases q : z.1 < y.1
          · simp only [if_pos p, if_pos q, if_pos (show z.1 < x.1 by omega)]
          · simp only [if_pos p, if_neg q]
        · by_cases q : z.1 < y.1
          · simp only [if_neg p, if_pos q]
          · simp only [if_neg p, if_neg q, if_neg (show ¬ z.1 < x.1 by omega)]
def pl_bo (f : List Nat → Option Int) : List (List Nat) → Option (Int × List Nat)
  | [] => none
  | l :: r => pl_cb ((f l).map (fun v => (v, l))) (pl_bo f r)
theorem pl_bo_app (f : List Nat → Option Int) (r s : List (List Nat)) : pl_bo f (r ++ s) = pl_cb (pl_bo f r) (pl_bo f s) := by
  induction r with
  | nil => rfl
  | cons l r ih => show pl_cb _ (pl_bo f (r ++ s)) = _; rw [ih, ← pl_cb_as]; rfl
def pl_fo (F : Nat → Option (Int × List Nat)) : List Nat → Option (Int × List Nat)
  | [] => none
  | i :: r => pl_cb (F i) (pl_fo F r)
/-- what is left of an order's length -/
def pl_W (T S : Nat → Int) (fa : Int → Int → Int) (ld : Int) : Int → Int → List Nat → Option Int
  | _, g, [] => if g = 0 then some 0 else none
  | h, g, i :: l => if g + S i < 0 then none else if g + S i ≤ ld then (pl_W T S fa ld (T i) (g + S i) l).map (fun v => fa h (T i) + v) else none
def pl_R (T S : Nat → Int) (fa : Int → Int → Int) (ld : Int) (n : Nat) : Nat → Int → Int → Nat → Option (Int × List Nat)
  | 0, _, g, _ => if g = 0 then some (0, []) else none
  | k + 1, h, g, vi => pl_fo (fun i => if pl_b vi i = 0 then (if 0 ≤ g + S i ∧ g + S i ≤ ld then (pl_R T S fa ld n k (T i) (g + S i) (vi + 2 ^ i)).map (fun p => (fa h (T i) + p.1, i :: p.2)) else none) else none) (List.range n)
theorem pl_bo_fm (f : List Nat → Option Int) (G : Nat → List (List Nat)) (r : List Nat) : pl_bo f (r.flatMap G) = pl_fo (fun i => pl_bo f (G i)) r := by
  induction r with
  | nil => rfl
  | cons i r ih => rw [List.flatMap_cons, pl_bo_app, ih]; rfl
theorem pl_fo_cg {F G : Nat → Option (Int × List Nat)} {r : List Nat} (h : ∀ i, i ∈ r → F i = G i) : pl_fo F r = pl_fo G r := by
  induction r with
  | nil => rfl
  | cons i r ih => show pl_cb _ _ = pl_cb _ _; rw [h i (List.mem_cons_self ..), ih (fun j hj => h j (List.mem_cons_of_mem _ hj))]
theorem pl_bo_no {f : List Nat → Option Int} {r : List (List Nat)} (h : ∀ l, f l = none) : pl_bo f r = none := by
  induction r with
  | nil => rfl
  | cons l r ih => show pl_cb _ _ = _; rw [h l, ih]; rfl
theorem pl_bo_map {f g : List Nat → Option Int} {i : Nat} {c : Int} (h : ∀ l, f (i :: l) = (g l).map (fun v => c + v)) (r : List (List Nat)) : pl_bo f (r.map (fun l => i :: l)) = (pl_bo g r).map (fun p => (c + p.1, i :: p.2)) := by
  induction r with
  | nil => rfl
  | cons l r ih =>
    show pl_cb ((f (i :: l)).map _) (pl_bo f (r.map _)) = (pl_cb ((g l).map _) (pl_bo g r)).map _
    rw [ih, h l]
    cases g l with
    | none => rfl
    | some v =>
      cases pl_bo g r with
      | none => rfl
      | some y =>
        simp only [Option.map, pl_cb]
        by_cases q : y.1 < v
        · rw [if_pos (show c + y.1 < c + v by omega), if_pos q]
        · rw [if_neg (show ¬ c + y.1 < c + v by omega), if_neg q]
theorem pl_A (T S : Nat → Int) (fa : Int → Int → Int) (ld : Int) (n : Nat) : ∀ (k : Nat) (h g : Int) (vi : Nat), pl_bo (pl_W T S fa ld h g) (pl_pm n k vi) = pl_R T S fa ld n k h g vi := by
  intro k
  induction k with
  | zero =>
    intro h g vi
    show pl_cb ((pl_W T S fa ld h g []).map _) none = _
    rw [pl_cb_none, pl_R, pl_W]
    split <;> rfl
  | succ k ih =>
    intro h g vi
    rw [pl_pm, pl_bo_fm, pl_R]
    refine pl_fo_cg (fun i _ => ?_)
    by_cases q : pl_b vi i = 0
    · rw [if_pos q, if_pos q]
      by_cases q2 : 0 ≤ g + S i ∧ g + S i ≤ ld
      · rw [if_pos q2, pl_bo_map (g := pl_W T S fa ld (T i) (g + S i)) (c := fa h (T i)) (fun l => by rw [pl_W, if_neg (by omega), if_pos q2.2]), ih]
      · rw [if_neg q2]
        have N : ∀ (r : List (List Nat)), pl_bo (pl_W T S fa ld h g) (r.map (fun l => i :: l)) = none := by
          intro r
          induction r with
          | nil => rfl
          | cons l r ih2 =>
            show pl_cb ((pl_W T S fa ld h g (i :: l)).map _) (pl_bo _ (r.map _)) = none
            have e : pl_W T S fa ld h g (i :: l) = none := by
              rw [pl_W]
              split
              · rfl
              · rw [if_neg (by omega)]
            rw [ih2, e]; rfl
        exact N _
    · rw [if_neg q, if_neg q]; rfl
/-! its value and its order -/
def pl_V (o : Option (Int × List Nat)) : Int := match o with | none => 1000000 | some p => p.1
def pl_ok (B : Int) (o : Option (Int × List Nat)) : Prop := ∀ p, o = some p → 0 ≤ p.1 ∧ p.1 ≤ B
theorem pl_V_cb {B : Int} (hB : B < 1000000) {a b : Option (Int × List Nat)} (ha : pl_ok B a) (hb : pl_ok B b) : pl_V (pl_cb a b) = min (pl_V a) (pl_V b) ∧ pl_ok B (pl_cb a b) := by
  cases a with
  | none =>
    refine ⟨?_, hb⟩
    show pl_V b = min 1000000 (pl_V b)
    cases b with
    | none => show (1000000 : Int) = min 1000000 1000000; omega
    | some y => have := hb y rfl; show y.1 = min 1000000 y.1; omega
  | some x =>
    have hx := ha x rfl
    cases b with
    | none => exact ⟨by show x.1 = min x.1 1000000; omega, ha⟩
    | some y =>
      have hy := hb y rfl
      simp only [pl_cb]
      split
      · exact ⟨by show y.1 = min x.1 y.1; omega, hb⟩
      · exact ⟨by show x.1 = min x.1 y.1; omega, ha⟩
theorem pl_ok_fo {B : Int} {F : Nat → Option (Int × List Nat)} (hB : B < 1000000) {r : List Nat} (h : ∀ i, i ∈ r → pl_ok B (F i)) : pl_ok B (pl_fo F r) := by
  induction r with
  | nil => intro p hp; cases hp
  | cons i r ih => exact (pl_V_cb hB (h i (List.mem_cons_self ..)) (ih (fun j hj => h j (List.mem_cons_of_mem _ hj)))).2
theorem pl_ok_R {T S : Nat → Int} {fa : Int → Int → Int} {ld : Int} {n : Nat} (hf : ∀ i j, i < n → j < n → 0 ≤ fa (T i) (T j) ∧ fa (T i) (T j) ≤ 999) : ∀ (k : Nat) (h g : Int) (vi : Nat), k ≤ 1000 → (∀ j, j < n → 0 ≤ fa h (T j) ∧ fa h (T j) ≤ 999) → pl_ok (999 * (k : Int)) (pl_R T S fa ld n k h g vi) := by
  intro k
  induction k with
  | zero =>
    intro h g vi _ _ p hp
    rw [pl_R] at hp
    split at hp
    · cases hp; exact ⟨by show (0 : Int) ≤ 0; omega, by show (0 : Int) ≤ _; omega⟩
    · cases hp
  | succ k ih =>
    intro h g vi hk hh
    rw [pl_R]
    refine pl_ok_fo (by omega) (fun i hi => ?_)
    have hi := List.mem_range.1 hi
    intro p hp
    split at hp
    · split at hp
      · have I := ih (T i) (g + S i) (vi + 2 ^ i) (by omega) (fun j hj => hf i j hi hj)
        revert I hp
        cases pl_R T S fa ld n k (T i) (g + S i) (vi + 2 ^ i) with
        | none => intro hp _; cases hp
        | some q =>
          intro hp I
          cases hp
          have := I q rfl
          have := hh i hi
          show 0 ≤ fa h (T i) + q.1 ∧ fa h (T i) + q.1 ≤ _
          omega
      · cases hp
    · cases hp
/-- which one it is -/
theorem pl_first {F : Nat → Option (Int × List Nat)} : ∀ (r : List Nat) (m : Int) (l : List Nat), pl_fo F r = some (m, l) → ∃ s i t, r = s ++ i :: t ∧ F i = some (m, l) ∧ (∀ j, j ∈ s → ∀ p, F j = some p → m < p.1) := by
  intro r
  induction r with
  | nil => intro m l h; cases h
  | cons i r ih =>
    intro m l h
    show ∃ s i' t, _
    have h : pl_cb (F i) (pl_fo F r) = some (m, l) := h
    cases hF : F i with
    | none =>
      rw [hF] at h
      have h : pl_fo F r = some (m, l) := h
      obtain ⟨s, i2, t, e1, e2, e3⟩ := ih m l h
      refine ⟨i :: s, i2, t, by rw [e1]; rfl, e2, fun j hj p hp => ?_⟩
      rcases List.mem_cons.1 hj with q | q
      · rw [q, hF] at hp; cases hp
      · exact e3 j q p hp
    | some x =>
      rw [hF] at h
      cases hR : pl_fo F r with
      | none =>
        rw [hR] at h
        exact ⟨[], i, r, rfl, by rw [hF]; exact h, fun j hj => by cases hj⟩
      | some y =>
        rw [hR] at h
        simp only [pl_cb] at h
        split at h
        · rename_i lt
          cases h
          obtain ⟨s, i2, t, e1, e2, e3⟩ := ih m l hR
          refine ⟨i :: s, i2, t, by rw [e1]; rfl, e2, fun j hj p hp => ?_⟩
          rcases List.mem_cons.1 hj with q | q
          · rw [q, hF] at hp; cases hp; exact lt
          · exact e3 j q p hp
        · exact ⟨[], i, r, rfl, by rw [hF]; exact h, fun j hj => by cases hj⟩
