/-! PLAN: the class's round -/
theorem pl_split {n i0 : Nat} {s t : List Nat} (h : List.range n = s ++ i0 :: t) : i0 < n ∧ ∀ j, j < i0 → j ∈ s := by
  have hl : s.length < n := by
    have := congrArg List.length h
    rw [List.length_range, List.length_append, List.length_cons] at this
    omega
  have e0 : (List.range n)[s.length]? = some s.length := by rw [List.getElem?_range hl]
  rw [h, List.getElem?_append_right (Nat.le_refl _), Nat.sub_self] at e0
  have e0 : some i0 = some s.length := e0
  cases e0
  refine ⟨hl, fun j hj => ?_⟩
  have e1 : (List.range n)[j]? = some j := by rw [List.getElem?_range (by omega)]
  rw [h, List.getElem?_append_left hj] at e1
  exact List.mem_of_getElem? e1
theorem pl_R_in {T S : Nat → Int} {fa : Int → Int → Int} {ld : Int} {n : Nat} (hn : n < 8) : ∀ (k : Nat) (h g : Int) (vi : Nat) (m : Int) (l : List Nat), vi < 2 ^ n → pl_R T S fa ld n k h g vi = some (m, l) → l.length = k ∧ (∀ i, i ∈ l → i < n ∧ pl_b vi i = 0) ∧ l.Nodup := by
  intro k
  induction k with
  | zero =>
    intro h g vi m l hv e
    rw [pl_R] at e
    split at e
    · cases e; exact ⟨rfl, fun i hi => (by cases hi), List.nodup_nil⟩
    · cases e
  | succ k ih =>
    intro h g vi m l hv e
    rw [pl_R] at e
    obtain ⟨s, i0, t, e1, e2, _⟩ := pl_first _ _ _ e
    have hi := (pl_split e1).1
    split at e2
    · rename_i hb
      have Z := (pl_sets hn hv).2 i0 hi hb
      split at e2
      · cases hR : pl_R T S fa ld n k (T i0) (g + S i0) (vi + 2 ^ i0) with
        | none => rw [hR] at e2; cases e2
        | some p =>
          rw [hR] at e2
          cases e2
          have I := ih _ _ _ p.1 p.2 Z.2.1 hR
          have J : ∀ j, j ∈ p.2 → j ≠ i0 ∧ j < n ∧ pl_b vi j = 0 := fun j hj => by
            have q := I.2.1 j hj
            have z := Z.2.2 j q.1
            by_cases w : j = i0
            · rw [if_pos w] at z; omega
            · rw [if_neg w] at z; exact ⟨w, q.1, by omega⟩
          refine ⟨by rw [List.length_cons, I.1], fun j hj => ?_, List.nodup_cons.2 ⟨fun w => (J _ w).1 rfl, I.2.2⟩⟩
          rcases List.mem_cons.1 hj with w | w
          · rw [w]; exact ⟨hi, hb⟩
          · exact (J j w).2
      · cases e2
    · cases e2
theorem tr_b {n : Nat} {T S : Nat → Int} {fa : Int → Int → Int} {N ld st j2 : Int} {M : Int → Int → Int} (hK : pl_K n T S fa N M) (hn : n < 8) {vi k : Nat} (hv : vi < 2 ^ n) (hk : pl_rm n vi = k + 1) (h61 : ∀ vj : Nat, vi < vj → vj < 2 ^ n → ∀ la, la < n → pl_b vj la = 1 → M 161 (7 * (vj : Int) + (la : Int)) = pl_L T S fa ld n vj la) {fr : Int} (hfr : 0 ≤ fr ∧ fr < N) (hf : ∀ i, i < n → 0 ≤ fa fr (T i) ∧ fa fr (T i) ≤ 999) {m : Int} {l : List Nat} (hm : m < 1000000) {i0 : Nat} (h0 : i0 < n) (e0 : pl_F T S fa ld n k fr (pl_h S vi n) vi i0 = some (m, l)) (eb : pl_b vi i0 = 0) (e1 : ∀ j, j < i0 → ∀ p, pl_F T S fa ld n k fr (pl_h S vi n) vi j = some p → m < p.1) : ∀ (u i : Nat), i ≤ i0 → i0 < i + u → l_trace_b st (vi : Int) fr j2 m M u (i : Int) = (i0 : Int) := by
  have p7 := pow7 hn
  intro u
  induction u with
  | zero => intro i z1 z2; omega
  | succ u ih =>
    intro i z1 z2
    rw [l_trace_b, hK.c]
    by_cases q : n - 1 ≤ i
    · rw [if_pos (by omega)]; omega
    · rw [if_neg (by omega)]
      have b := (bt (show vi < 128 by omega) (show i < 7 by omega)).1
      have b01 := pl_b01 vi i
      by_cases w : i = i0
      · subst w
        have L : v_leadsOn fr (vi : Int) (i : Int) m M = 1 := by
          unfold v_leadsOn
          rw [b, if_neg (by omega), on_F hK hn hv hk h61 hfr hf h0 eb, e0]
          show (if ¬ m = m then (0 : Int) else 1) = 1
          rw [if_neg (fun z => z rfl)]
        rw [L, if_pos (by omega)]
      · have L : v_leadsOn fr (vi : Int) (i : Int) m M = 0 := by
          unfold v_leadsOn
          rw [b]
          by_cases hb : pl_b vi i = 0
          · rw [if_neg (by omega), on_F hK hn hv hk h61 hfr hf (show i < n by omega) hb]
            have := hf i (by omega)
            have g := e1 i (by omega)
            revert g
            cases pl_F T S fa ld n k fr (pl_h S vi n) vi i with
            | none => intro g; show (if ¬ fa fr (T i) + 1000000 = m then (0 : Int) else 1) = 0; rw [if_pos (by omega)]
            | some p => intro g; have := g p rfl; show (if ¬ p.1 = m then (0 : Int) else 1) = 0; rw [if_pos (by omega)]
          · rw [if_pos (by omega)]
        rw [L, if_neg (by omega), show (1 : Int) + (i : Int) = ((i + 1 : Nat) : Int) by omega]
        exact ih _ (by omega) (by omega)
theorem tr_a {n : Nat} {T S : Nat → Int} {fa : Int → Int → Int} {N ld st : Int} (hn : n < 8) (hN : N ≤ 12) (hT : ∀ i, i < n → 0 ≤ T i ∧ T i < N) (hfa : ∀ i j, i < n → j < n → 0 ≤ fa (T i) (T j) ∧ fa (T i) (T j) ≤ 999) : ∀ (k : Nat) (u : Nat) (M : Int → Int → Int) (vi : Nat) (fr : Int) (j : Nat) (m : Int) (l : List Nat), k < u → pl_K n T S fa N M → (∀ vi : Nat, vi < 2 ^ n → M 160 (vi : Int) = pl_h S vi n) → (∀ vj : Nat, 0 < vj → vj < 2 ^ n → ∀ la, la < n → pl_b vj la = 1 → M 161 (7 * (vj : Int) + (la : Int)) = pl_L T S fa ld n vj la) → vi < 2 ^ n → pl_rm n vi = k → j + k = n → (0 ≤ fr ∧ fr < N) → (∀ i, i < n → 0 ≤ fa fr (T i) ∧ fa fr (T i) ≤ 999) → pl_R T S fa ld n k fr (pl_h S vi n) vi = some (m, l) → (∀ x : Nat, x < k → (l_trace_a st u M (vi : Int) fr (j : Int)).1 157 ((j + x : Nat) : Int) = T (l.getD x 0)) ∧ ∀ a x, ¬ (a = 157 ∧ (j : Int) ≤ x) → (l_trace_a st u M (vi : Int) fr (j : Int)).1 a x = M a x := by
  intro k
  induction k with
  | zero =>
    intro u M vi fr j m l z0 hK h60 h61 hv hr hj hfr hf hR
    cases u with
    | zero => omega
    | succ u =>
      rw [l_trace_a, hK.c, if_pos (by omega)]
      exact ⟨fun x hx => by omega, fun a x _ => rfl⟩
  | succ k ih =>
    intro u M vi fr j m l z0 hK h60 h61 hv hr hj hfr hf hR
    have p7 := pow7 hn
    have r8 := pl_rm8 (vi := vi) hn
    cases u with
    | zero => omega
    | succ u =>
      have LE := least_e hK hn hfa hv (h60 vi hv) (ld := ld) (fun vj v1 => h61 vj (by omega)) hfr hf
      rw [hr, hR] at LE
      have LE2 : v_leastOnward fr (vi : Int) M = m := LE
      clear LE
      have okR := pl_ok_R (ld := ld) (S := S) (T := T) (fa := fa) (n := n) hfa (k + 1) fr (pl_h S vi n) vi (by omega) hf (m, l) hR
      have hm : m < 1000000 := by have := okR.2; simp only at this; omega
      have hR2 := hR
      rw [pl_R] at hR2
      obtain ⟨s, i0, t, e1, e2, e3⟩ := pl_first _ _ _ hR2
      have sp := pl_split e1
      have e2' : pl_F T S fa ld n k fr (pl_h S vi n) vi i0 = some (m, l) := e2
      have hb : pl_b vi i0 = 0 := by
        by_cases q : pl_b vi i0 = 0
        · exact q
        · rw [if_neg q] at e2; cases e2
      have B := tr_b (st := st) (j2 := (j : Int)) hK hn hv hr (ld := ld) (fun vj v1 => h61 vj (by omega)) hfr hf hm sp.1 e2' hb (fun j hj p hp => e3 j (sp.2 j hj) p hp) 8 0 (by omega) (by omega)
      rw [show ((0 : Nat) : Int) = 0 from rfl] at B
      have Z := (pl_sets hn hv).2 i0 sp.1 hb
      rw [if_pos hb] at e2
      split at e2
      · cases hQ : pl_R T S fa ld n k (T i0) (pl_h S vi n + S i0) (vi + 2 ^ i0) with
        | none => rw [hQ] at e2; cases e2
        | some p =>
          rw [hQ] at e2
          cases e2
          rw [← pl_h_add hn hv sp.1 hb] at hQ
          rw [l_trace_a, hK.c, if_neg (by omega), LE2, B, hK.t i0 sp.1, (bt (show vi < 128 by omega) (show i0 < 7 by omega)).2 hb, show (1 : Int) + (j : Int) = ((j + 1 : Nat) : Int) by omega]
          have K1 : pl_K n T S fa N (x_up M 157 (j : Int) (T i0)) := K_fr hK hN (fun a k q1 q2 _ => x_up_ne q2)
          have I := ih u (x_up M 157 (j : Int) (T i0)) (vi + 2 ^ i0) (T i0) (j + 1) p.1 p.2 (by omega) K1 (fun vj hj => by rw [x_up_ne (by omega)]; exact h60 vj hj) (fun vj v1 v2 la l1 l2 => by rw [x_up_ne (by omega)]; exact h61 vj v1 v2 la l1 l2) Z.2.1 (by omega) (by omega) (hT i0 sp.1) (fun x hx => hfa i0 x sp.1 hx) hQ
          refine ⟨fun x hx => ?_, fun a x hx => by rw [I.2 a x (by omega), x_up_no (by omega)]⟩
          cases x with
          | zero =>
            rw [I.2 _ _ (by omega), Nat.add_zero, x_up_self]; rfl
          | succ x =>
            have := I.1 x (by omega)
            rw [show j + (x + 1) = j + 1 + x by omega, this]; rfl
      · cases e2
