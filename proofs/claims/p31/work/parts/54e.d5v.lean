/-! PLAN: the class's sets -/
def pl_bc : Bool := (List.range 128).all (fun (vi : Nat) => (List.range 7).all (fun (i : Nat) => decide (y_and (y_shr (vi : Int) (i : Int)) 1 = ((pl_b vi i : Nat) : Int)) && (decide (pl_b vi i ≠ 0) || decide (y_or (vi : Int) (y_shl 1 (i : Int)) = ((vi + 2 ^ i : Nat) : Int)))))
theorem pl_bits : pl_bc = true := by decide +kernel
theorem pl_all : (List.range 8).all (fun (n : Nat) => decide (-1 + y_shl 1 (n : Int) = ((2 ^ n - 1 : Nat) : Int))) = true := by decide +kernel
theorem bt {vi i : Nat} (hv : vi < 128) (hi : i < 7) : y_and (y_shr (vi : Int) (i : Int)) 1 = ((pl_b vi i : Nat) : Int) ∧ (pl_b vi i = 0 → y_or (vi : Int) (y_shl 1 (i : Int)) = ((vi + 2 ^ i : Nat) : Int)) := by
  have h := List.all_eq_true.1 (List.all_eq_true.1 pl_bits vi (List.mem_range.2 hv)) i (List.mem_range.2 hi)
  simp only [Bool.and_eq_true, Bool.or_eq_true, decide_eq_true_eq] at h
  exact ⟨h.1, fun q => h.2.resolve_left (fun z => z q)⟩
theorem al {n : Nat} (h : n < 8) : -1 + y_shl 1 (n : Int) = ((2 ^ n - 1 : Nat) : Int) := by
  have := List.all_eq_true.1 pl_all n (List.mem_range.2 h)
  exact of_decide_eq_true this
theorem pl_b01 (vi i : Nat) : pl_b vi i = 0 ∨ pl_b vi i = 1 := by unfold pl_b; omega
theorem pow7 {n : Nat} (h : n < 8) : 2 ^ n ≤ 128 := by
  have : ∀ n, n < 8 → 2 ^ n ≤ 128 := by decide
  exact this n h
theorem pow0 {n : Nat} : 0 < 2 ^ n := Nat.pow_pos (by omega)
/-- what a set holds -/
def pl_h (S : Nat → Int) (vi : Nat) : Nat → Int
  | 0 => 0
  | m + 1 => pl_h S vi m + (if pl_b vi m = 1 then S m else 0)
theorem pl_h_in {S : Nat → Int} {vi n : Nat} (hS : ∀ i, i < n → -100 ≤ S i ∧ S i ≤ 100) : ∀ m, m ≤ n → -100 * (m : Int) ≤ pl_h S vi m ∧ pl_h S vi m ≤ 100 * (m : Int) := by
  intro m
  induction m with
  | zero => intro _; show (_ : Int) ≤ 0 ∧ (0 : Int) ≤ _; omega
  | succ m ih =>
    intro h
    have I := ih (by omega)
    have := hS m (by omega)
    rw [pl_h]
    split <;> omega
theorem pl_h_add {S : Nat → Int} {vi n i : Nat} (hn : n < 8) (hv : vi < 2 ^ n) (hi : i < n) (hb : pl_b vi i = 0) : pl_h S (vi + 2 ^ i) n = pl_h S vi n + S i := by
  have Z := ((pl_sets hn hv).2 i hi hb).2.2
  have : ∀ m, m ≤ n → pl_h S (vi + 2 ^ i) m = pl_h S vi m + (if i < m then S i else 0) := by
    intro m
    induction m with
    | zero => intro _; rw [if_neg (by omega)]; show (0 : Int) = 0 + 0; omega
    | succ m ih =>
      intro h
      have I := ih (by omega)
      have z := Z m (by omega)
      by_cases q : m = i
      · subst q
        rw [if_pos rfl] at z
        rw [pl_h, pl_h, I, z, hb, if_pos rfl, if_neg (by omega), if_neg (by omega), if_pos (by omega)]
      · rw [if_neg q] at z
        rw [pl_h, pl_h, I, z]
        by_cases q2 : i < m
        · rw [if_pos q2, if_pos (show i < m + 1 by omega)]; omega
        · rw [if_neg q2, if_neg (show ¬ i < m + 1 by omega)]; omega
  rw [this n (Nat.le_refl n), if_pos hi]
theorem pl_h_0 {S : Nat → Int} {n : Nat} (hn : n < 8) : pl_h S 0 n = 0 := by
  have Z := (pl_rm0 n hn).2
  have : ∀ m, m ≤ n → pl_h S 0 m = 0 := by
    intro m
    induction m with
    | zero => intro _; rfl
    | succ m ih => intro h; rw [pl_h, ih (by omega), Z m (by omega), if_neg (by omega)]; omega
  exact this n (Nat.le_refl n)
def pl_K (n : Nat) (T S : Nat → Int) (fa : Int → Int → Int) (N : Int) (M : Int → Int → Int) : Prop := (M 156 4 = (n : Int)) ∧ (∀ i, i < n → M 158 (i : Int) = T i) ∧ (∀ i, i < n → M 159 (i : Int) = S i) ∧ (∀ i fr, i < n → 0 ≤ fr → fr < N → v_lengthBetween fr (T i) M = fa fr (T i))
theorem pl_K.c {n : Nat} {T S : Nat → Int} {fa : Int → Int → Int} {N : Int} {M : Int → Int → Int} (h : pl_K n T S fa N M) : M 156 4 = (n : Int) := h.1
theorem pl_K.t {n : Nat} {T S : Nat → Int} {fa : Int → Int → Int} {N : Int} {M : Int → Int → Int} (h : pl_K n T S fa N M) : ∀ i, i < n → M 158 (i : Int) = T i := h.2.1
theorem pl_K.s {n : Nat} {T S : Nat → Int} {fa : Int → Int → Int} {N : Int} {M : Int → Int → Int} (h : pl_K n T S fa N M) : ∀ i, i < n → M 159 (i : Int) = S i := h.2.2.1
theorem pl_K.l {n : Nat} {T S : Nat → Int} {fa : Int → Int → Int} {N : Int} {M : Int → Int → Int} (h : pl_K n T S fa N M) : ∀ i fr, i < n → 0 ≤ fr → fr < N → v_lengthBetween fr (T i) M = fa fr (T i) := h.2.2.2
theorem lb_fr {M M2 : Int → Int → Int} {a b : Int} (h : ∀ a k, a < 155 → M2 a k = M a k) (ha : a < 12) : v_lengthBetween a b M2 = v_lengthBetween a b M := by
  unfold v_lengthBetween v_lengthTo
  rw [h 1 1 (by omega), h (5 + 7 * a) b (by omega)]
theorem K_fr {n : Nat} {T S : Nat → Int} {fa : Int → Int → Int} {N : Int} {M M2 : Int → Int → Int} (h : pl_K n T S fa N M) (hN : N ≤ 12) (e : ∀ a k, a < 160 → a ≠ 157 → ¬ (a = 156 ∧ k = 1) → M2 a k = M a k) : pl_K n T S fa N M2 :=
  ⟨(e _ _ (by omega) (by omega) (by omega)).trans h.c, fun i hi => (e _ _ (by omega) (by omega) (by omega)).trans (h.t i hi), fun i hi => (e _ _ (by omega) (by omega) (by omega)).trans (h.s i hi), fun i fr hi h0 h1 => (lb_fr (fun a k q => e a k (by omega) (by omega) (by omega)) (by omega)).trans (h.l i fr hi h0 h1)⟩
theorem hold_b {n : Nat} {T S : Nat → Int} {fa : Int → Int → Int} {N : Int} (hn : n < 8) (hS : ∀ i, i < n → -100 ≤ S i ∧ S i ≤ 100) {se : Nat} (hse : se < 128) : ∀ (k : Nat) (M : Int → Int → Int) (i : Nat), pl_K n T S fa N M → i ≤ n → n < i + k → M 160 (se : Int) = pl_h S se i → ∀ a x, (l_addUpHeld_b (se : Int) k M (i : Int)).1 a x = if a = 160 ∧ x = (se : Int) then pl_h S se n else M a x := by
  intro k
  induction k with
  | zero => intro M i hK z1 z2; omega
  | succ k ih =>
    intro M i hK z1 z2 z3 a x
    rw [l_addUpHeld_b, hK.c]
    by_cases q : n ≤ i
    · rw [if_pos (by omega)]
      have : i = n := by omega
      subst this
      by_cases q2 : a = 160 ∧ x = (se : Int)
      · rw [if_pos q2, q2.1, q2.2]; exact z3
      · rw [if_neg q2]
    · rw [if_neg (by omega), (bt hse (show i < 7 by omega)).1]
      have up : pl_h S se (i + 1) = pl_h S se i + (if pl_b se i = 1 then S i else 0) := rfl
      rw [show (1 : Int) + (i : Int) = ((i + 1 : Nat) : Int) by omega]
      by_cases q2 : pl_b se i = 1
      · rw [if_pos q2] at up
        rw [if_neg (by omega), hK.s i (by omega), z3]
        have r := pl_h_in (vi := se) hS (i + 1) (by omega)
        rw [x_wn (w := pl_h S se (i + 1)) ⟨up.symm, by omega, by omega⟩]
        rw [ih _ _ ⟨by rw [x_up_ne (by omega)]; exact hK.c, fun j hj => by rw [x_up_ne (by omega)]; exact hK.t j hj, fun j hj => by rw [x_up_ne (by omega)]; exact hK.s j hj, ?_⟩ (by omega) (by omega) x_up_self]
        · by_cases q3 : a = 160 ∧ x = (se : Int)
          · rw [if_pos q3, if_pos q3]
          · rw [if_neg q3, if_neg q3, x_up_no q3]
        · intro j fr hj f0 f1
          refine Eq.trans ?_ (hK.l j fr hj f0 f1)
          unfold v_lengthBetween v_lengthTo
          by_cases z : 5 + 7 * fr = 160
          · omega
          · rw [x_up_ne (by omega), x_up_ne z]
      · rw [if_neg q2] at up
        rw [if_pos (by omega)]
        exact ih _ _ hK (by omega) (by omega) (by rw [z3]; omega) a x
theorem hold_a {n : Nat} {T S : Nat → Int} {fa : Int → Int → Int} {N : Int} (hN : N ≤ 12) (hn : n < 8) (hS : ∀ i, i < n → -100 ≤ S i ∧ S i ≤ 100) : ∀ (k : Nat) (M : Int → Int → Int) (se : Nat), pl_K n T S fa N M → se ≤ 2 ^ n → 2 ^ n < se + k → (∀ vi : Nat, vi < se → M 160 (vi : Int) = pl_h S vi n) → (∀ vi : Nat, vi < 2 ^ n → (l_addUpHeld_a k M (se : Int)).1 160 (vi : Int) = pl_h S vi n) ∧ ∀ a x, a ≠ 160 → (l_addUpHeld_a k M (se : Int)).1 a x = M a x := by
  intro k
  induction k with
  | zero => intro M se hK z1 z2; omega
  | succ k ih =>
    intro M se hK z1 z2 z3
    have p7 := pow7 hn
    have p0 := pow0 (n := n)
    rw [l_addUpHeld_a]
    unfold v_allStands
    rw [hK.c, al hn]
    by_cases q : se = 2 ^ n
    · rw [if_pos (by omega)]
      exact ⟨fun vi hv => z3 vi (by omega), fun a x _ => rfl⟩
    · rw [if_neg (by omega), show (1 : Int) + (se : Int) = ((se + 1 : Nat) : Int) by omega]
      have K1 : pl_K n T S fa N (x_up M 160 (se : Int) 0) := K_fr hK hN (fun a k q1 _ _ => x_up_ne (by omega))
      have B := hold_b hn hS (se := se) (by omega) 8 (x_up M 160 (se : Int) 0) 0 K1 (by omega) (by omega) x_up_self
      rw [show ((0 : Nat) : Int) = 0 from rfl] at B
      have K2 : pl_K n T S fa N (l_addUpHeld_b (se : Int) 8 (x_up M 160 (se : Int) 0) 0).1 := K_fr K1 hN (fun a k q1 _ _ => by rw [B, if_neg (by omega)])
      have I := ih _ (se + 1) K2 (by omega) (by omega) (fun vi hv => by
        rw [B]
        by_cases z : vi = se
        · subst z; rw [if_pos ⟨rfl, rfl⟩]
        · rw [if_neg (by omega), x_up_nk (by omega)]; exact z3 vi (by omega))
      exact ⟨I.1, fun a x hx => by rw [I.2 a x hx, B, if_neg (by omega), x_up_ne hx]⟩
/-- what is left from a set on -/
def pl_L (T S : Nat → Int) (fa : Int → Int → Int) (ld : Int) (n vi la : Nat) : Int := if 0 ≤ pl_h S vi n ∧ pl_h S vi n ≤ ld then pl_V (pl_R T S fa ld n (pl_rm n vi) (T la) (pl_h S vi n) vi) else 1000000
def pl_F (T S : Nat → Int) (fa : Int → Int → Int) (ld : Int) (n k : Nat) (h g : Int) (vi : Nat) : Nat → Option (Int × List Nat) := fun i => if pl_b vi i = 0 then (if 0 ≤ g + S i ∧ g + S i ≤ ld then (pl_R T S fa ld n k (T i) (g + S i) (vi + 2 ^ i)).map (fun p => (fa h (T i) + p.1, i :: p.2)) else none) else none
theorem on_F {n : Nat} {T S : Nat → Int} {fa : Int → Int → Int} {N ld : Int} {M : Int → Int → Int} (hK : pl_K n T S fa N M) (hn : n < 8) {vi k : Nat} (hv : vi < 2 ^ n) (hk : pl_rm n vi = k + 1) (h61 : ∀ vj : Nat, vi < vj → vj < 2 ^ n → ∀ la, la < n → pl_b vj la = 1 → M 161 (7 * (vj : Int) + (la : Int)) = pl_L T S fa ld n vj la) {fr : Int} (hfr : 0 ≤ fr ∧ fr < N) (hf : ∀ i, i < n → 0 ≤ fa fr (T i) ∧ fa fr (T i) ≤ 999) {i : Nat} (hi : i < n) (hb : pl_b vi i = 0) : v_onwardBy fr (vi : Int) (i : Int) M = (match pl_F T S fa ld n k fr (pl_h S vi n) vi i with | none => fa fr (T i) + 1000000 | some p => p.1) := by
  have p7 := pow7 hn
  have p0 := Nat.pow_pos (n := i) (show 0 < 2 by omega)
  have Z := (pl_sets hn hv).2 i hi hb
  unfold v_onwardBy
  rw [hK.t i hi, hK.l i fr hi hfr.1 hfr.2, (bt (show vi < 128 by omega) (show i < 7 by omega)).2 hb, h61 (vi + 2 ^ i) (by omega) Z.2.1 i hi (by rw [Z.2.2 i hi, if_pos rfl])]
  unfold pl_L pl_F
  rw [if_pos hb, pl_h_add hn hv hi hb, show pl_rm n (vi + 2 ^ i) = k by omega]
  by_cases q : 0 ≤ pl_h S vi n + S i ∧ pl_h S vi n + S i ≤ ld
  · rw [if_pos q, if_pos q]
    cases pl_R T S fa ld n k (T i) (pl_h S vi n + S i) (vi + 2 ^ i) with
    | none => rfl
    | some p => rfl
  · rw [if_neg q, if_neg q]
theorem least_a {n : Nat} {T S : Nat → Int} {fa : Int → Int → Int} {N ld : Int} {M : Int → Int → Int} (hK : pl_K n T S fa N M) (hn : n < 8) (hfa : ∀ i j, i < n → j < n → 0 ≤ fa (T i) (T j) ∧ fa (T i) (T j) ≤ 999) {vi k : Nat} (hv : vi < 2 ^ n) (hk : pl_rm n vi = k + 1) (hk7 : k < 8) (h61 : ∀ vj : Nat, vi < vj → vj < 2 ^ n → ∀ la, la < n → pl_b vj la = 1 → M 161 (7 * (vj : Int) + (la : Int)) = pl_L T S fa ld n vj la) {fr : Int} (hfr : 0 ≤ fr ∧ fr < N) (hf : ∀ i, i < n → 0 ≤ fa fr (T i) ∧ fa fr (T i) ≤ 999) : ∀ (u : Nat) (i : Nat) (m : Int), i ≤ n → n < i + u → m ≤ 1000000 → (l_leastOnward_a fr (vi : Int) M u m (i : Int)).1 = min m (pl_V (pl_fo (pl_F T S fa ld n k fr (pl_h S vi n) vi) (List.range' i (n - i)))) := by
  have p7 := pow7 hn
  have okF : ∀ i, i < n → pl_ok (999 * 8) (pl_F T S fa ld n k fr (pl_h S vi n) vi i) := by
    intro i hi p hp
    unfold pl_F at hp
    split at hp
    · split at hp
      · have I := pl_ok_R (ld := ld) (S := S) hfa k (T i) (pl_h S vi n + S i) (vi + 2 ^ i) (by omega) (fun j hj => hfa i j hi hj)
        revert I hp
        cases pl_R T S fa ld n k (T i) (pl_h S vi n + S i) (vi + 2 ^ i) with
        | none => intro hp _; cases hp
        | some q =>
          intro hp I
          cases hp
          have := I q rfl
          have := hf i hi
          show 0 ≤ fa fr (T i) + q.1 ∧ fa fr (T i) + q.1 ≤ _
          omega
      · cases hp
    · cases hp
  intro u
  induction u with
  | zero => intro i m z1 z2; omega
  | succ u ih =>
    intro i m z1 z2 z3
    rw [l_leastOnward_a, hK.c]
    by_cases q : n ≤ i
    · rw [if_pos (by omega), show n - i = 0 by omega]
      show m = min m 1000000
      omega
    · have cb := pl_V_cb (B := 999 * 8) (by omega) (okF i (by omega)) (pl_ok_fo (F := pl_F T S fa ld n k fr (pl_h S vi n) vi) (r := List.range' (i + 1) (n - (i + 1))) (by omega) (fun j hj => okF j (by have := List.mem_range'_1.1 hj; omega)))
      rw [if_neg (by omega), (bt (show vi < 128 by omega) (show i < 7 by omega)).1, show n - i = (n - (i + 1)) + 1 by omega, List.range'_succ]
      show _ = min m (pl_V (pl_cb (pl_F T S fa ld n k fr (pl_h S vi n) vi i) (pl_fo (pl_F T S fa ld n k fr (pl_h S vi n) vi) (List.range' (i + 1) (n - (i + 1))))))
      rw [cb.1, show (1 : Int) + (i : Int) = ((i + 1 : Nat) : Int) by omega]
      have b01 := pl_b01 vi i
      by_cases hb : pl_b vi i = 0
      · have hi := show i < n by omega
        rw [if_neg (by omega), ih _ _ (by omega) (by omega) (by omega), on_F hK hn hv hk h61 hfr hf hi hb]
        have := hf i hi
        cases pl_F T S fa ld n k fr (pl_h S vi n) vi i with
        | none => show min (min m (fa fr (T i) + 1000000)) _ = min m (min 1000000 _); omega
        | some p => show min (min m p.1) _ = min m (min p.1 _); omega
      · rw [if_pos (by omega), ih _ _ (by omega) (by omega) z3]
        have e : pl_F T S fa ld n k fr (pl_h S vi n) vi i = none := by unfold pl_F; rw [if_neg hb]
        rw [e]
        show min m _ = min m (min 1000000 _)
        omega
theorem pl_rm8 {n vi : Nat} (hn : n < 8) : pl_rm n vi < 8 := by
  unfold pl_rm
  have := List.length_filter_le (fun i => pl_b vi i == 0) (List.range n)
  rw [List.length_range] at this
  omega
theorem least_e {n : Nat} {T S : Nat → Int} {fa : Int → Int → Int} {N ld : Int} {M : Int → Int → Int} (hK : pl_K n T S fa N M) (hn : n < 8) (hfa : ∀ i j, i < n → j < n → 0 ≤ fa (T i) (T j) ∧ fa (T i) (T j) ≤ 999) {vi : Nat} (hv : vi < 2 ^ n) (h60 : M 160 (vi : Int) = pl_h S vi n) (h61 : ∀ vj : Nat, vi < vj → vj < 2 ^ n → ∀ la, la < n → pl_b vj la = 1 → M 161 (7 * (vj : Int) + (la : Int)) = pl_L T S fa ld n vj la) {fr : Int} (hfr : 0 ≤ fr ∧ fr < N) (hf : ∀ i, i < n → 0 ≤ fa fr (T i) ∧ fa fr (T i) ≤ 999) : v_leastOnward fr (vi : Int) M = pl_V (pl_R T S fa ld n (pl_rm n vi) fr (pl_h S vi n) vi) := by
  have p0 := pow0 (n := n)
  have Z := (pl_sets hn hv).1
  unfold v_leastOnward v_allStands
  rw [hK.c, al hn, h60]
  by_cases q : vi = 2 ^ n - 1
  · rw [if_neg (by omega), Z.2 q, pl_R]
    by_cases g : pl_h S vi n = 0
    · rw [if_neg (by omega), if_pos g]; rfl
    · rw [if_pos g, if_neg g]; rfl
  · rw [if_pos (by omega)]
    have r8 := pl_rm8 (vi := vi) hn
    obtain ⟨k, hk⟩ : ∃ k, pl_rm n vi = k + 1 := ⟨pl_rm n vi - 1, by
      have : pl_rm n vi ≠ 0 := fun z => q (Z.1 z)
      omega⟩
    have A := least_a hK hn hfa hv hk (by omega) h61 hfr hf 8 0 1000000 (by omega) (by omega) (by omega)
    rw [show ((0 : Nat) : Int) = 0 from rfl] at A
    rw [A, hk, pl_R, Nat.sub_zero, ← List.range_eq_range']
    have okR := pl_ok_R (ld := ld) (S := S) (T := T) (fa := fa) (n := n) hfa (k + 1) fr (pl_h S vi n) vi (by omega) hf
    rw [pl_R] at okR
    show min 1000000 (pl_V (pl_fo (pl_F T S fa ld n k fr (pl_h S vi n) vi) (List.range n))) = pl_V (pl_fo (pl_F T S fa ld n k fr (pl_h S vi n) vi) (List.range n))
    have okR : pl_ok (999 * ((k + 1 : Nat) : Int)) (pl_fo (pl_F T S fa ld n k fr (pl_h S vi n) vi) (List.range n)) := okR
    revert okR
    generalize pl_fo (pl_F T S fa ld n k fr (pl_h S vi n) vi) (List.range n) = o
    intro okR
    cases o with
    | none => show min 1000000 (1000000 : Int) = 1000000; omega
    | some p => have := okR p rfl; show min 1000000 p.1 = p.1; omega
theorem meas_b {n : Nat} {T S : Nat → Int} {fa : Int → Int → Int} {N ld ft : Int} (hn : n < 8) (hN : N ≤ 12) (hT : ∀ i, i < n → 0 ≤ T i ∧ T i < N) (hfa : ∀ i j, i < n → j < n → 0 ≤ fa (T i) (T j) ∧ fa (T i) (T j) ≤ 999) {se : Nat} (hse : se < 2 ^ n) (hft : ft = if 0 ≤ pl_h S se n ∧ pl_h S se n ≤ ld then 1 else 0) : ∀ (k : Nat) (M : Int → Int → Int) (la : Nat), pl_K n T S fa N M → M 160 (se : Int) = pl_h S se n → (∀ vj : Nat, se < vj → vj < 2 ^ n → ∀ la, la < n → pl_b vj la = 1 → M 161 (7 * (vj : Int) + (la : Int)) = pl_L T S fa ld n vj la) → la ≤ n → n < la + k → (∀ x : Nat, x < la → pl_b se x = 1 → M 161 (7 * (se : Int) + (x : Int)) = pl_L T S fa ld n se x) → (∀ x : Nat, x < n → pl_b se x = 1 → (l_measureLeft_b ld (se : Int) ft k M (la : Int)).1 161 (7 * (se : Int) + (x : Int)) = pl_L T S fa ld n se x) ∧ ∀ a x, ¬ (a = 161 ∧ 7 * (se : Int) ≤ x ∧ x < 7 * (se : Int) + 7) → (l_measureLeft_b ld (se : Int) ft k M (la : Int)).1 a x = M a x := by
  intro k
  induction k with
  | zero => intro M la hK h60 h61 z1 z2; omega
  | succ k ih =>
    intro M la hK h60 h61 z1 z2 z3
    have p7 := pow7 hn
    rw [l_measureLeft_b, hK.c]
    by_cases q : n ≤ la
    · rw [if_pos (by omega)]
      exact ⟨fun x hx hb => z3 x (by omega) hb, fun a x _ => rfl⟩
    · have hl : la < n := by omega
      rw [if_neg (by omega), (bt (show se < 128 by omega) (show la < 7 by omega)).1, show (1 : Int) + (la : Int) = ((la + 1 : Nat) : Int) by omega]
      have b01 := pl_b01 se la
      by_cases hb : pl_b se la = 1
      · rw [if_neg (by omega)]
        have W : ∀ v, v = pl_L T S fa ld n se la → (∀ x : Nat, x < n → pl_b se x = 1 → (l_measureLeft_b ld (se : Int) ft k (x_up M 161 (7 * (se : Int) + (la : Int)) v) ((la + 1 : Nat) : Int)).1 161 (7 * (se : Int) + (x : Int)) = pl_L T S fa ld n se x) ∧ ∀ a x, ¬ (a = 161 ∧ 7 * (se : Int) ≤ x ∧ x < 7 * (se : Int) + 7) → (l_measureLeft_b ld (se : Int) ft k (x_up M 161 (7 * (se : Int) + (la : Int)) v) ((la + 1 : Nat) : Int)).1 a x = M a x := by
          intro v hv
          have I := ih (x_up M 161 (7 * (se : Int) + (la : Int)) v) (la + 1) (K_fr hK hN (fun a k q1 _ _ => x_up_ne (by omega))) (by rw [x_up_ne (by omega)]; exact h60) (fun vj v1 v2 l2 l3 l4 => by rw [x_up_nk (by omega)]; exact h61 vj v1 v2 l2 l3 l4) (by omega) (by omega) (fun x hx hbx => by
            by_cases z : x = la
            · subst z; rw [x_up_self]; exact hv
            · rw [x_up_nk (by omega)]; exact z3 x (by omega) hbx)
          exact ⟨I.1, fun a x hx => by rw [I.2 a x hx, x_up_no (by omega)]⟩
        by_cases q2 : 0 ≤ pl_h S se n ∧ pl_h S se n ≤ ld
        · rw [if_pos q2] at hft
          rw [if_neg (by omega)]
          refine W _ ?_
          unfold pl_L
          rw [if_pos q2, hK.t la hl]
          exact least_e hK hn hfa hse h60 h61 (hT la hl) (fun j hj => hfa la j hl hj)
        · rw [if_neg q2] at hft
          rw [if_pos hft]
          refine W _ ?_
          unfold pl_L
          rw [if_neg q2]
      · rw [if_pos (by omega)]
        exact ih _ _ hK h60 h61 (by omega) (by omega) (fun x hx hbx => by
          by_cases z : x = la
          · subst z; exact absurd hbx hb
          · exact z3 x (by omega) hbx)
theorem meas_a {n : Nat} {T S : Nat → Int} {fa : Int → Int → Int} {N ld : Int} (hn : n < 8) (hN : N ≤ 12) (hT : ∀ i, i < n → 0 ≤ T i ∧ T i < N) (hfa : ∀ i j, i < n → j < n → 0 ≤ fa (T i) (T j) ∧ fa (T i) (T j) ≤ 999) : ∀ (k : Nat) (M : Int → Int → Int) (se : Nat), pl_K n T S fa N M → (∀ vi : Nat, vi < 2 ^ n → M 160 (vi : Int) = pl_h S vi n) → se < 2 ^ n → se < k → (∀ vj : Nat, se < vj → vj < 2 ^ n → ∀ la, la < n → pl_b vj la = 1 → M 161 (7 * (vj : Int) + (la : Int)) = pl_L T S fa ld n vj la) → (∀ vj : Nat, 0 < vj → vj < 2 ^ n → ∀ la, la < n → pl_b vj la = 1 → (l_measureLeft_a ld k M (se : Int)).1 161 (7 * (vj : Int) + (la : Int)) = pl_L T S fa ld n vj la) ∧ ∀ a x, a ≠ 161 → (l_measureLeft_a ld k M (se : Int)).1 a x = M a x := by
  intro k
  induction k with
  | zero => intro M se hK h60 z1 z2; omega
  | succ k ih =>
    intro M se hK h60 z1 z2 z3
    rw [l_measureLeft_a]
    by_cases q : se = 0
    · subst q
      rw [if_pos (by omega)]
      exact ⟨fun vj v1 v2 => z3 vj (by omega) v2, fun a x _ => rfl⟩
    · rw [if_neg (by omega), h60 se z1, show (-1 : Int) + (se : Int) = ((se - 1 : Nat) : Int) by omega]
      have STEP : ∀ ft, (ft = if 0 ≤ pl_h S se n ∧ pl_h S se n ≤ ld then 1 else 0) → (∀ vj : Nat, 0 < vj → vj < 2 ^ n → ∀ la, la < n → pl_b vj la = 1 → (l_measureLeft_a ld k (l_measureLeft_b ld (se : Int) ft 8 M 0).1 ((se - 1 : Nat) : Int)).1 161 (7 * (vj : Int) + (la : Int)) = pl_L T S fa ld n vj la) ∧ ∀ a x, a ≠ 161 → (l_measureLeft_a ld k (l_measureLeft_b ld (se : Int) ft 8 M 0).1 ((se - 1 : Nat) : Int)).1 a x = M a x := by
        intro ft hft
        have B := meas_b hn hN hT hfa z1 hft 8 M 0 hK (h60 se z1) z3 (by omega) (by omega) (fun x hx => by omega)
        rw [show ((0 : Nat) : Int) = 0 from rfl] at B
        have I := ih (l_measureLeft_b ld (se : Int) ft 8 M 0).1 (se - 1) (K_fr hK hN (fun a k q1 _ _ => B.2 a k (by omega))) (fun vi hv => by rw [B.2 _ _ (by omega)]; exact h60 vi hv) (by omega) (by omega) (fun vj v1 v2 la l1 l2 => by
          by_cases z : vj = se
          · subst z; exact B.1 la l1 l2
          · rw [B.2 _ _ (by omega)]; exact z3 vj (by omega) v2 la l1 l2)
        exact ⟨I.1, fun a x hx => by rw [I.2 a x hx, B.2 _ _ (by omega)]⟩
      by_cases q2 : pl_h S se n < 0
      · rw [if_pos q2]; exact STEP 0 (by rw [if_neg (by omega)])
      · rw [if_neg q2]
        by_cases q3 : ld < pl_h S se n
        · rw [if_pos q3]; exact STEP 0 (by rw [if_neg (by omega)])
        · rw [if_neg q3]; exact STEP 1 (by rw [if_pos (by omega)])
