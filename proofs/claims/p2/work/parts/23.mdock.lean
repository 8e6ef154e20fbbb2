/-! the model's methods over docks and wheels -/
abbrev a_fr (A : Int → Int) (s d : Int) : Prop := (0 ≤ d ∧ d < A (10 + 80 * s)) ∧ A (11 + 80 * s + d) = -1
abbrev a_fit (A : Int → Int) (kd s d : Int) : Prop := ((0 ≤ d ∧ d < A (10 + 80 * s)) ∧ A (11 + 80 * s + d) = -1) ∧ (kd = 2 → (0 ≤ d + 1 ∧ d + 1 < A (10 + 80 * s)) ∧ A (12 + 80 * s + d) = -1)
def a_room (A : Int → Int) (kd s : Int) : Int := x_fst (fun d => a_fit A kd s d) (A (10 + 80 * s)).toNat 0
def a_comes (A : Int → Int) (w s d : Int) : Int → Int := a_up (a_up (a_up (if A (1114 + 8 * w) = 2 then a_up (a_up A (11 + 80 * s + d) w) (12 + 80 * s + d) w else a_up A (11 + 80 * s + d) w) (1116 + 8 * w) 0) (1117 + 8 * w) s) (1118 + 8 * w) d
def a_leaves (A : Int → Int) (w : Int) : Int → Int := if A (1114 + 8 * w) = 2 then a_up (a_up A (11 + 80 * A (1117 + 8 * w) + A (1118 + 8 * w)) (-1)) (12 + 80 * A (1117 + 8 * w) + A (1118 + 8 * w)) (-1) else a_up A (11 + 80 * A (1117 + 8 * w) + A (1118 + 8 * w)) (-1)
theorem x_ct_t {p : Int → Prop} [DecidablePred p] {k : Nat} {n d : Int} (h : p d) : n + x_ct p (k + 1) d = 1 + n + x_ct p k (1 + d) := by
  show n + ((if p d then 1 else 0) + x_ct p k (d + 1)) = _
  rw [if_pos h, Int.add_comm d 1]
  omega
theorem x_ct_f {p : Int → Prop} [DecidablePred p] {k : Nat} {n d : Int} (h : ¬ p d) : n + x_ct p (k + 1) d = n + x_ct p k (1 + d) := by
  show n + ((if p d then 1 else 0) + x_ct p k (d + 1)) = _
  rw [if_neg h, Int.add_comm d 1]
  omega
theorem x_ct_0 {p : Int → Prop} [DecidablePred p] {n d : Int} : n + x_ct p 0 d = n := by
  show n + 0 = n
  omega
theorem x_fst_t {p : Int → Prop} [DecidablePred p] {k : Nat} {d : Int} (h : p d) : x_fst p (k + 1) d = d := if_pos h
theorem x_fst_f {p : Int → Prop} [DecidablePred p] {k : Nat} {d : Int} (h : ¬ p d) : x_fst p (k + 1) d = x_fst p k (1 + d) := by rw [Int.add_comm 1 d]; exact if_neg h
theorem x_ct_le {p : Int → Prop} [DecidablePred p] (k : Nat) (d : Int) : 0 ≤ x_ct p k d ∧ x_ct p k d ≤ k := by
  induction k generalizing d with
  | zero => exact ⟨Int.le_refl _, Int.le_refl _⟩
  | succ k ih =>
    have := ih (d + 1)
    show 0 ≤ (if p d then 1 else 0) + x_ct p k (d + 1) ∧ (if p d then 1 else 0) + x_ct p k (d + 1) ≤ ((k + 1 : Nat) : Int)
    split <;> omega
theorem x_fst_in {p : Int → Prop} [DecidablePred p] (k : Nat) (d : Int) : (x_fst p k d = -1 ∧ ∀ j, d ≤ j → j < d + k → ¬ p j) ∨ (d ≤ x_fst p k d ∧ x_fst p k d < d + k ∧ p (x_fst p k d)) := by
  induction k generalizing d with
  | zero => exact Or.inl ⟨rfl, fun j h1 h2 => absurd h2 (by omega)⟩
  | succ k ih =>
    by_cases h : p d
    · rw [x_fst_t h]
      exact Or.inr ⟨by omega, by omega, h⟩
    · rw [x_fst_f h]
      rcases ih (1 + d) with ⟨h1, h2⟩ | ⟨h1, h2, h3⟩
      · refine Or.inl ⟨h1, fun j h3 h4 => ?_⟩
        by_cases q : j = d
        · rw [q]; exact h
        · exact h2 j (by omega) (by omega)
      · exact Or.inr ⟨by omega, by omega, h3⟩
theorem m_isDock {z : Int} {P M : Int → Int → Int} {A : Int → Int} (hS : x_Sh z P) (hn : A 0 ≤ 12) (s d : Int) : x_Call 125 [.inr 162, .inl (s), .inl (d)] (z, P, (x_row M 163 A)) (some (.inl (x_b ((0 ≤ s ∧ s < A 0) ∧ 0 ≤ d ∧ d < A (10 + 80 * s))))) (z, P, (x_row M 163 A)) := by
  refine e_body (ls0 := [.inr 162, .inl (s), .inl (d)]) xm125 rfl ?_
  refine e_aload (k := 0) (xi125 0) rfl (by decide) ?_
  refine e_iload (k := 1) (xi125 1) rfl ?_
  refine e_call (k := 2) (v := some (.inl (x_b (0 ≤ s ∧ s < A 0)))) (h1 := (z, P, (x_row M 163 A))) (c1 := 0) (c2 := 0) (rest := []) (as := [.inr 162, .inl (s)]) (xi125 2) (by decide) xm114 rfl ⟨rfl, Nat.le_of_ble_eq_true rfl, by decide⟩ (Or.inr (x_okt (ok_mo hS))) (m_isStand hS s (M := M) (A := A)) ?_
  refine e_b_eq (k := 3) (xi125 3) (fun c0 => ?_) (fun c0 => ?_)
  · skip
    refine e_iload (k := 4) (xi125 4) rfl ?_
    refine e_aload (k := 5) (xi125 5) rfl (by decide) ?_
    refine e_iload (k := 6) (xi125 6) rfl ?_
    refine e_call (k := 7) (v := some (.inl (A (10 + 80 * s)))) (h1 := (z, P, (x_row M 163 A))) (c1 := 0) (c2 := 0) (rest := [.inl (d)]) (as := [.inr 162, .inl (s)]) (xi125 7) (by decide) xm118 rfl ⟨rfl, Nat.le_of_ble_eq_true rfl, by decide⟩ (Or.inr (x_okt (ok_mo hS))) (m_docks hS (s := s) (by omega) (M := M) (A := A)) ?_
    refine e_call (k := 8) (v := some (.inl (x_b (0 ≤ d ∧ d < A (10 + 80 * s))))) (h1 := (z, P, (x_row M 163 A))) (c1 := 0) (c2 := 0) (rest := []) (as := [.inl (d), .inl (A (10 + 80 * s))]) (xi125 8) (by decide) xm113 rfl ⟨rfl, Nat.le_of_ble_eq_true rfl, by decide⟩ (Or.inl rfl) (m_isIn d (A (10 + 80 * s))) ?_
    refine e_b_eq (k := 9) (xi125 9) (fun c1 => ?_) (fun c1 => ?_)
    · skip
      refine e_iconst (k := 10) (xi125 10) ?_
      refine e_goto (k := 11) (xi125 11) ?_
      refine e_zret (k := 13) (xi125 13) (by decide) ?_
      exact x_bT (by omega)
    · skip
      refine e_iconst (k := 12) (xi125 12) ?_
      refine e_zret (k := 13) (xi125 13) (by decide) ?_
      exact x_bF (by omega)
  · skip
    refine e_iconst (k := 12) (xi125 12) ?_
    refine e_zret (k := 13) (xi125 13) (by decide) ?_
    exact x_bF (by omega)
theorem m_isFree {z : Int} {P M : Int → Int → Int} {A : Int → Int} (hS : x_Sh z P) (hn : A 0 ≤ 12) (hdk : ∀ s, 0 ≤ s ∧ s < A 0 → A (10 + 80 * s) ≤ 12) (s d : Int) : x_Call 133 [.inr 162, .inl (s), .inl (d)] (z, P, (x_row M 163 A)) (some (.inl (x_b ((0 ≤ s ∧ s < A 0) ∧ (0 ≤ d ∧ d < A (10 + 80 * s)) ∧ A (11 + 80 * s + d) = -1)))) (z, P, (x_row M 163 A)) := by
  refine e_body (ls0 := [.inr 162, .inl (s), .inl (d)]) xm133 rfl ?_
  refine e_aload (k := 0) (xi133 0) rfl (by decide) ?_
  refine e_iload (k := 1) (xi133 1) rfl ?_
  refine e_iload (k := 2) (xi133 2) rfl ?_
  refine e_call (k := 3) (v := some (.inl (x_b ((0 ≤ s ∧ s < A 0) ∧ 0 ≤ d ∧ d < A (10 + 80 * s))))) (h1 := (z, P, (x_row M 163 A))) (c1 := 0) (c2 := 0) (rest := []) (as := [.inr 162, .inl (s), .inl (d)]) (xi133 3) (by decide) xm125 rfl ⟨rfl, Nat.le_of_ble_eq_true rfl, by decide⟩ (Or.inr (x_okt (ok_mo hS))) (m_isDock hS (M := M) (A := A) (by first | omega | (rw [(show A 0 = A 0 from rfl)]; omega)) s d) ?_
  refine e_b_eq (k := 4) (xi133 4) (fun c0 => ?_) (fun c0 => ?_)
  · skip
    have hk := hdk s c0.1
    refine e_aload (k := 5) (xi133 5) rfl (by decide) ?_
    refine e_getR (j := 0) (w := 163) (k := 6) (xi133 6) (ok_mo hS) rfl (sh_all hS) ?_
    refine e_aload (k := 7) (xi133 7) rfl (by decide) ?_
    refine e_iload (k := 8) (xi133 8) rfl ?_
    refine e_iload (k := 9) (xi133 9) rfl ?_
    refine e_call (k := 10) (v := some (.inl (11 + 80 * s + d))) (h1 := (z, P, (x_row M 163 A))) (c1 := 0) (c2 := 0) (rest := [.inr 163]) (as := [.inr 162, .inl (s), .inl (d)]) (xi133 10) (by decide) xm119 rfl ⟨rfl, Nat.le_of_ble_eq_true rfl, by decide⟩ (Or.inr (x_okt (ok_mo hS))) (m_dockAt hS (s := s) (d := d) (by omega) (by omega) (M := M) (A := A)) ?_
    refine e_iald (w := A (11 + 80 * s + d)) (k := 11) (xi133 11) (ok_all hS) (by rw [ln_all]; omega) (((if_pos rfl).trans rfl)) ?_
    refine e_iconst (k := 12) (xi133 12) ?_
    refine e_c_ne (k := 13) (xi133 13) (fun c1 => ?_) (fun c1 => ?_)
    · skip
      refine e_iconst (k := 16) (xi133 16) ?_
      refine e_zret (k := 17) (xi133 17) (by decide) ?_
      exact x_bF (by omega)
    · skip
      refine e_iconst (k := 14) (xi133 14) ?_
      refine e_goto (k := 15) (xi133 15) ?_
      refine e_zret (k := 17) (xi133 17) (by decide) ?_
      exact x_bT (by omega)
  · skip
    refine e_iconst (k := 16) (xi133 16) ?_
    refine e_zret (k := 17) (xi133 17) (by decide) ?_
    exact x_bF (by omega)
theorem m_fits {z : Int} {P M : Int → Int → Int} {A : Int → Int} (hS : x_Sh z P) (hn : A 0 ≤ 12) (hdk : ∀ s, 0 ≤ s ∧ s < A 0 → A (10 + 80 * s) ≤ 12) (kd s d : Int) (hd : d < 2147483647) : x_Call 134 [.inr 162, .inl (kd), .inl (s), .inl (d)] (z, P, (x_row M 163 A)) (some (.inl (x_b ((0 ≤ s ∧ s < A 0) ∧ a_fit A kd s d)))) (z, P, (x_row M 163 A)) := by
  refine e_body (ls0 := [.inr 162, .inl (kd), .inl (s), .inl (d)]) xm134 rfl ?_
  refine e_aload (k := 0) (xi134 0) rfl (by decide) ?_
  refine e_iload (k := 1) (xi134 1) rfl ?_
  refine e_iload (k := 2) (xi134 2) rfl ?_
  refine e_call (k := 3) (v := some (.inl (x_b ((0 ≤ s ∧ s < A 0) ∧ (0 ≤ d ∧ d < A (10 + 80 * s)) ∧ A (11 + 80 * s + d) = -1)))) (h1 := (z, P, (x_row M 163 A))) (c1 := 0) (c2 := 0) (rest := []) (as := [.inr 162, .inl (s), .inl (d)]) (xi134 3) (by decide) xm133 rfl ⟨rfl, Nat.le_of_ble_eq_true rfl, by decide⟩ (Or.inr (x_okt (ok_mo hS))) (m_isFree hS (M := M) (A := A) hn hdk s d) ?_
  refine e_b_eq (k := 4) (xi134 4) (fun c0 => ?_) (fun c0 => ?_)
  · skip
    refine e_iload (k := 5) (xi134 5) rfl ?_
    refine e_iconst (k := 6) (xi134 6) ?_
    refine e_c_ne (k := 7) (xi134 7) (fun c1 => ?_) (fun c1 => ?_)
    · skip
      refine e_iconst (k := 15) (xi134 15) ?_
      refine e_goto (k := 16) (xi134 16) ?_
      refine e_zret (k := 18) (xi134 18) (by decide) ?_
      exact x_bT (by omega)
    · skip
      have hk := hdk s c0.1
      refine e_aload (k := 8) (xi134 8) rfl (by decide) ?_
      refine e_iload (k := 9) (xi134 9) rfl ?_
      refine e_iload (k := 10) (xi134 10) rfl ?_
      refine e_iconst (k := 11) (xi134 11) ?_
      refine e_iadd (w := 1 + d) (k := 12) (xi134 12) (x_wn (by omega)) ?_
      refine e_call (k := 13) (v := some (.inl (x_b ((0 ≤ s ∧ s < A 0) ∧ (0 ≤ 1 + d ∧ 1 + d < A (10 + 80 * s)) ∧ A (12 + 80 * s + d) = -1)))) (h1 := (z, P, (x_row M 163 A))) (c1 := 0) (c2 := 0) (rest := []) (as := [.inr 162, .inl (s), .inl (1 + d)]) (xi134 13) (by decide) xm133 rfl ⟨rfl, Nat.le_of_ble_eq_true rfl, by decide⟩ (Or.inr (x_okt (ok_mo hS))) ((show x_Call _ _ _ (some (.inl (x_b ((0 ≤ s ∧ s < A 0) ∧ (0 ≤ 1 + d ∧ 1 + d < A (10 + 80 * s)) ∧ A (12 + 80 * s + d) = -1)))) _ from (by have h := m_isFree hS (M := M) (A := A) hn hdk s (1 + d); rw [show 11 + 80 * s + (1 + d) = 12 + 80 * s + d by omega] at h; exact h))) ?_
      refine e_b_eq (k := 14) (xi134 14) (fun c2 => ?_) (fun c2 => ?_)
      · skip
        refine e_iconst (k := 15) (xi134 15) ?_
        refine e_goto (k := 16) (xi134 16) ?_
        refine e_zret (k := 18) (xi134 18) (by decide) ?_
        exact x_bT (by omega)
      · skip
        refine e_iconst (k := 17) (xi134 17) ?_
        refine e_zret (k := 18) (xi134 18) (by decide) ?_
        exact x_bF (by omega)
  · skip
    refine e_iconst (k := 17) (xi134 17) ?_
    refine e_zret (k := 18) (xi134 18) (by decide) ?_
    exact x_bF (by omega)
theorem ml_cntF {z : Int} {P M : Int → Int → Int} {A : Int → Int} (hS : x_Sh z P) (hn : A 0 ≤ 12) (hdk : ∀ s, 0 ≤ s ∧ s < A 0 → A (10 + 80 * s) ≤ 12) {s : Int} (hs : 0 ≤ s ∧ s < A 0) : ∀ (k : Nat) (n d : Int) (x5 : xV), (0 ≤ d ∧ (A (10 + 80 * s) - d).toNat = k ∧ 0 ≤ n ∧ n ≤ d) → x_Ev 128 4 [.inr 162, .inl (s), .inl ((-1)), .inl (n), .inl (d), x5] [] (0, 0) (z, P, (x_row M 163 A)) (fun q => q = (some (.inl (n + x_ct (fun d => A (11 + 80 * s + d) = -1) k d)), (z, P, (x_row M 163 A)))) := by
  intro k
  induction k with
  | zero =>
    intro n d x5 hc
    refine e_iload (k := 4) (xi128 4) rfl ?_
    refine e_aload (k := 5) (xi128 5) rfl (by decide) ?_
    refine e_iload (k := 6) (xi128 6) rfl ?_
    refine e_call (k := 7) (v := some (.inl (A (10 + 80 * s)))) (h1 := (z, P, (x_row M 163 A))) (c1 := 0) (c2 := 0) (rest := [.inl (d)]) (as := [.inr 162, .inl (s)]) (xi128 7) (by decide) xm118 rfl ⟨rfl, Nat.le_of_ble_eq_true rfl, by decide⟩ (Or.inr (x_okt (ok_mo hS))) (m_docks hS (s := s) (by omega) (M := M) (A := A)) ?_
    refine e_c_ge (k := 8) (xi128 8) (fun c0 => ?_) (fun q => absurd (by have hk := hdk s hs; omega) q)
    refine e_iload (k := 38) (xi128 38) rfl ?_
    refine e_iret (k := 39) (xi128 39) ?_
    rw [x_ct_0]
  | succ k ih =>
    intro n d x5 hc
    refine e_iload (k := 4) (xi128 4) rfl ?_
    refine e_aload (k := 5) (xi128 5) rfl (by decide) ?_
    refine e_iload (k := 6) (xi128 6) rfl ?_
    refine e_call (k := 7) (v := some (.inl (A (10 + 80 * s)))) (h1 := (z, P, (x_row M 163 A))) (c1 := 0) (c2 := 0) (rest := [.inl (d)]) (as := [.inr 162, .inl (s)]) (xi128 7) (by decide) xm118 rfl ⟨rfl, Nat.le_of_ble_eq_true rfl, by decide⟩ (Or.inr (x_okt (ok_mo hS))) (m_docks hS (s := s) (by omega) (M := M) (A := A)) ?_
    refine e_c_ge (k := 8) (xi128 8) (fun q => absurd q (by omega)) (fun c0 => ?_)
    have hk := hdk s hs
    refine e_aload (k := 9) (xi128 9) rfl (by decide) ?_
    refine e_getR (j := 0) (w := 163) (k := 10) (xi128 10) (ok_mo hS) rfl (sh_all hS) ?_
    refine e_aload (k := 11) (xi128 11) rfl (by decide) ?_
    refine e_iload (k := 12) (xi128 12) rfl ?_
    refine e_iload (k := 13) (xi128 13) rfl ?_
    refine e_call (k := 14) (v := some (.inl (11 + 80 * s + d))) (h1 := (z, P, (x_row M 163 A))) (c1 := 0) (c2 := 0) (rest := [.inr 163]) (as := [.inr 162, .inl (s), .inl (d)]) (xi128 14) (by decide) xm119 rfl ⟨rfl, Nat.le_of_ble_eq_true rfl, by decide⟩ (Or.inr (x_okt (ok_mo hS))) (m_dockAt hS (s := s) (d := d) (by omega) (by omega) (M := M) (A := A)) ?_
    refine e_iald (w := A (11 + 80 * s + d)) (k := 15) (xi128 15) (ok_all hS) (by rw [ln_all]; omega) (((if_pos rfl).trans rfl)) ?_
    refine e_istore (k := 16) (xi128 16) (Nat.le_of_ble_eq_true rfl) ?_
    show x_Ev 128 17 [.inr 162, .inl (s), .inl ((-1)), .inl (n), .inl (d), .inl (A (11 + 80 * s + d))] [] (0, 0) (z, P, (x_row M 163 A)) _
    refine e_iload (k := 17) (xi128 17) rfl ?_
    refine e_iload (k := 18) (xi128 18) rfl ?_
    refine e_iconst (k := 19) (xi128 19) ?_
    refine e_c_ne (k := 20) (xi128 20) (fun q => absurd q (by decide)) (fun c1 => ?_)
    refine e_iload (k := 21) (xi128 21) rfl ?_
    refine e_iconst (k := 22) (xi128 22) ?_
    refine e_c_ne (k := 23) (xi128 23) (fun c2 => ?_) (fun c2 => ?_)
    · skip
      refine e_iconst (k := 26) (xi128 26) ?_
      refine e_goto (k := 27) (xi128 27) ?_
      refine e_iadd (w := n) (k := 34) (xi128 34) (x_wn (by omega)) ?_
      refine e_istore (k := 35) (xi128 35) (Nat.le_of_ble_eq_true rfl) ?_
      show x_Ev 128 36 [.inr 162, .inl (s), .inl ((-1)), .inl (n), .inl (d), .inl (A (11 + 80 * s + d))] [] (0, 0) (z, P, (x_row M 163 A)) _
      refine e_iinc (w := 1 + d) (k := 36) (xi128 36) rfl (x_wn (by omega)) ?_
      show x_Ev 128 37 [.inr 162, .inl (s), .inl ((-1)), .inl (n), .inl (1 + d), .inl (A (11 + 80 * s + d))] [] (0, 0) (z, P, (x_row M 163 A)) _
      refine e_goto (k := 37) (xi128 37) ?_
      rw [x_ct_f (p := (fun d => A (11 + 80 * s + d) = -1)) (by omega)]; exact ih n (1 + d) _ ⟨by omega, by omega, by omega, by omega⟩
    · skip
      refine e_iconst (k := 24) (xi128 24) ?_
      refine e_goto (k := 25) (xi128 25) ?_
      refine e_iadd (w := 1 + n) (k := 34) (xi128 34) (x_wn (by omega)) ?_
      refine e_istore (k := 35) (xi128 35) (Nat.le_of_ble_eq_true rfl) ?_
      show x_Ev 128 36 [.inr 162, .inl (s), .inl ((-1)), .inl (1 + n), .inl (d), .inl (A (11 + 80 * s + d))] [] (0, 0) (z, P, (x_row M 163 A)) _
      refine e_iinc (w := 1 + d) (k := 36) (xi128 36) rfl (x_wn (by omega)) ?_
      show x_Ev 128 37 [.inr 162, .inl (s), .inl ((-1)), .inl (1 + n), .inl (1 + d), .inl (A (11 + 80 * s + d))] [] (0, 0) (z, P, (x_row M 163 A)) _
      refine e_goto (k := 37) (xi128 37) ?_
      rw [x_ct_t (p := (fun d => A (11 + 80 * s + d) = -1)) (by omega)]; exact ih (1 + n) (1 + d) _ ⟨by omega, by omega, by omega, by omega⟩
theorem m_cntF {z : Int} {P M : Int → Int → Int} {A : Int → Int} (hS : x_Sh z P) (hn : A 0 ≤ 12) (hdk : ∀ s, 0 ≤ s ∧ s < A 0 → A (10 + 80 * s) ≤ 12) {s : Int} (hs : 0 ≤ s ∧ s < A 0) : x_Call 128 [.inr 162, .inl (s), .inl ((-1))] (z, P, (x_row M 163 A)) (some (.inl (x_ct (fun d => A (11 + 80 * s + d) = -1) (A (10 + 80 * s)).toNat 0))) (z, P, (x_row M 163 A)) := by
  refine e_body (ls0 := [.inr 162, .inl (s), .inl ((-1)), x_un, x_un, x_un]) xm128 rfl ?_
  refine e_iconst (k := 0) (xi128 0) ?_
  refine e_istore (k := 1) (xi128 1) (Nat.le_of_ble_eq_true rfl) ?_
  show x_Ev 128 2 [.inr 162, .inl (s), .inl ((-1)), .inl 0, x_un, x_un] [] (0, 0) (z, P, (x_row M 163 A)) _
  refine e_iconst (k := 2) (xi128 2) ?_
  refine e_istore (k := 3) (xi128 3) (Nat.le_of_ble_eq_true rfl) ?_
  show x_Ev 128 4 [.inr 162, .inl (s), .inl ((-1)), .inl 0, .inl 0, x_un] [] (0, 0) (z, P, (x_row M 163 A)) _
  have h := ml_cntF hS (M := M) (A := A) hn hdk hs (A (10 + 80 * s)).toNat 0 0 x_un ⟨by omega, by omega, by omega, by omega⟩
  rw [Int.zero_add] at h
  exact h
theorem ml_cntB {z : Int} {P M : Int → Int → Int} {A : Int → Int} (hS : x_Sh z P) (hn : A 0 ≤ 12) (hdk : ∀ s, 0 ≤ s ∧ s < A 0 → A (10 + 80 * s) ≤ 12) {s : Int} (hs : 0 ≤ s ∧ s < A 0) : ∀ (k : Nat) (n d : Int) (x5 : xV), (0 ≤ d ∧ (A (10 + 80 * s) - d).toNat = k ∧ 0 ≤ n ∧ n ≤ d) → x_Ev 128 4 [.inr 162, .inl (s), .inl ((-2)), .inl (n), .inl (d), x5] [] (0, 0) (z, P, (x_row M 163 A)) (fun q => q = (some (.inl (n + x_ct (fun d => ¬ A (11 + 80 * s + d) = -2) k d)), (z, P, (x_row M 163 A)))) := by
  intro k
  induction k with
  | zero =>
    intro n d x5 hc
    refine e_iload (k := 4) (xi128 4) rfl ?_
    refine e_aload (k := 5) (xi128 5) rfl (by decide) ?_
    refine e_iload (k := 6) (xi128 6) rfl ?_
    refine e_call (k := 7) (v := some (.inl (A (10 + 80 * s)))) (h1 := (z, P, (x_row M 163 A))) (c1 := 0) (c2 := 0) (rest := [.inl (d)]) (as := [.inr 162, .inl (s)]) (xi128 7) (by decide) xm118 rfl ⟨rfl, Nat.le_of_ble_eq_true rfl, by decide⟩ (Or.inr (x_okt (ok_mo hS))) (m_docks hS (s := s) (by omega) (M := M) (A := A)) ?_
    refine e_c_ge (k := 8) (xi128 8) (fun c0 => ?_) (fun q => absurd (by have hk := hdk s hs; omega) q)
    refine e_iload (k := 38) (xi128 38) rfl ?_
    refine e_iret (k := 39) (xi128 39) ?_
    rw [x_ct_0]
  | succ k ih =>
    intro n d x5 hc
    refine e_iload (k := 4) (xi128 4) rfl ?_
    refine e_aload (k := 5) (xi128 5) rfl (by decide) ?_
    refine e_iload (k := 6) (xi128 6) rfl ?_
    refine e_call (k := 7) (v := some (.inl (A (10 + 80 * s)))) (h1 := (z, P, (x_row M 163 A))) (c1 := 0) (c2 := 0) (rest := [.inl (d)]) (as := [.inr 162, .inl (s)]) (xi128 7) (by decide) xm118 rfl ⟨rfl, Nat.le_of_ble_eq_true rfl, by decide⟩ (Or.inr (x_okt (ok_mo hS))) (m_docks hS (s := s) (by omega) (M := M) (A := A)) ?_
    refine e_c_ge (k := 8) (xi128 8) (fun q => absurd q (by omega)) (fun c0 => ?_)
    have hk := hdk s hs
    refine e_aload (k := 9) (xi128 9) rfl (by decide) ?_
    refine e_getR (j := 0) (w := 163) (k := 10) (xi128 10) (ok_mo hS) rfl (sh_all hS) ?_
    refine e_aload (k := 11) (xi128 11) rfl (by decide) ?_
    refine e_iload (k := 12) (xi128 12) rfl ?_
    refine e_iload (k := 13) (xi128 13) rfl ?_
    refine e_call (k := 14) (v := some (.inl (11 + 80 * s + d))) (h1 := (z, P, (x_row M 163 A))) (c1 := 0) (c2 := 0) (rest := [.inr 163]) (as := [.inr 162, .inl (s), .inl (d)]) (xi128 14) (by decide) xm119 rfl ⟨rfl, Nat.le_of_ble_eq_true rfl, by decide⟩ (Or.inr (x_okt (ok_mo hS))) (m_dockAt hS (s := s) (d := d) (by omega) (by omega) (M := M) (A := A)) ?_
    refine e_iald (w := A (11 + 80 * s + d)) (k := 15) (xi128 15) (ok_all hS) (by rw [ln_all]; omega) (((if_pos rfl).trans rfl)) ?_
    refine e_istore (k := 16) (xi128 16) (Nat.le_of_ble_eq_true rfl) ?_
    show x_Ev 128 17 [.inr 162, .inl (s), .inl ((-2)), .inl (n), .inl (d), .inl (A (11 + 80 * s + d))] [] (0, 0) (z, P, (x_row M 163 A)) _
    refine e_iload (k := 17) (xi128 17) rfl ?_
    refine e_iload (k := 18) (xi128 18) rfl ?_
    refine e_iconst (k := 19) (xi128 19) ?_
    refine e_c_ne (k := 20) (xi128 20) (fun c1 => ?_) (fun q => absurd (by decide) q)
    refine e_iload (k := 28) (xi128 28) rfl ?_
    refine e_iconst (k := 29) (xi128 29) ?_
    refine e_c_eq (k := 30) (xi128 30) (fun c2 => ?_) (fun c2 => ?_)
    · skip
      refine e_iconst (k := 33) (xi128 33) ?_
      refine e_iadd (w := n) (k := 34) (xi128 34) (x_wn (by omega)) ?_
      refine e_istore (k := 35) (xi128 35) (Nat.le_of_ble_eq_true rfl) ?_
      show x_Ev 128 36 [.inr 162, .inl (s), .inl ((-2)), .inl (n), .inl (d), .inl (A (11 + 80 * s + d))] [] (0, 0) (z, P, (x_row M 163 A)) _
      refine e_iinc (w := 1 + d) (k := 36) (xi128 36) rfl (x_wn (by omega)) ?_
      show x_Ev 128 37 [.inr 162, .inl (s), .inl ((-2)), .inl (n), .inl (1 + d), .inl (A (11 + 80 * s + d))] [] (0, 0) (z, P, (x_row M 163 A)) _
      refine e_goto (k := 37) (xi128 37) ?_
      rw [x_ct_f (p := (fun d => ¬ A (11 + 80 * s + d) = -2)) (by omega)]; exact ih n (1 + d) _ ⟨by omega, by omega, by omega, by omega⟩
    · skip
      refine e_iconst (k := 31) (xi128 31) ?_
      refine e_goto (k := 32) (xi128 32) ?_
      refine e_iadd (w := 1 + n) (k := 34) (xi128 34) (x_wn (by omega)) ?_
      refine e_istore (k := 35) (xi128 35) (Nat.le_of_ble_eq_true rfl) ?_
      show x_Ev 128 36 [.inr 162, .inl (s), .inl ((-2)), .inl (1 + n), .inl (d), .inl (A (11 + 80 * s + d))] [] (0, 0) (z, P, (x_row M 163 A)) _
      refine e_iinc (w := 1 + d) (k := 36) (xi128 36) rfl (x_wn (by omega)) ?_
      show x_Ev 128 37 [.inr 162, .inl (s), .inl ((-2)), .inl (1 + n), .inl (1 + d), .inl (A (11 + 80 * s + d))] [] (0, 0) (z, P, (x_row M 163 A)) _
      refine e_goto (k := 37) (xi128 37) ?_
      rw [x_ct_t (p := (fun d => ¬ A (11 + 80 * s + d) = -2)) (by omega)]; exact ih (1 + n) (1 + d) _ ⟨by omega, by omega, by omega, by omega⟩
theorem m_cntB {z : Int} {P M : Int → Int → Int} {A : Int → Int} (hS : x_Sh z P) (hn : A 0 ≤ 12) (hdk : ∀ s, 0 ≤ s ∧ s < A 0 → A (10 + 80 * s) ≤ 12) {s : Int} (hs : 0 ≤ s ∧ s < A 0) : x_Call 128 [.inr 162, .inl (s), .inl ((-2))] (z, P, (x_row M 163 A)) (some (.inl (x_ct (fun d => ¬ A (11 + 80 * s + d) = -2) (A (10 + 80 * s)).toNat 0))) (z, P, (x_row M 163 A)) := by
  refine e_body (ls0 := [.inr 162, .inl (s), .inl ((-2)), x_un, x_un, x_un]) xm128 rfl ?_
  refine e_iconst (k := 0) (xi128 0) ?_
  refine e_istore (k := 1) (xi128 1) (Nat.le_of_ble_eq_true rfl) ?_
  show x_Ev 128 2 [.inr 162, .inl (s), .inl ((-2)), .inl 0, x_un, x_un] [] (0, 0) (z, P, (x_row M 163 A)) _
  refine e_iconst (k := 2) (xi128 2) ?_
  refine e_istore (k := 3) (xi128 3) (Nat.le_of_ble_eq_true rfl) ?_
  show x_Ev 128 4 [.inr 162, .inl (s), .inl ((-2)), .inl 0, .inl 0, x_un] [] (0, 0) (z, P, (x_row M 163 A)) _
  have h := ml_cntB hS (M := M) (A := A) hn hdk hs (A (10 + 80 * s)).toNat 0 0 x_un ⟨by omega, by omega, by omega, by omega⟩
  rw [Int.zero_add] at h
  exact h
theorem ml_cntW {z : Int} {P M : Int → Int → Int} {A : Int → Int} (hS : x_Sh z P) (hm : A 1 ≤ 60) {s wh mv : Int} : ∀ (k : Nat) (n w : Int), (0 ≤ w ∧ (A 1 - w).toNat = k ∧ 0 ≤ n ∧ n ≤ w) → x_Ev 131 4 [.inr 162, .inl (s), .inl (wh), .inl (mv), .inl (n), .inl (w)] [] (0, 0) (z, P, (x_row M 163 A)) (fun q => q = (some (.inl (n + x_ct (fun w => (A (1116 + 8 * w) = wh ∧ A (1117 + 8 * w) = s) ∧ ¬ (¬ mv = 0 ∧ A (1114 + 8 * w) = 2)) k w)), (z, P, (x_row M 163 A)))) := by
  intro k
  induction k with
  | zero =>
    intro n w hc
    refine e_iload (k := 4) (xi131 4) rfl ?_
    refine e_aload (k := 5) (xi131 5) rfl (by decide) ?_
    refine e_getR (j := 0) (w := 163) (k := 6) (xi131 6) (ok_mo hS) rfl (sh_all hS) ?_
    refine e_iconst (k := 7) (xi131 7) ?_
    refine e_iald (w := A 1) (k := 8) (xi131 8) (ok_all hS) (by rw [ln_all]; omega) (((if_pos rfl).trans rfl)) ?_
    refine e_c_ge (k := 9) (xi131 9) (fun c0 => ?_) (fun q => absurd (by omega) q)
    refine e_iload (k := 38) (xi131 38) rfl ?_
    refine e_iret (k := 39) (xi131 39) ?_
    rw [x_ct_0]
  | succ k ih =>
    intro n w hc
    refine e_iload (k := 4) (xi131 4) rfl ?_
    refine e_aload (k := 5) (xi131 5) rfl (by decide) ?_
    refine e_getR (j := 0) (w := 163) (k := 6) (xi131 6) (ok_mo hS) rfl (sh_all hS) ?_
    refine e_iconst (k := 7) (xi131 7) ?_
    refine e_iald (w := A 1) (k := 8) (xi131 8) (ok_all hS) (by rw [ln_all]; omega) (((if_pos rfl).trans rfl)) ?_
    refine e_c_ge (k := 9) (xi131 9) (fun q => absurd q (by omega)) (fun c0 => ?_)
    refine e_iload (k := 10) (xi131 10) rfl ?_
    refine e_aload (k := 11) (xi131 11) rfl (by decide) ?_
    refine e_iload (k := 12) (xi131 12) rfl ?_
    refine e_iconst (k := 13) (xi131 13) ?_
    refine e_call (k := 14) (v := some (.inl (A (1116 + 8 * w)))) (h1 := (z, P, (x_row M 163 A))) (c1 := 0) (c2 := 0) (rest := [.inl (n)]) (as := [.inr 162, .inl (w), .inl 2]) (xi131 14) (by decide) xm129 rfl ⟨rfl, Nat.le_of_ble_eq_true rfl, by decide⟩ (Or.inr (x_okt (ok_mo hS))) (m_of hS (w := w) (j := 2) (i := 1116 + 8 * w) (by omega) (by omega) (by omega) (M := M) (A := A)) ?_
    refine e_iload (k := 15) (xi131 15) rfl ?_
    refine e_c_ne (k := 16) (xi131 16) (fun c1 => ?_) (fun c1 => ?_)
    · skip
      refine e_iconst (k := 33) (xi131 33) ?_
      refine e_iadd (w := n) (k := 34) (xi131 34) (x_wn (by omega)) ?_
      refine e_istore (k := 35) (xi131 35) (Nat.le_of_ble_eq_true rfl) ?_
      show x_Ev 131 36 [.inr 162, .inl (s), .inl (wh), .inl (mv), .inl (n), .inl (w)] [] (0, 0) (z, P, (x_row M 163 A)) _
      refine e_iinc (w := 1 + w) (k := 36) (xi131 36) rfl (x_wn (by omega)) ?_
      show x_Ev 131 37 [.inr 162, .inl (s), .inl (wh), .inl (mv), .inl (n), .inl (1 + w)] [] (0, 0) (z, P, (x_row M 163 A)) _
      refine e_goto (k := 37) (xi131 37) ?_
      rw [x_ct_f (p := (fun w => (A (1116 + 8 * w) = wh ∧ A (1117 + 8 * w) = s) ∧ ¬ (¬ mv = 0 ∧ A (1114 + 8 * w) = 2))) (by omega)]; exact ih n (1 + w) ⟨by omega, by omega, by omega, by omega⟩
    · skip
      refine e_aload (k := 17) (xi131 17) rfl (by decide) ?_
      refine e_iload (k := 18) (xi131 18) rfl ?_
      refine e_iconst (k := 19) (xi131 19) ?_
      refine e_call (k := 20) (v := some (.inl (A (1117 + 8 * w)))) (h1 := (z, P, (x_row M 163 A))) (c1 := 0) (c2 := 0) (rest := [.inl (n)]) (as := [.inr 162, .inl (w), .inl 3]) (xi131 20) (by decide) xm129 rfl ⟨rfl, Nat.le_of_ble_eq_true rfl, by decide⟩ (Or.inr (x_okt (ok_mo hS))) (m_of hS (w := w) (j := 3) (i := 1117 + 8 * w) (by omega) (by omega) (by omega) (M := M) (A := A)) ?_
      refine e_iload (k := 21) (xi131 21) rfl ?_
      refine e_c_ne (k := 22) (xi131 22) (fun c2 => ?_) (fun c2 => ?_)
      · skip
        refine e_iconst (k := 33) (xi131 33) ?_
        refine e_iadd (w := n) (k := 34) (xi131 34) (x_wn (by omega)) ?_
        refine e_istore (k := 35) (xi131 35) (Nat.le_of_ble_eq_true rfl) ?_
        show x_Ev 131 36 [.inr 162, .inl (s), .inl (wh), .inl (mv), .inl (n), .inl (w)] [] (0, 0) (z, P, (x_row M 163 A)) _
        refine e_iinc (w := 1 + w) (k := 36) (xi131 36) rfl (x_wn (by omega)) ?_
        show x_Ev 131 37 [.inr 162, .inl (s), .inl (wh), .inl (mv), .inl (n), .inl (1 + w)] [] (0, 0) (z, P, (x_row M 163 A)) _
        refine e_goto (k := 37) (xi131 37) ?_
        rw [x_ct_f (p := (fun w => (A (1116 + 8 * w) = wh ∧ A (1117 + 8 * w) = s) ∧ ¬ (¬ mv = 0 ∧ A (1114 + 8 * w) = 2))) (by omega)]; exact ih n (1 + w) ⟨by omega, by omega, by omega, by omega⟩
      · skip
        refine e_iload (k := 23) (xi131 23) rfl ?_
        refine e_z_eq (k := 24) (xi131 24) (fun c3 => ?_) (fun c3 => ?_)
        · skip
          refine e_iconst (k := 31) (xi131 31) ?_
          refine e_goto (k := 32) (xi131 32) ?_
          refine e_iadd (w := 1 + n) (k := 34) (xi131 34) (x_wn (by omega)) ?_
          refine e_istore (k := 35) (xi131 35) (Nat.le_of_ble_eq_true rfl) ?_
          show x_Ev 131 36 [.inr 162, .inl (s), .inl (wh), .inl (mv), .inl (1 + n), .inl (w)] [] (0, 0) (z, P, (x_row M 163 A)) _
          refine e_iinc (w := 1 + w) (k := 36) (xi131 36) rfl (x_wn (by omega)) ?_
          show x_Ev 131 37 [.inr 162, .inl (s), .inl (wh), .inl (mv), .inl (1 + n), .inl (1 + w)] [] (0, 0) (z, P, (x_row M 163 A)) _
          refine e_goto (k := 37) (xi131 37) ?_
          rw [x_ct_t (p := (fun w => (A (1116 + 8 * w) = wh ∧ A (1117 + 8 * w) = s) ∧ ¬ (¬ mv = 0 ∧ A (1114 + 8 * w) = 2))) (by omega)]; exact ih (1 + n) (1 + w) ⟨by omega, by omega, by omega, by omega⟩
        · skip
          refine e_aload (k := 25) (xi131 25) rfl (by decide) ?_
          refine e_iload (k := 26) (xi131 26) rfl ?_
          refine e_iconst (k := 27) (xi131 27) ?_
          refine e_call (k := 28) (v := some (.inl (A (1114 + 8 * w)))) (h1 := (z, P, (x_row M 163 A))) (c1 := 0) (c2 := 0) (rest := [.inl (n)]) (as := [.inr 162, .inl (w), .inl 0]) (xi131 28) (by decide) xm129 rfl ⟨rfl, Nat.le_of_ble_eq_true rfl, by decide⟩ (Or.inr (x_okt (ok_mo hS))) (m_of hS (w := w) (j := 0) (i := 1114 + 8 * w) (by omega) (by omega) (by omega) (M := M) (A := A)) ?_
          refine e_iconst (k := 29) (xi131 29) ?_
          refine e_c_eq (k := 30) (xi131 30) (fun c4 => ?_) (fun c4 => ?_)
          · skip
            refine e_iconst (k := 33) (xi131 33) ?_
            refine e_iadd (w := n) (k := 34) (xi131 34) (x_wn (by omega)) ?_
            refine e_istore (k := 35) (xi131 35) (Nat.le_of_ble_eq_true rfl) ?_
            show x_Ev 131 36 [.inr 162, .inl (s), .inl (wh), .inl (mv), .inl (n), .inl (w)] [] (0, 0) (z, P, (x_row M 163 A)) _
            refine e_iinc (w := 1 + w) (k := 36) (xi131 36) rfl (x_wn (by omega)) ?_
            show x_Ev 131 37 [.inr 162, .inl (s), .inl (wh), .inl (mv), .inl (n), .inl (1 + w)] [] (0, 0) (z, P, (x_row M 163 A)) _
            refine e_goto (k := 37) (xi131 37) ?_
            rw [x_ct_f (p := (fun w => (A (1116 + 8 * w) = wh ∧ A (1117 + 8 * w) = s) ∧ ¬ (¬ mv = 0 ∧ A (1114 + 8 * w) = 2))) (by omega)]; exact ih n (1 + w) ⟨by omega, by omega, by omega, by omega⟩
          · skip
            refine e_iconst (k := 31) (xi131 31) ?_
            refine e_goto (k := 32) (xi131 32) ?_
            refine e_iadd (w := 1 + n) (k := 34) (xi131 34) (x_wn (by omega)) ?_
            refine e_istore (k := 35) (xi131 35) (Nat.le_of_ble_eq_true rfl) ?_
            show x_Ev 131 36 [.inr 162, .inl (s), .inl (wh), .inl (mv), .inl (1 + n), .inl (w)] [] (0, 0) (z, P, (x_row M 163 A)) _
            refine e_iinc (w := 1 + w) (k := 36) (xi131 36) rfl (x_wn (by omega)) ?_
            show x_Ev 131 37 [.inr 162, .inl (s), .inl (wh), .inl (mv), .inl (1 + n), .inl (1 + w)] [] (0, 0) (z, P, (x_row M 163 A)) _
            refine e_goto (k := 37) (xi131 37) ?_
            rw [x_ct_t (p := (fun w => (A (1116 + 8 * w) = wh ∧ A (1117 + 8 * w) = s) ∧ ¬ (¬ mv = 0 ∧ A (1114 + 8 * w) = 2))) (by omega)]; exact ih (1 + n) (1 + w) ⟨by omega, by omega, by omega, by omega⟩
theorem m_cntW {z : Int} {P M : Int → Int → Int} {A : Int → Int} (hS : x_Sh z P) (hm : A 1 ≤ 60) (s wh mv : Int) : x_Call 131 [.inr 162, .inl (s), .inl (wh), .inl (mv)] (z, P, (x_row M 163 A)) (some (.inl (x_ct (fun w => (A (1116 + 8 * w) = wh ∧ A (1117 + 8 * w) = s) ∧ ¬ (¬ mv = 0 ∧ A (1114 + 8 * w) = 2)) (A 1).toNat 0))) (z, P, (x_row M 163 A)) := by
  refine e_body (ls0 := [.inr 162, .inl (s), .inl (wh), .inl (mv), x_un, x_un]) xm131 rfl ?_
  refine e_iconst (k := 0) (xi131 0) ?_
  refine e_istore (k := 1) (xi131 1) (Nat.le_of_ble_eq_true rfl) ?_
  show x_Ev 131 2 [.inr 162, .inl (s), .inl (wh), .inl (mv), .inl 0, x_un] [] (0, 0) (z, P, (x_row M 163 A)) _
  refine e_iconst (k := 2) (xi131 2) ?_
  refine e_istore (k := 3) (xi131 3) (Nat.le_of_ble_eq_true rfl) ?_
  show x_Ev 131 4 [.inr 162, .inl (s), .inl (wh), .inl (mv), .inl 0, .inl 0] [] (0, 0) (z, P, (x_row M 163 A)) _
  have h := ml_cntW hS (M := M) (A := A) hm (s := s) (wh := wh) (mv := mv) (A 1).toNat 0 0 ⟨by omega, by omega, by omega, by omega⟩
  rw [Int.zero_add] at h
  exact h
theorem ml_room {z : Int} {P M : Int → Int → Int} {A : Int → Int} (hS : x_Sh z P) (hn : A 0 ≤ 12) (hdk : ∀ s, 0 ≤ s ∧ s < A 0 → A (10 + 80 * s) ≤ 12) {kd s : Int} (hs : 0 ≤ s ∧ s < A 0) : ∀ (k : Nat) (d : Int), (0 ≤ d ∧ (A (10 + 80 * s) - d).toNat = k) → x_Ev 135 2 [.inr 162, .inl (kd), .inl (s), .inl (d)] [] (0, 0) (z, P, (x_row M 163 A)) (fun q => q = (some (.inl (x_fst (fun d => a_fit A kd s d) k d)), (z, P, (x_row M 163 A)))) := by
  intro k
  induction k with
  | zero =>
    intro d hc
    refine e_iload (k := 2) (xi135 2) rfl ?_
    refine e_aload (k := 3) (xi135 3) rfl (by decide) ?_
    refine e_iload (k := 4) (xi135 4) rfl ?_
    refine e_call (k := 5) (v := some (.inl (A (10 + 80 * s)))) (h1 := (z, P, (x_row M 163 A))) (c1 := 0) (c2 := 0) (rest := [.inl (d)]) (as := [.inr 162, .inl (s)]) (xi135 5) (by decide) xm118 rfl ⟨rfl, Nat.le_of_ble_eq_true rfl, by decide⟩ (Or.inr (x_okt (ok_mo hS))) (m_docks hS (s := s) (by omega) (M := M) (A := A)) ?_
    refine e_c_ge (k := 6) (xi135 6) (fun c0 => ?_) (fun q => absurd (by have hk := hdk s hs; omega) q)
    refine e_iconst (k := 17) (xi135 17) ?_
    refine e_iret (k := 18) (xi135 18) ?_
    rfl
  | succ k ih =>
    intro d hc
    refine e_iload (k := 2) (xi135 2) rfl ?_
    refine e_aload (k := 3) (xi135 3) rfl (by decide) ?_
    refine e_iload (k := 4) (xi135 4) rfl ?_
    refine e_call (k := 5) (v := some (.inl (A (10 + 80 * s)))) (h1 := (z, P, (x_row M 163 A))) (c1 := 0) (c2 := 0) (rest := [.inl (d)]) (as := [.inr 162, .inl (s)]) (xi135 5) (by decide) xm118 rfl ⟨rfl, Nat.le_of_ble_eq_true rfl, by decide⟩ (Or.inr (x_okt (ok_mo hS))) (m_docks hS (s := s) (by omega) (M := M) (A := A)) ?_
    refine e_c_ge (k := 6) (xi135 6) (fun q => absurd q (by omega)) (fun c0 => ?_)
    have hk := hdk s hs
    refine e_aload (k := 7) (xi135 7) rfl (by decide) ?_
    refine e_iload (k := 8) (xi135 8) rfl ?_
    refine e_iload (k := 9) (xi135 9) rfl ?_
    refine e_iload (k := 10) (xi135 10) rfl ?_
    refine e_call (k := 11) (v := some (.inl (x_b ((0 ≤ s ∧ s < A 0) ∧ a_fit A kd s d)))) (h1 := (z, P, (x_row M 163 A))) (c1 := 0) (c2 := 0) (rest := []) (as := [.inr 162, .inl (kd), .inl (s), .inl (d)]) (xi135 11) (by decide) xm134 rfl ⟨rfl, Nat.le_of_ble_eq_true rfl, by decide⟩ (Or.inr (x_okt (ok_mo hS))) (m_fits hS (M := M) (A := A) hn hdk kd s d (by omega)) ?_
    refine e_b_eq (k := 12) (xi135 12) (fun c1 => ?_) (fun c1 => ?_)
    · skip
      refine e_iload (k := 13) (xi135 13) rfl ?_
      refine e_iret (k := 14) (xi135 14) ?_
      exact x_vE (x_fst_t (p := (fun d => a_fit A kd s d)) c1.2).symm
    · skip
      refine e_iinc (w := 1 + d) (k := 15) (xi135 15) rfl (x_wn (by omega)) ?_
      show x_Ev 135 16 [.inr 162, .inl (kd), .inl (s), .inl (1 + d)] [] (0, 0) (z, P, (x_row M 163 A)) _
      refine e_goto (k := 16) (xi135 16) ?_
      rw [x_fst_f (p := (fun d => a_fit A kd s d)) (fun q => c1 ⟨hs, q⟩)]; exact ih (1 + d) ⟨by omega, by omega⟩
theorem m_room {z : Int} {P M : Int → Int → Int} {A : Int → Int} (hS : x_Sh z P) (hn : A 0 ≤ 12) (hdk : ∀ s, 0 ≤ s ∧ s < A 0 → A (10 + 80 * s) ≤ 12) {kd s : Int} (hs : 0 ≤ s ∧ s < A 0) : x_Call 135 [.inr 162, .inl (kd), .inl (s)] (z, P, (x_row M 163 A)) (some (.inl (a_room A kd s))) (z, P, (x_row M 163 A)) := by
  refine e_body (ls0 := [.inr 162, .inl (kd), .inl (s), x_un]) xm135 rfl ?_
  refine e_iconst (k := 0) (xi135 0) ?_
  refine e_istore (k := 1) (xi135 1) (Nat.le_of_ble_eq_true rfl) ?_
  show x_Ev 135 2 [.inr 162, .inl (kd), .inl (s), .inl 0] [] (0, 0) (z, P, (x_row M 163 A)) _
  exact ml_room hS (M := M) (A := A) hn hdk hs (A (10 + 80 * s)).toNat 0 ⟨by omega, by omega⟩
theorem m_comes {z : Int} {P M : Int → Int → Int} {A : Int → Int} (hS : x_Sh z P) {w s d : Int} (hw : 0 ≤ w ∧ w < 60) (hs : 0 ≤ s ∧ s < 12) (hd : 0 ≤ d ∧ d < 12) (hd2 : A (1114 + 8 * w) = 2 → d < 11) : x_Call 136 [.inr 162, .inl (w), .inl (s), .inl (d)] (z, P, (x_row M 163 A)) none (z, P, (x_row M 163 (a_comes A w s d))) := by
  refine e_body (ls0 := [.inr 162, .inl (w), .inl (s), .inl (d)]) xm136 rfl ?_
  refine e_aload (k := 0) (xi136 0) rfl (by decide) ?_
  refine e_getR (j := 0) (w := 163) (k := 1) (xi136 1) (ok_mo hS) rfl (sh_all hS) ?_
  refine e_aload (k := 2) (xi136 2) rfl (by decide) ?_
  refine e_iload (k := 3) (xi136 3) rfl ?_
  refine e_iload (k := 4) (xi136 4) rfl ?_
  refine e_call (k := 5) (v := some (.inl (11 + 80 * s + d))) (h1 := (z, P, (x_row M 163 A))) (c1 := 0) (c2 := 0) (rest := [.inr 163]) (as := [.inr 162, .inl (s), .inl (d)]) (xi136 5) (by decide) xm119 rfl ⟨rfl, Nat.le_of_ble_eq_true rfl, by decide⟩ (Or.inr (x_okt (ok_mo hS))) (m_dockAt hS (s := s) (d := d) (by omega) (by omega) (M := M) (A := A)) ?_
  refine e_iload (k := 6) (xi136 6) rfl ?_
  refine e_iastA (k := 7) (xi136 7) hS (by omega) ?_
  refine e_aload (k := 8) (xi136 8) rfl (by decide) ?_
  refine e_iload (k := 9) (xi136 9) rfl ?_
  refine e_iconst (k := 10) (xi136 10) ?_
  refine e_call (k := 11) (v := some (.inl (A (1114 + 8 * w)))) (h1 := (z, P, (x_row M 163 (a_up A (11 + 80 * s + d) w)))) (c1 := 0) (c2 := 0) (rest := []) (as := [.inr 162, .inl (w), .inl 0]) (xi136 11) (by decide) xm129 rfl ⟨rfl, Nat.le_of_ble_eq_true rfl, by decide⟩ (Or.inr (x_okt (ok_mo hS))) (x_cvT (m_of hS (w := w) (j := 0) (i := 1114 + 8 * w) (by omega) (by omega) (by omega) (M := M) (A := (a_up A (11 + 80 * s + d) w))) ((((a_up_n (by omega)).trans rfl)))) ?_
  refine e_iconst (k := 12) (xi136 12) ?_
  refine e_c_ne (k := 13) (xi136 13) (fun c0 => ?_) (fun c0 => ?_)
  · skip
    refine e_aload (k := 24) (xi136 24) rfl (by decide) ?_
    refine e_iload (k := 25) (xi136 25) rfl ?_
    refine e_iconst (k := 26) (xi136 26) ?_
    refine e_iconst (k := 27) (xi136 27) ?_
    refine e_call (k := 28) (v := none) (h1 := (z, P, (x_row M 163 (a_up (a_up A (11 + 80 * s + d) w) (1116 + 8 * w) 0)))) (c1 := 0) (c2 := 0) (rest := []) (as := [.inr 162, .inl (w), .inl 2, .inl 0]) (xi136 28) (by decide) xm130 rfl ⟨rfl, Nat.le_of_ble_eq_true rfl, by decide⟩ (Or.inr (x_okt (ok_mo hS))) (m_sets hS (w := w) (j := 2) (i := 1116 + 8 * w) (v := 0) (by omega) (by omega) (by omega) (M := M) (A := (a_up A (11 + 80 * s + d) w))) ?_
    refine e_aload (k := 29) (xi136 29) rfl (by decide) ?_
    refine e_iload (k := 30) (xi136 30) rfl ?_
    refine e_iconst (k := 31) (xi136 31) ?_
    refine e_iload (k := 32) (xi136 32) rfl ?_
    refine e_call (k := 33) (v := none) (h1 := (z, P, (x_row M 163 (a_up (a_up (a_up A (11 + 80 * s + d) w) (1116 + 8 * w) 0) (1117 + 8 * w) s)))) (c1 := 0) (c2 := 0) (rest := []) (as := [.inr 162, .inl (w), .inl 3, .inl (s)]) (xi136 33) (by decide) xm130 rfl ⟨rfl, Nat.le_of_ble_eq_true rfl, by decide⟩ (Or.inr (x_okt (ok_mo hS))) (m_sets hS (w := w) (j := 3) (i := 1117 + 8 * w) (v := s) (by omega) (by omega) (by omega) (M := M) (A := (a_up (a_up A (11 + 80 * s + d) w) (1116 + 8 * w) 0))) ?_
    refine e_aload (k := 34) (xi136 34) rfl (by decide) ?_
    refine e_iload (k := 35) (xi136 35) rfl ?_
    refine e_iconst (k := 36) (xi136 36) ?_
    refine e_iload (k := 37) (xi136 37) rfl ?_
    refine e_call (k := 38) (v := none) (h1 := (z, P, (x_row M 163 (a_up (a_up (a_up (a_up A (11 + 80 * s + d) w) (1116 + 8 * w) 0) (1117 + 8 * w) s) (1118 + 8 * w) d)))) (c1 := 0) (c2 := 0) (rest := []) (as := [.inr 162, .inl (w), .inl 4, .inl (d)]) (xi136 38) (by decide) xm130 rfl ⟨rfl, Nat.le_of_ble_eq_true rfl, by decide⟩ (Or.inr (x_okt (ok_mo hS))) (m_sets hS (w := w) (j := 4) (i := 1118 + 8 * w) (v := d) (by omega) (by omega) (by omega) (M := M) (A := (a_up (a_up (a_up A (11 + 80 * s + d) w) (1116 + 8 * w) 0) (1117 + 8 * w) s))) ?_
    refine e_vret (k := 39) (xi136 39) ?_
    unfold a_comes
    rw [if_neg c0]
  · skip
    refine e_aload (k := 14) (xi136 14) rfl (by decide) ?_
    refine e_getR (j := 0) (w := 163) (k := 15) (xi136 15) (ok_mo hS) rfl (sh_all hS) ?_
    refine e_aload (k := 16) (xi136 16) rfl (by decide) ?_
    refine e_iload (k := 17) (xi136 17) rfl ?_
    refine e_iload (k := 18) (xi136 18) rfl ?_
    refine e_iconst (k := 19) (xi136 19) ?_
    refine e_iadd (w := 1 + d) (k := 20) (xi136 20) (x_wn (by omega)) ?_
    refine e_call (k := 21) (v := some (.inl (12 + 80 * s + d))) (h1 := (z, P, (x_row M 163 (a_up A (11 + 80 * s + d) w)))) (c1 := 0) (c2 := 0) (rest := [.inr 163]) (as := [.inr 162, .inl (s), .inl (1 + d)]) (xi136 21) (by decide) xm119 rfl ⟨rfl, Nat.le_of_ble_eq_true rfl, by decide⟩ (Or.inr (x_okt (ok_mo hS))) (x_cvT (m_dockAt hS (s := s) (d := 1 + d) (by omega) (by omega) (M := M) (A := (a_up A (11 + 80 * s + d) w))) (by omega)) ?_
    refine e_iload (k := 22) (xi136 22) rfl ?_
    refine e_iastA (k := 23) (xi136 23) hS (by omega) ?_
    refine e_aload (k := 24) (xi136 24) rfl (by decide) ?_
    refine e_iload (k := 25) (xi136 25) rfl ?_
    refine e_iconst (k := 26) (xi136 26) ?_
    refine e_iconst (k := 27) (xi136 27) ?_
    refine e_call (k := 28) (v := none) (h1 := (z, P, (x_row M 163 (a_up (a_up (a_up A (11 + 80 * s + d) w) (12 + 80 * s + d) w) (1116 + 8 * w) 0)))) (c1 := 0) (c2 := 0) (rest := []) (as := [.inr 162, .inl (w), .inl 2, .inl 0]) (xi136 28) (by decide) xm130 rfl ⟨rfl, Nat.le_of_ble_eq_true rfl, by decide⟩ (Or.inr (x_okt (ok_mo hS))) (m_sets hS (w := w) (j := 2) (i := 1116 + 8 * w) (v := 0) (by omega) (by omega) (by omega) (M := M) (A := (a_up (a_up A (11 + 80 * s + d) w) (12 + 80 * s + d) w))) ?_
    refine e_aload (k := 29) (xi136 29) rfl (by decide) ?_
    refine e_iload (k := 30) (xi136 30) rfl ?_
    refine e_iconst (k := 31) (xi136 31) ?_
    refine e_iload (k := 32) (xi136 32) rfl ?_
    refine e_call (k := 33) (v := none) (h1 := (z, P, (x_row M 163 (a_up (a_up (a_up (a_up A (11 + 80 * s + d) w) (12 + 80 * s + d) w) (1116 + 8 * w) 0) (1117 + 8 * w) s)))) (c1 := 0) (c2 := 0) (rest := []) (as := [.inr 162, .inl (w), .inl 3, .inl (s)]) (xi136 33) (by decide) xm130 rfl ⟨rfl, Nat.le_of_ble_eq_true rfl, by decide⟩ (Or.inr (x_okt (ok_mo hS))) (m_sets hS (w := w) (j := 3) (i := 1117 + 8 * w) (v := s) (by omega) (by omega) (by omega) (M := M) (A := (a_up (a_up (a_up A (11 + 80 * s + d) w) (12 + 80 * s + d) w) (1116 + 8 * w) 0))) ?_
    refine e_aload (k := 34) (xi136 34) rfl (by decide) ?_
    refine e_iload (k := 35) (xi136 35) rfl ?_
    refine e_iconst (k := 36) (xi136 36) ?_
    refine e_iload (k := 37) (xi136 37) rfl ?_
    refine e_call (k := 38) (v := none) (h1 := (z, P, (x_row M 163 (a_up (a_up (a_up (a_up (a_up A (11 + 80 * s + d) w) (12 + 80 * s + d) w) (1116 + 8 * w) 0) (1117 + 8 * w) s) (1118 + 8 * w) d)))) (c1 := 0) (c2 := 0) (rest := []) (as := [.inr 162, .inl (w), .inl 4, .inl (d)]) (xi136 38) (by decide) xm130 rfl ⟨rfl, Nat.le_of_ble_eq_true rfl, by decide⟩ (Or.inr (x_okt (ok_mo hS))) (m_sets hS (w := w) (j := 4) (i := 1118 + 8 * w) (v := d) (by omega) (by omega) (by omega) (M := M) (A := (a_up (a_up (a_up (a_up A (11 + 80 * s + d) w) (12 + 80 * s + d) w) (1116 + 8 * w) 0) (1117 + 8 * w) s))) ?_
    refine e_vret (k := 39) (xi136 39) ?_
    unfold a_comes
    rw [if_pos (Classical.not_not.mp c0)]
theorem m_leaves {z : Int} {P M : Int → Int → Int} {A : Int → Int} (hS : x_Sh z P) {w : Int} (hw : 0 ≤ w ∧ w < 60) (hs : 0 ≤ A (1117 + 8 * w) ∧ A (1117 + 8 * w) < 12) (hd : 0 ≤ A (1118 + 8 * w) ∧ A (1118 + 8 * w) < 12) (hd2 : A (1114 + 8 * w) = 2 → A (1118 + 8 * w) < 11) : x_Call 137 [.inr 162, .inl (w)] (z, P, (x_row M 163 A)) none (z, P, (x_row M 163 (a_leaves A w))) := by
  refine e_body (ls0 := [.inr 162, .inl (w)]) xm137 rfl ?_
  refine e_aload (k := 0) (xi137 0) rfl (by decide) ?_
  refine e_getR (j := 0) (w := 163) (k := 1) (xi137 1) (ok_mo hS) rfl (sh_all hS) ?_
  refine e_aload (k := 2) (xi137 2) rfl (by decide) ?_
  refine e_aload (k := 3) (xi137 3) rfl (by decide) ?_
  refine e_iload (k := 4) (xi137 4) rfl ?_
  refine e_iconst (k := 5) (xi137 5) ?_
  refine e_call (k := 6) (v := some (.inl (A (1117 + 8 * w)))) (h1 := (z, P, (x_row M 163 A))) (c1 := 0) (c2 := 0) (rest := [.inr 162, .inr 163]) (as := [.inr 162, .inl (w), .inl 3]) (xi137 6) (by decide) xm129 rfl ⟨rfl, Nat.le_of_ble_eq_true rfl, by decide⟩ (Or.inr (x_okt (ok_mo hS))) (m_of hS (w := w) (j := 3) (i := 1117 + 8 * w) (by omega) (by omega) (by omega) (M := M) (A := A)) ?_
  refine e_aload (k := 7) (xi137 7) rfl (by decide) ?_
  refine e_iload (k := 8) (xi137 8) rfl ?_
  refine e_iconst (k := 9) (xi137 9) ?_
  refine e_call (k := 10) (v := some (.inl (A (1118 + 8 * w)))) (h1 := (z, P, (x_row M 163 A))) (c1 := 0) (c2 := 0) (rest := [.inl (A (1117 + 8 * w)), .inr 162, .inr 163]) (as := [.inr 162, .inl (w), .inl 4]) (xi137 10) (by decide) xm129 rfl ⟨rfl, Nat.le_of_ble_eq_true rfl, by decide⟩ (Or.inr (x_okt (ok_mo hS))) (m_of hS (w := w) (j := 4) (i := 1118 + 8 * w) (by omega) (by omega) (by omega) (M := M) (A := A)) ?_
  refine e_call (k := 11) (v := some (.inl (11 + 80 * A (1117 + 8 * w) + A (1118 + 8 * w)))) (h1 := (z, P, (x_row M 163 A))) (c1 := 0) (c2 := 0) (rest := [.inr 163]) (as := [.inr 162, .inl (A (1117 + 8 * w)), .inl (A (1118 + 8 * w))]) (xi137 11) (by decide) xm119 rfl ⟨rfl, Nat.le_of_ble_eq_true rfl, by decide⟩ (Or.inr (x_okt (ok_mo hS))) (m_dockAt hS (s := A (1117 + 8 * w)) (d := A (1118 + 8 * w)) (by omega) (by omega) (M := M) (A := A)) ?_
  refine e_iconst (k := 12) (xi137 12) ?_
  refine e_iastA (k := 13) (xi137 13) hS (by omega) ?_
  refine e_aload (k := 14) (xi137 14) rfl (by decide) ?_
  refine e_iload (k := 15) (xi137 15) rfl ?_
  refine e_iconst (k := 16) (xi137 16) ?_
  refine e_call (k := 17) (v := some (.inl (A (1114 + 8 * w)))) (h1 := (z, P, (x_row M 163 (a_up A (11 + 80 * A (1117 + 8 * w) + A (1118 + 8 * w)) ((-1)))))) (c1 := 0) (c2 := 0) (rest := []) (as := [.inr 162, .inl (w), .inl 0]) (xi137 17) (by decide) xm129 rfl ⟨rfl, Nat.le_of_ble_eq_true rfl, by decide⟩ (Or.inr (x_okt (ok_mo hS))) (x_cvT (m_of hS (w := w) (j := 0) (i := 1114 + 8 * w) (by omega) (by omega) (by omega) (M := M) (A := (a_up A (11 + 80 * A (1117 + 8 * w) + A (1118 + 8 * w)) ((-1))))) ((((a_up_n (by omega)).trans rfl)))) ?_
  refine e_iconst (k := 18) (xi137 18) ?_
  refine e_c_ne (k := 19) (xi137 19) (fun c0 => ?_) (fun c0 => ?_)
  · skip
    refine e_vret (k := 36) (xi137 36) ?_
    unfold a_leaves
    rw [if_neg c0]
  · skip
    refine e_aload (k := 20) (xi137 20) rfl (by decide) ?_
    refine e_getR (j := 0) (w := 163) (k := 21) (xi137 21) (ok_mo hS) rfl (sh_all hS) ?_
    refine e_aload (k := 22) (xi137 22) rfl (by decide) ?_
    refine e_aload (k := 23) (xi137 23) rfl (by decide) ?_
    refine e_iload (k := 24) (xi137 24) rfl ?_
    refine e_iconst (k := 25) (xi137 25) ?_
    refine e_call (k := 26) (v := some (.inl (A (1117 + 8 * w)))) (h1 := (z, P, (x_row M 163 (a_up A (11 + 80 * A (1117 + 8 * w) + A (1118 + 8 * w)) ((-1)))))) (c1 := 0) (c2 := 0) (rest := [.inr 162, .inr 163]) (as := [.inr 162, .inl (w), .inl 3]) (xi137 26) (by decide) xm129 rfl ⟨rfl, Nat.le_of_ble_eq_true rfl, by decide⟩ (Or.inr (x_okt (ok_mo hS))) (x_cvT (m_of hS (w := w) (j := 3) (i := 1117 + 8 * w) (by omega) (by omega) (by omega) (M := M) (A := (a_up A (11 + 80 * A (1117 + 8 * w) + A (1118 + 8 * w)) ((-1))))) ((((a_up_n (by omega)).trans rfl)))) ?_
    refine e_aload (k := 27) (xi137 27) rfl (by decide) ?_
    refine e_iload (k := 28) (xi137 28) rfl ?_
    refine e_iconst (k := 29) (xi137 29) ?_
    refine e_call (k := 30) (v := some (.inl (A (1118 + 8 * w)))) (h1 := (z, P, (x_row M 163 (a_up A (11 + 80 * A (1117 + 8 * w) + A (1118 + 8 * w)) ((-1)))))) (c1 := 0) (c2 := 0) (rest := [.inl (A (1117 + 8 * w)), .inr 162, .inr 163]) (as := [.inr 162, .inl (w), .inl 4]) (xi137 30) (by decide) xm129 rfl ⟨rfl, Nat.le_of_ble_eq_true rfl, by decide⟩ (Or.inr (x_okt (ok_mo hS))) (x_cvT (m_of hS (w := w) (j := 4) (i := 1118 + 8 * w) (by omega) (by omega) (by omega) (M := M) (A := (a_up A (11 + 80 * A (1117 + 8 * w) + A (1118 + 8 * w)) ((-1))))) ((((a_up_n (by omega)).trans rfl)))) ?_
    refine e_iconst (k := 31) (xi137 31) ?_
    refine e_iadd (w := 1 + A (1118 + 8 * w)) (k := 32) (xi137 32) (x_wn (by omega)) ?_
    refine e_call (k := 33) (v := some (.inl (12 + 80 * A (1117 + 8 * w) + A (1118 + 8 * w)))) (h1 := (z, P, (x_row M 163 (a_up A (11 + 80 * A (1117 + 8 * w) + A (1118 + 8 * w)) ((-1)))))) (c1 := 0) (c2 := 0) (rest := [.inr 163]) (as := [.inr 162, .inl (A (1117 + 8 * w)), .inl (1 + A (1118 + 8 * w))]) (xi137 33) (by decide) xm119 rfl ⟨rfl, Nat.le_of_ble_eq_true rfl, by decide⟩ (Or.inr (x_okt (ok_mo hS))) (x_cvT (m_dockAt hS (s := A (1117 + 8 * w)) (d := 1 + A (1118 + 8 * w)) (by omega) (by omega) (M := M) (A := (a_up A (11 + 80 * A (1117 + 8 * w) + A (1118 + 8 * w)) ((-1))))) (by omega)) ?_
    refine e_iconst (k := 34) (xi137 34) ?_
    refine e_iastA (k := 35) (xi137 35) hS (by omega) ?_
    refine e_vret (k := 36) (xi137 36) ?_
    unfold a_leaves
    rw [if_pos (Classical.not_not.mp c0)]
