/-! small rows for the walks; the model's small methods -/
theorem x_wn {x w : Int} (h : x = w ∧ -2147483648 ≤ w ∧ w < 2147483648) : x_w x = w := by rw [h.1]; exact x_w_eq h.2
theorem x_wr {x w : Int} (h : x = w) : x_w x = x_w w := by rw [h]
theorem x_row_up {M : Int → Int → Int} {a b k v : Int} {f : Int → Int} (h : a ≠ b) : x_up (x_row M b f) a k v = x_row (x_up M a k v) b f := by
  funext q j
  unfold x_up x_row
  by_cases h1 : q = a ∧ j = k
  · obtain ⟨rfl, rfl⟩ := h1
    simp [h]
  · by_cases h2 : q = b
    · simp [h2, h1]
      intro h3 h4
      exact absurd h3.symm h
    · simp [h2, h1]
theorem x_row_in {M : Int → Int → Int} {b k v : Int} {f : Int → Int} : x_up (x_row M b f) b k v = x_row M b (a_up f k v) := by
  funext q j
  unfold x_up x_row a_up
  by_cases h2 : q = b
  · subst h2; simp
  · simp [h2]
theorem e_iastA {y k : Nat} {ls st : List xV} {b : xB} {r : Option xV × xH → Prop} {a : Int} {t u pc : Nat} {z j w : Int} {P M : Int → Int → Int} {A : Int → Int} (hi : x_in y k = (29, a, t, u, pc)) (hS : x_Sh z P) (hj : 0 ≤ j ∧ j < 8200) (kk : x_Ev y (k + 1) ls st b (z, P, x_row M 163 (a_up A j w)) r) : x_Ev y k ls (.inl w :: .inl j :: .inr 163 :: st) b (z, P, x_row M 163 A) r := by
  refine e_iast hi (ok_all hS) (by rw [ln_all]; exact hj) ?_
  rw [x_row_in]
  exact kk
theorem x_bT {c : Prop} [Decidable c] {h : xH} (hc : c) : ((some (.inl 1), h) : Option xV × xH) = (some (.inl (x_b c)), h) := by
  unfold x_b
  rw [if_pos hc]
theorem x_bF {c : Prop} [Decidable c] {h : xH} (hc : ¬ c) : ((some (.inl 0), h) : Option xV × xH) = (some (.inl (x_b c)), h) := by
  unfold x_b
  rw [if_neg hc]
theorem x_vE {v w : Int} {h : xH} (e : v = w) : ((some (.inl v), h) : Option xV × xH) = (some (.inl w), h) := by rw [e]
theorem x_cv {t : Nat} {as : List xV} {h h' : xH} {v w : Int} (e : v = w) : x_Call t as h (some (.inl v)) h' ↔ x_Call t as h (some (.inl w)) h' := by rw [e]
theorem x_cvT {t : Nat} {as : List xV} {h h' : xH} {v w : Int} (c : x_Call t as h (some (.inl v)) h') (e : v = w) : x_Call t as h (some (.inl w)) h' := e ▸ c
theorem m_isIn {z : Int} {P M : Int → Int → Int} (v n : Int) : x_Call 113 [.inl (v), .inl (n)] (z, P, M) (some (.inl (x_b (0 ≤ v ∧ v < n)))) (z, P, M) := by
  refine e_body (ls0 := [.inl (v), .inl (n)]) xm113 rfl ?_
  refine e_iload (k := 0) (xi113 0) rfl ?_
  refine e_z_lt (k := 1) (xi113 1) (fun c0 => ?_) (fun c0 => ?_)
  · skip
    refine e_iconst (k := 7) (xi113 7) ?_
    refine e_zret (k := 8) (xi113 8) (by decide) ?_
    exact x_bF (by omega)
  · skip
    refine e_iload (k := 2) (xi113 2) rfl ?_
    refine e_iload (k := 3) (xi113 3) rfl ?_
    refine e_c_ge (k := 4) (xi113 4) (fun c1 => ?_) (fun c1 => ?_)
    · skip
      refine e_iconst (k := 7) (xi113 7) ?_
      refine e_zret (k := 8) (xi113 8) (by decide) ?_
      exact x_bF (by omega)
    · skip
      refine e_iconst (k := 5) (xi113 5) ?_
      refine e_goto (k := 6) (xi113 6) ?_
      refine e_zret (k := 8) (xi113 8) (by decide) ?_
      exact x_bT (by omega)
theorem m_isStand {z : Int} {P M : Int → Int → Int} {A : Int → Int} (hS : x_Sh z P) (v : Int) : x_Call 114 [.inr 162, .inl (v)] (z, P, (x_row M 163 A)) (some (.inl (x_b (0 ≤ v ∧ v < A 0)))) (z, P, (x_row M 163 A)) := by
  refine e_body (ls0 := [.inr 162, .inl (v)]) xm114 rfl ?_
  refine e_iload (k := 0) (xi114 0) rfl ?_
  refine e_aload (k := 1) (xi114 1) rfl (by decide) ?_
  refine e_getR (j := 0) (w := 163) (k := 2) (xi114 2) (ok_mo hS) rfl (sh_all hS) ?_
  refine e_iconst (k := 3) (xi114 3) ?_
  refine e_iald (w := A 0) (k := 4) (xi114 4) (ok_all hS) (by rw [ln_all]; omega) (((if_pos rfl).trans rfl)) ?_
  refine e_call (k := 5) (v := some (.inl (x_b (0 ≤ v ∧ v < A 0)))) (h1 := (z, P, (x_row M 163 A))) (c1 := 0) (c2 := 0) (rest := []) (as := [.inl (v), .inl (A 0)]) (xi114 5) (by decide) xm113 rfl ⟨rfl, Nat.le_of_ble_eq_true rfl, by decide⟩ (Or.inl rfl) (m_isIn v (A 0)) ?_
  refine e_zret (k := 6) (xi114 6) (x_b01) ?_
  rfl
theorem m_isWheel {z : Int} {P M : Int → Int → Int} {A : Int → Int} (hS : x_Sh z P) (v : Int) : x_Call 115 [.inr 162, .inl (v)] (z, P, (x_row M 163 A)) (some (.inl (x_b (0 ≤ v ∧ v < A 1)))) (z, P, (x_row M 163 A)) := by
  refine e_body (ls0 := [.inr 162, .inl (v)]) xm115 rfl ?_
  refine e_iload (k := 0) (xi115 0) rfl ?_
  refine e_aload (k := 1) (xi115 1) rfl (by decide) ?_
  refine e_getR (j := 0) (w := 163) (k := 2) (xi115 2) (ok_mo hS) rfl (sh_all hS) ?_
  refine e_iconst (k := 3) (xi115 3) ?_
  refine e_iald (w := A 1) (k := 4) (xi115 4) (ok_all hS) (by rw [ln_all]; omega) (((if_pos rfl).trans rfl)) ?_
  refine e_call (k := 5) (v := some (.inl (x_b (0 ≤ v ∧ v < A 1)))) (h1 := (z, P, (x_row M 163 A))) (c1 := 0) (c2 := 0) (rest := []) (as := [.inl (v), .inl (A 1)]) (xi115 5) (by decide) xm113 rfl ⟨rfl, Nat.le_of_ble_eq_true rfl, by decide⟩ (Or.inl rfl) (m_isIn v (A 1)) ?_
  refine e_zret (k := 6) (xi115 6) (x_b01) ?_
  rfl
theorem m_isCart {z : Int} {P M : Int → Int → Int} {A : Int → Int} (hS : x_Sh z P) (v : Int) : x_Call 116 [.inr 162, .inl (v)] (z, P, (x_row M 163 A)) (some (.inl (x_b (0 ≤ v ∧ v < A 2)))) (z, P, (x_row M 163 A)) := by
  refine e_body (ls0 := [.inr 162, .inl (v)]) xm116 rfl ?_
  refine e_iload (k := 0) (xi116 0) rfl ?_
  refine e_aload (k := 1) (xi116 1) rfl (by decide) ?_
  refine e_getR (j := 0) (w := 163) (k := 2) (xi116 2) (ok_mo hS) rfl (sh_all hS) ?_
  refine e_iconst (k := 3) (xi116 3) ?_
  refine e_iald (w := A 2) (k := 4) (xi116 4) (ok_all hS) (by rw [ln_all]; omega) (((if_pos rfl).trans rfl)) ?_
  refine e_call (k := 5) (v := some (.inl (x_b (0 ≤ v ∧ v < A 2)))) (h1 := (z, P, (x_row M 163 A))) (c1 := 0) (c2 := 0) (rest := []) (as := [.inl (v), .inl (A 2)]) (xi116 5) (by decide) xm113 rfl ⟨rfl, Nat.le_of_ble_eq_true rfl, by decide⟩ (Or.inl rfl) (m_isIn v (A 2)) ?_
  refine e_zret (k := 6) (xi116 6) (x_b01) ?_
  rfl
theorem m_standAt {z : Int} {P M : Int → Int → Int} {A : Int → Int} (hS : x_Sh z P) {s : Int} (hs : 0 ≤ s ∧ s < 12) : x_Call 117 [.inr 162, .inl (s)] (z, P, (x_row M 163 A)) (some (.inl (10 + 80 * s))) (z, P, (x_row M 163 A)) := by
  refine e_body (ls0 := [.inr 162, .inl (s)]) xm117 rfl ?_
  refine e_iconst (k := 0) (xi117 0) ?_
  refine e_iconst (k := 1) (xi117 1) ?_
  refine e_iload (k := 2) (xi117 2) rfl ?_
  refine e_imul (w := 80 * s) (k := 3) (xi117 3) (x_wn (by omega)) ?_
  refine e_iadd (w := 10 + 80 * s) (k := 4) (xi117 4) (x_wn (by omega)) ?_
  refine e_iret (k := 5) (xi117 5) ?_
  rfl
theorem m_wagonAt {z : Int} {P M : Int → Int → Int} {A : Int → Int} (hS : x_Sh z P) {s : Int} (hs : 0 ≤ s ∧ s < 4) : x_Call 156 [.inr 162, .inl (s)] (z, P, (x_row M 163 A)) (some (.inl (1594 + 12 * s))) (z, P, (x_row M 163 A)) := by
  refine e_body (ls0 := [.inr 162, .inl (s)]) xm156 rfl ?_
  refine e_iconst (k := 0) (xi156 0) ?_
  refine e_iconst (k := 1) (xi156 1) ?_
  refine e_iload (k := 2) (xi156 2) rfl ?_
  refine e_imul (w := 12 * s) (k := 3) (xi156 3) (x_wn (by omega)) ?_
  refine e_iadd (w := 1594 + 12 * s) (k := 4) (xi156 4) (x_wn (by omega)) ?_
  refine e_iret (k := 5) (xi156 5) ?_
  rfl
theorem m_docks {z : Int} {P M : Int → Int → Int} {A : Int → Int} (hS : x_Sh z P) {s : Int} (hs : 0 ≤ s ∧ s < 12) : x_Call 118 [.inr 162, .inl (s)] (z, P, (x_row M 163 A)) (some (.inl (A (10 + 80 * s)))) (z, P, (x_row M 163 A)) := by
  refine e_body (ls0 := [.inr 162, .inl (s)]) xm118 rfl ?_
  refine e_aload (k := 0) (xi118 0) rfl (by decide) ?_
  refine e_getR (j := 0) (w := 163) (k := 1) (xi118 1) (ok_mo hS) rfl (sh_all hS) ?_
  refine e_aload (k := 2) (xi118 2) rfl (by decide) ?_
  refine e_iload (k := 3) (xi118 3) rfl ?_
  refine e_call (k := 4) (v := some (.inl (10 + 80 * s))) (h1 := (z, P, (x_row M 163 A))) (c1 := 0) (c2 := 0) (rest := [.inr 163]) (as := [.inr 162, .inl (s)]) (xi118 4) (by decide) xm117 rfl ⟨rfl, Nat.le_of_ble_eq_true rfl, by decide⟩ (Or.inr (x_okt (ok_mo hS))) (m_standAt hS (s := s) (by omega) (M := M) (A := A)) ?_
  refine e_iald (w := A (10 + 80 * s)) (k := 5) (xi118 5) (ok_all hS) (by rw [ln_all]; omega) (((if_pos rfl).trans rfl)) ?_
  refine e_iret (k := 6) (xi118 6) ?_
  rfl
theorem m_dockAt {z : Int} {P M : Int → Int → Int} {A : Int → Int} (hS : x_Sh z P) {s d : Int} (hs : 0 ≤ s ∧ s < 12) (hd : -100 ≤ d ∧ d < 100) : x_Call 119 [.inr 162, .inl (s), .inl (d)] (z, P, (x_row M 163 A)) (some (.inl (11 + 80 * s + d))) (z, P, (x_row M 163 A)) := by
  refine e_body (ls0 := [.inr 162, .inl (s), .inl (d)]) xm119 rfl ?_
  refine e_aload (k := 0) (xi119 0) rfl (by decide) ?_
  refine e_iload (k := 1) (xi119 1) rfl ?_
  refine e_call (k := 2) (v := some (.inl (10 + 80 * s))) (h1 := (z, P, (x_row M 163 A))) (c1 := 0) (c2 := 0) (rest := []) (as := [.inr 162, .inl (s)]) (xi119 2) (by decide) xm117 rfl ⟨rfl, Nat.le_of_ble_eq_true rfl, by decide⟩ (Or.inr (x_okt (ok_mo hS))) (m_standAt hS (s := s) (by omega) (M := M) (A := A)) ?_
  refine e_iconst (k := 3) (xi119 3) ?_
  refine e_iadd (w := 11 + 80 * s) (k := 4) (xi119 4) (x_wn (by omega)) ?_
  refine e_iload (k := 5) (xi119 5) rfl ?_
  refine e_iadd (w := 11 + 80 * s + d) (k := 6) (xi119 6) (x_wn (by omega)) ?_
  refine e_iret (k := 7) (xi119 7) ?_
  rfl
theorem m_far {z : Int} {P M : Int → Int → Int} {A : Int → Int} (hS : x_Sh z P) {s t i : Int} (hs : 0 ≤ s ∧ s < 12) (ht : 0 ≤ t ∧ t < 12) (hi : 970 + 12 * s + t = i) : x_Call 120 [.inr 162, .inl (s), .inl (t)] (z, P, (x_row M 163 A)) (some (.inl (A i))) (z, P, (x_row M 163 A)) := by
  subst hi
  refine e_body (ls0 := [.inr 162, .inl (s), .inl (t)]) xm120 rfl ?_
  refine e_aload (k := 0) (xi120 0) rfl (by decide) ?_
  refine e_getR (j := 0) (w := 163) (k := 1) (xi120 1) (ok_mo hS) rfl (sh_all hS) ?_
  refine e_iconst (k := 2) (xi120 2) ?_
  refine e_iconst (k := 3) (xi120 3) ?_
  refine e_iload (k := 4) (xi120 4) rfl ?_
  refine e_imul (w := 12 * s) (k := 5) (xi120 5) (x_wn (by omega)) ?_
  refine e_iadd (w := 970 + 12 * s) (k := 6) (xi120 6) (x_wn (by omega)) ?_
  refine e_iload (k := 7) (xi120 7) rfl ?_
  refine e_iadd (w := 970 + 12 * s + t) (k := 8) (xi120 8) (x_wn (by omega)) ?_
  refine e_iald (w := A (970 + 12 * s + t)) (k := 9) (xi120 9) (ok_all hS) (by rw [ln_all]; omega) (((if_pos rfl).trans rfl)) ?_
  refine e_iret (k := 10) (xi120 10) ?_
  rfl
theorem m_of {z : Int} {P M : Int → Int → Int} {A : Int → Int} (hS : x_Sh z P) {w j i : Int} (hw : 0 ≤ w ∧ w < 60) (hj : 0 ≤ j ∧ j < 8) (hi : 1114 + 8 * w + j = i) : x_Call 129 [.inr 162, .inl (w), .inl (j)] (z, P, (x_row M 163 A)) (some (.inl (A i))) (z, P, (x_row M 163 A)) := by
  subst hi
  refine e_body (ls0 := [.inr 162, .inl (w), .inl (j)]) xm129 rfl ?_
  refine e_aload (k := 0) (xi129 0) rfl (by decide) ?_
  refine e_getR (j := 0) (w := 163) (k := 1) (xi129 1) (ok_mo hS) rfl (sh_all hS) ?_
  refine e_iconst (k := 2) (xi129 2) ?_
  refine e_iconst (k := 3) (xi129 3) ?_
  refine e_iload (k := 4) (xi129 4) rfl ?_
  refine e_imul (w := 8 * w) (k := 5) (xi129 5) (x_wn (by omega)) ?_
  refine e_iadd (w := 1114 + 8 * w) (k := 6) (xi129 6) (x_wn (by omega)) ?_
  refine e_iload (k := 7) (xi129 7) rfl ?_
  refine e_iadd (w := 1114 + 8 * w + j) (k := 8) (xi129 8) (x_wn (by omega)) ?_
  refine e_iald (w := A (1114 + 8 * w + j)) (k := 9) (xi129 9) (ok_all hS) (by rw [ln_all]; omega) (((if_pos rfl).trans rfl)) ?_
  refine e_iret (k := 10) (xi129 10) ?_
  rfl
theorem m_sets {z : Int} {P M : Int → Int → Int} {A : Int → Int} (hS : x_Sh z P) {w j i v : Int} (hw : 0 ≤ w ∧ w < 60) (hj : 0 ≤ j ∧ j < 8) (hi : 1114 + 8 * w + j = i) : x_Call 130 [.inr 162, .inl (w), .inl (j), .inl (v)] (z, P, (x_row M 163 A)) none (z, P, (x_row M 163 (a_up A i v))) := by
  subst hi
  refine e_body (ls0 := [.inr 162, .inl (w), .inl (j), .inl (v)]) xm130 rfl ?_
  refine e_aload (k := 0) (xi130 0) rfl (by decide) ?_
  refine e_getR (j := 0) (w := 163) (k := 1) (xi130 1) (ok_mo hS) rfl (sh_all hS) ?_
  refine e_iconst (k := 2) (xi130 2) ?_
  refine e_iconst (k := 3) (xi130 3) ?_
  refine e_iload (k := 4) (xi130 4) rfl ?_
  refine e_imul (w := 8 * w) (k := 5) (xi130 5) (x_wn (by omega)) ?_
  refine e_iadd (w := 1114 + 8 * w) (k := 6) (xi130 6) (x_wn (by omega)) ?_
  refine e_iload (k := 7) (xi130 7) rfl ?_
  refine e_iadd (w := 1114 + 8 * w + j) (k := 8) (xi130 8) (x_wn (by omega)) ?_
  refine e_iload (k := 9) (xi130 9) rfl ?_
  refine e_iastA (k := 10) (xi130 10) hS (by omega) ?_
  refine e_vret (k := 11) (xi130 11) ?_
  rfl
