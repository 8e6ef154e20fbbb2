/-! RUNS WITHOUT FUEL, a rule an instruction -/
def x_Ev (y k : Nat) (ls st : List xV) (b : xB) (h : xH) (r : Option xV × xH → Prop) : Prop := ∃ n q, x_run n y k ls st b h = some q ∧ r q
/-- a call, and what holds behind it -/
def x_CallR (t : Nat) (as : List xV) (h : xH) (r : Option xV × xH → Prop) : Prop := x_Ev t 0 (as ++ List.replicate (x_ml t - x_np t) x_un) [] (x_mc t, x_ms t) h r
def x_Call (t : Nat) (as : List xV) (h : xH) (v : Option xV) (h' : xH) : Prop := x_CallR t as h (fun q => q = (v, h'))
def x_b (c : Prop) [Decidable c] : Int := if c then 1 else 0
theorem x_run_one : ∀ (n : Nat) {y k : Nat} {ls st : List xV} {b : xB} {h : xH} {r : Option xV × xH}, x_run n y k ls st b h = some r → x_run (n + 1) y k ls st b h = some r := by
  intro n
  induction n with
  | zero => intro y k ls st b h r hr; cases hr
  | succ n ih =>
    intro y k ls st b h r hr
    unfold x_run at hr ⊢
    generalize x_in y k = i at hr ⊢
    obtain ⟨op, a, t, u, pc⟩ := i
    dsimp only at hr ⊢
    by_cases q1 : 40 ≤ op ∧ op ≤ 42
    · rw [if_pos q1] at hr ⊢
      cases ha : x_arg t st b h with
      | none => rw [ha] at hr; cases hr
      | some q =>
        obtain ⟨as, rest⟩ := q
        rw [ha] at hr
        dsimp only at hr ⊢
        cases hr1 : x_run n t 0 (as ++ List.replicate (x_ml t - x_np t) x_un) [] (x_mc t, x_ms t) h with
        | none => rw [hr1] at hr; cases hr
        | some q =>
          obtain ⟨v1, h2⟩ := q
          rw [hr1] at hr
          rw [ih hr1]
          exact ih hr
    · rw [if_neg q1] at hr ⊢
      by_cases q2 : 50 ≤ op ∧ op ≤ 53
      · rw [if_pos q2] at hr ⊢
        exact hr
      · rw [if_neg q2] at hr ⊢
        by_cases q3 : op = 56
        · rw [if_pos q3] at hr ⊢
          split at hr
          · split at hr
            · rename_i g
              rw [if_pos g]
              exact ih hr
            · cases hr
          · cases hr
        · rw [if_neg q3] at hr ⊢
          cases hx : x_stp (op, a, t, u, pc) k ls st b h with
          | none => rw [hx] at hr; cases hr
          | some c' =>
            obtain ⟨k', als', ast', b', h1⟩ := c'
            rw [hx] at hr
            exact ih hr
theorem x_run_le {n m y k : Nat} {ls st : List xV} {b : xB} {h : xH} {r : Option xV × xH} (hnm : n ≤ m) (hr : x_run n y k ls st b h = some r) : x_run m y k ls st b h = some r := by
  induction hnm with
  | refl => exact hr
  | step _ ih => exact x_run_one _ ih
section
variable {y k : Nat} {ls st : List xV} {b : xB} {h : xH} {r : Option xV × xH → Prop} {a : Int} {t u pc : Nat}
theorem x_ev_stp {op k' : Nat} {ls' st' : List xV} {b' : xB} {h' : xH} (hi : x_in y k = (op, a, t, u, pc)) (ho : ¬ (40 ≤ op ∧ op ≤ 42) ∧ ¬ (50 ≤ op ∧ op ≤ 53) ∧ ¬ op = 56) (hs : x_stp (op, a, t, u, pc) k ls st b h = some (k', ls', st', b', h')) (kk : x_Ev y k' ls' st' b' h' r) : x_Ev y k ls st b h r := by
  obtain ⟨n, q, hn, hq⟩ := kk
  refine ⟨n + 1, q, ?_, hq⟩
  unfold x_run
  rw [hi]
  dsimp only
  rw [if_neg ho.1, if_neg ho.2.1, if_neg ho.2.2, hs]
  exact hn
theorem x_ev_call {as rest : List xV} {op : Nat} {r1 : Option xV × xH → Prop} (hi : x_in y k = (op, a, t, u, pc)) (ho : 40 ≤ op ∧ op ≤ 42) (ha : x_arg t st b h = some (as, rest)) (hc : x_CallR t as h r1) (kk : ∀ v h1, r1 (v, h1) → x_Ev y (k + 1) ls (v.toList ++ rest) (b.1 - x_mc t, b.2 - x_ms t) h1 r) : x_Ev y k ls st b h r := by
  obtain ⟨n1, q1, hn1, hq1⟩ := hc
  obtain ⟨v, h1⟩ := q1
  obtain ⟨n, q, hn, hq⟩ := kk v h1 hq1
  refine ⟨max n n1 + 1, q, ?_, hq⟩
  unfold x_run
  rw [hi]
  dsimp only
  rw [if_pos ho, ha]
  dsimp only
  rw [x_run_le (Nat.le_max_right n n1) hn1]
  exact x_run_le (Nat.le_max_left n n1) hn
theorem e_prim {v : Int} (hi : x_in y k = (56, a, t, u, pc)) (h8 : st.length ≤ 8 ∧ x_pm = true) (kk : x_Ev y (k + 1) ls (.inl (x_thou v) :: st) b h r) : x_Ev y k ls (.inl v :: st) b h r := by
  obtain ⟨n, q, hn, hq⟩ := kk
  refine ⟨n + 1, q, ?_, hq⟩
  unfold x_run
  rw [hi]
  dsimp only
  rw [if_neg (by omega), if_neg (by omega), if_pos rfl, if_pos h8]
  exact hn
theorem x_ev_ret {op : Nat} {v : Option xV} (hi : x_in y k = (op, a, t, u, pc)) (ho : 50 ≤ op ∧ op ≤ 53) (hx : x_ret op st = some v) (hr : r (v, h)) : x_Ev y k ls st b h r := by
  refine ⟨1, (v, h), ?_, hr⟩
  unfold x_run
  rw [hi]
  dsimp only
  rw [if_neg (by omega), if_pos ho, hx]
theorem e_iret {v : Int} (hi : x_in y k = (50, a, t, u, pc)) (hr : r (some (.inl v), h)) : x_Ev y k ls [.inl v] b h r := x_ev_ret hi ⟨by omega, by omega⟩ rfl hr
theorem e_zret {v : Int} (hi : x_in y k = (51, a, t, u, pc)) (hv : v = 0 ∨ v = 1) (hr : r (some (.inl v), h)) : x_Ev y k ls [.inl v] b h r := x_ev_ret hi ⟨by omega, by omega⟩ (if_pos hv) hr
theorem e_aret {v : Int} (hi : x_in y k = (52, a, t, u, pc)) (hv : -1 ≤ v) (hr : r (some (.inr v), h)) : x_Ev y k ls [.inr v] b h r := x_ev_ret hi ⟨by omega, by omega⟩ (if_pos hv) hr
theorem e_vret (hi : x_in y k = (53, a, t, u, pc)) (hr : r (none, h)) : x_Ev y k ls [] b h r := x_ev_ret hi ⟨by omega, by omega⟩ rfl hr
theorem x_we {x : Int} (h : -2147483648 ≤ x ∧ x < 2147483648) : x_w x = x := x_w_eq h
theorem e_iconst (hi : x_in y k = (0, a, t, u, pc)) (kk : x_Ev y (k + 1) ls (.inl a :: st) b h r) : x_Ev y k ls st b h r := x_ev_stp hi (by decide) rfl kk
theorem e_iload {v : Int} (hi : x_in y k = (1, a, t, u, pc)) (hl : ls[t]? = some (.inl v)) (kk : x_Ev y (k + 1) ls (.inl v :: st) b h r) : x_Ev y k ls st b h r := x_ev_stp hi (by decide) (by show (match ls[t]? with | some (.inl v) => some (k + 1, ls, Sum.inl v :: st, b, h) | _ => none) = _; rw [hl]) kk
theorem e_aload {v : Int} (hi : x_in y k = (2, a, t, u, pc)) (hl : ls[t]? = some (.inr v)) (hv : -2 ≤ v) (kk : x_Ev y (k + 1) ls (.inr v :: st) b h r) : x_Ev y k ls st b h r := x_ev_stp hi (by decide) (by show (match ls[t]? with | some (.inr v) => (if -2 ≤ v then some (k + 1, ls, Sum.inr v :: st, b, h) else none) | _ => none) = _; rw [hl]; exact if_pos hv) kk
theorem e_istore {v : Int} (hi : x_in y k = (3, a, t, u, pc)) (hl : t < ls.length) (kk : x_Ev y (k + 1) (ls.set t (.inl v)) st b h r) : x_Ev y k ls (.inl v :: st) b h r := x_ev_stp hi (by decide) (if_pos hl) kk
theorem e_astore {v : Int} (hi : x_in y k = (4, a, t, u, pc)) (hl : t < ls.length) (hv : -2 ≤ v) (kk : x_Ev y (k + 1) (ls.set t (.inr v)) st b h r) : x_Ev y k ls (.inr v :: st) b h r := x_ev_stp hi (by decide) (if_pos ⟨hl, hv⟩) kk
theorem e_iinc {v w : Int} (hi : x_in y k = (5, a, t, u, pc)) (hl : ls[t]? = some (.inl v)) (hw : x_w (v + a) = w) (kk : x_Ev y (k + 1) (ls.set t (.inl w)) st b h r) : x_Ev y k ls st b h r := x_ev_stp hi (by decide) (by show (match ls[t]? with | some (.inl v) => some (k + 1, ls.set t (Sum.inl (x_w (v + a))), st, b, h) | _ => none) = _; rw [hl, ← hw]) kk
theorem e_iadd {i j w : Int} (hi : x_in y k = (6, a, t, u, pc)) (hw : x_w (i + j) = w) (kk : x_Ev y (k + 1) ls (.inl w :: st) b h r) : x_Ev y k ls (.inl j :: .inl i :: st) b h r := x_ev_stp hi (by decide) (by rw [← hw]; rfl) kk
theorem e_isub {i j w : Int} (hi : x_in y k = (7, a, t, u, pc)) (hw : x_w (i - j) = w) (kk : x_Ev y (k + 1) ls (.inl w :: st) b h r) : x_Ev y k ls (.inl j :: .inl i :: st) b h r := x_ev_stp hi (by decide) (by rw [← hw]; rfl) kk
theorem e_imul {i j w : Int} (hi : x_in y k = (8, a, t, u, pc)) (hw : x_w (i * j) = w) (kk : x_Ev y (k + 1) ls (.inl w :: st) b h r) : x_Ev y k ls (.inl j :: .inl i :: st) b h r := x_ev_stp hi (by decide) (by rw [← hw]; rfl) kk
theorem e_irem {i j : Int} (hi : x_in y k = (9, a, t, u, pc)) (hg : 0 ≤ i ∧ 0 < j) (kk : x_Ev y (k + 1) ls (.inl (i % j) :: st) b h r) : x_Ev y k ls (.inl j :: .inl i :: st) b h r := x_ev_stp hi (by decide) (if_pos hg) kk
theorem e_ineg {i w : Int} (hi : x_in y k = (10, a, t, u, pc)) (hw : x_w (-i) = w) (kk : x_Ev y (k + 1) ls (.inl w :: st) b h r) : x_Ev y k ls (.inl i :: st) b h r := x_ev_stp hi (by decide) (by rw [← hw]; rfl) kk
theorem e_iand {i j w : Int} (hi : x_in y k = (11, a, t, u, pc)) (hw : (Int32.ofInt i &&& Int32.ofInt j).toInt = w) (kk : x_Ev y (k + 1) ls (.inl w :: st) b h r) : x_Ev y k ls (.inl j :: .inl i :: st) b h r := x_ev_stp hi (by decide) (by rw [← hw]; rfl) kk
theorem e_ior {i j w : Int} (hi : x_in y k = (12, a, t, u, pc)) (hw : (Int32.ofInt i ||| Int32.ofInt j).toInt = w) (kk : x_Ev y (k + 1) ls (.inl w :: st) b h r) : x_Ev y k ls (.inl j :: .inl i :: st) b h r := x_ev_stp hi (by decide) (by rw [← hw]; rfl) kk
theorem e_ishl {i j w : Int} (hi : x_in y k = (13, a, t, u, pc)) (hw : (Int32.ofInt i <<< (Int32.ofInt j &&& 31)).toInt = w) (kk : x_Ev y (k + 1) ls (.inl w :: st) b h r) : x_Ev y k ls (.inl j :: .inl i :: st) b h r := x_ev_stp hi (by decide) (by rw [← hw]; rfl) kk
theorem e_ishr {i j w : Int} (hi : x_in y k = (14, a, t, u, pc)) (hw : (Int32.ofInt i >>> (Int32.ofInt j &&& 31)).toInt = w) (kk : x_Ev y (k + 1) ls (.inl w :: st) b h r) : x_Ev y k ls (.inl j :: .inl i :: st) b h r := x_ev_stp hi (by decide) (by rw [← hw]; rfl) kk

theorem e_z_eq {i : Int} (hi : x_in y k = (15, a, t, 0, pc)) (kt : (i = 0) → x_Ev y t ls st b h r) (kf : ¬ (i = 0) → x_Ev y (k + 1) ls st b h r) : x_Ev y k ls (.inl i :: st) b h r := by
  by_cases c : (i = 0)
  · exact x_ev_stp hi (by decide) (show some (if x_cond 0 i 0 = true then t else k + 1, ls, st, b, h) = some (t, ls, st, b, h) by rw [if_pos (show x_cond 0 i 0 = true from decide_eq_true c)]) (kt c)
  · exact x_ev_stp hi (by decide) (show some (if x_cond 0 i 0 = true then t else k + 1, ls, st, b, h) = some (k + 1, ls, st, b, h) by rw [if_neg (show ¬ x_cond 0 i 0 = true from fun q => c (of_decide_eq_true q))]) (kf c)
theorem e_c_eq {i j : Int} (hi : x_in y k = (16, a, t, 0, pc)) (kt : (i = j) → x_Ev y t ls st b h r) (kf : ¬ (i = j) → x_Ev y (k + 1) ls st b h r) : x_Ev y k ls (.inl j :: .inl i :: st) b h r := by
  by_cases c : (i = j)
  · exact x_ev_stp hi (by decide) (show some (if x_cond 0 i j = true then t else k + 1, ls, st, b, h) = some (t, ls, st, b, h) by rw [if_pos (show x_cond 0 i j = true from decide_eq_true c)]) (kt c)
  · exact x_ev_stp hi (by decide) (show some (if x_cond 0 i j = true then t else k + 1, ls, st, b, h) = some (k + 1, ls, st, b, h) by rw [if_neg (show ¬ x_cond 0 i j = true from fun q => c (of_decide_eq_true q))]) (kf c)
theorem e_z_ne {i : Int} (hi : x_in y k = (15, a, t, 1, pc)) (kt : (¬ i = 0) → x_Ev y t ls st b h r) (kf : ¬ (¬ i = 0) → x_Ev y (k + 1) ls st b h r) : x_Ev y k ls (.inl i :: st) b h r := by
  by_cases c : (¬ i = 0)
  · exact x_ev_stp hi (by decide) (show some (if x_cond 1 i 0 = true then t else k + 1, ls, st, b, h) = some (t, ls, st, b, h) by rw [if_pos (show x_cond 1 i 0 = true from decide_eq_true c)]) (kt c)
  · exact x_ev_stp hi (by decide) (show some (if x_cond 1 i 0 = true then t else k + 1, ls, st, b, h) = some (k + 1, ls, st, b, h) by rw [if_neg (show ¬ x_cond 1 i 0 = true from fun q => c (of_decide_eq_true q))]) (kf c)
theorem e_c_ne {i j : Int} (hi : x_in y k = (16, a, t, 1, pc)) (kt : (¬ i = j) → x_Ev y t ls st b h r) (kf : ¬ (¬ i = j) → x_Ev y (k + 1) ls st b h r) : x_Ev y k ls (.inl j :: .inl i :: st) b h r := by
  by_cases c : (¬ i = j)
  · exact x_ev_stp hi (by decide) (show some (if x_cond 1 i j = true then t else k + 1, ls, st, b, h) = some (t, ls, st, b, h) by rw [if_pos (show x_cond 1 i j = true from decide_eq_true c)]) (kt c)
  · exact x_ev_stp hi (by decide) (show some (if x_cond 1 i j = true then t else k + 1, ls, st, b, h) = some (k + 1, ls, st, b, h) by rw [if_neg (show ¬ x_cond 1 i j = true from fun q => c (of_decide_eq_true q))]) (kf c)
theorem e_z_lt {i : Int} (hi : x_in y k = (15, a, t, 2, pc)) (kt : (i < 0) → x_Ev y t ls st b h r) (kf : ¬ (i < 0) → x_Ev y (k + 1) ls st b h r) : x_Ev y k ls (.inl i :: st) b h r := by
  by_cases c : (i < 0)
  · exact x_ev_stp hi (by decide) (show some (if x_cond 2 i 0 = true then t else k + 1, ls, st, b, h) = some (t, ls, st, b, h) by rw [if_pos (show x_cond 2 i 0 = true from decide_eq_true c)]) (kt c)
  · exact x_ev_stp hi (by decide) (show some (if x_cond 2 i 0 = true then t else k + 1, ls, st, b, h) = some (k + 1, ls, st, b, h) by rw [if_neg (show ¬ x_cond 2 i 0 = true from fun q => c (of_decide_eq_true q))]) (kf c)
theorem e_c_lt {i j : Int} (hi : x_in y k = (16, a, t, 2, pc)) (kt : (i < j) → x_Ev y t ls st b h r) (kf : ¬ (i < j) → x_Ev y (k + 1) ls st b h r) : x_Ev y k ls (.inl j :: .inl i :: st) b h r := by
  by_cases c : (i < j)
  · exact x_ev_stp hi (by decide) (show some (if x_cond 2 i j = true then t else k + 1, ls, st, b, h) = some (t, ls, st, b, h) by rw [if_pos (show x_cond 2 i j = true from decide_eq_true c)]) (kt c)
  · exact x_ev_stp hi (by decide) (show some (if x_cond 2 i j = true then t else k + 1, ls, st, b, h) = some (k + 1, ls, st, b, h) by rw [if_neg (show ¬ x_cond 2 i j = true from fun q => c (of_decide_eq_true q))]) (kf c)
theorem e_z_ge {i : Int} (hi : x_in y k = (15, a, t, 3, pc)) (kt : (0 ≤ i) → x_Ev y t ls st b h r) (kf : ¬ (0 ≤ i) → x_Ev y (k + 1) ls st b h r) : x_Ev y k ls (.inl i :: st) b h r := by
  by_cases c : (0 ≤ i)
  · exact x_ev_stp hi (by decide) (show some (if x_cond 3 i 0 = true then t else k + 1, ls, st, b, h) = some (t, ls, st, b, h) by rw [if_pos (show x_cond 3 i 0 = true from decide_eq_true c)]) (kt c)
  · exact x_ev_stp hi (by decide) (show some (if x_cond 3 i 0 = true then t else k + 1, ls, st, b, h) = some (k + 1, ls, st, b, h) by rw [if_neg (show ¬ x_cond 3 i 0 = true from fun q => c (of_decide_eq_true q))]) (kf c)
theorem e_c_ge {i j : Int} (hi : x_in y k = (16, a, t, 3, pc)) (kt : (j ≤ i) → x_Ev y t ls st b h r) (kf : ¬ (j ≤ i) → x_Ev y (k + 1) ls st b h r) : x_Ev y k ls (.inl j :: .inl i :: st) b h r := by
  by_cases c : (j ≤ i)
  · exact x_ev_stp hi (by decide) (show some (if x_cond 3 i j = true then t else k + 1, ls, st, b, h) = some (t, ls, st, b, h) by rw [if_pos (show x_cond 3 i j = true from decide_eq_true c)]) (kt c)
  · exact x_ev_stp hi (by decide) (show some (if x_cond 3 i j = true then t else k + 1, ls, st, b, h) = some (k + 1, ls, st, b, h) by rw [if_neg (show ¬ x_cond 3 i j = true from fun q => c (of_decide_eq_true q))]) (kf c)
theorem e_z_gt {i : Int} (hi : x_in y k = (15, a, t, 4, pc)) (kt : (0 < i) → x_Ev y t ls st b h r) (kf : ¬ (0 < i) → x_Ev y (k + 1) ls st b h r) : x_Ev y k ls (.inl i :: st) b h r := by
  by_cases c : (0 < i)
  · exact x_ev_stp hi (by decide) (show some (if x_cond 4 i 0 = true then t else k + 1, ls, st, b, h) = some (t, ls, st, b, h) by rw [if_pos (show x_cond 4 i 0 = true from decide_eq_true c)]) (kt c)
  · exact x_ev_stp hi (by decide) (show some (if x_cond 4 i 0 = true then t else k + 1, ls, st, b, h) = some (k + 1, ls, st, b, h) by rw [if_neg (show ¬ x_cond 4 i 0 = true from fun q => c (of_decide_eq_true q))]) (kf c)
theorem e_c_gt {i j : Int} (hi : x_in y k = (16, a, t, 4, pc)) (kt : (j < i) → x_Ev y t ls st b h r) (kf : ¬ (j < i) → x_Ev y (k + 1) ls st b h r) : x_Ev y k ls (.inl j :: .inl i :: st) b h r := by
  by_cases c : (j < i)
  · exact x_ev_stp hi (by decide) (show some (if x_cond 4 i j = true then t else k + 1, ls, st, b, h) = some (t, ls, st, b, h) by rw [if_pos (show x_cond 4 i j = true from decide_eq_true c)]) (kt c)
  · exact x_ev_stp hi (by decide) (show some (if x_cond 4 i j = true then t else k + 1, ls, st, b, h) = some (k + 1, ls, st, b, h) by rw [if_neg (show ¬ x_cond 4 i j = true from fun q => c (of_decide_eq_true q))]) (kf c)
theorem e_z_le {i : Int} (hi : x_in y k = (15, a, t, 5, pc)) (kt : (i ≤ 0) → x_Ev y t ls st b h r) (kf : ¬ (i ≤ 0) → x_Ev y (k + 1) ls st b h r) : x_Ev y k ls (.inl i :: st) b h r := by
  by_cases c : (i ≤ 0)
  · exact x_ev_stp hi (by decide) (show some (if x_cond 5 i 0 = true then t else k + 1, ls, st, b, h) = some (t, ls, st, b, h) by rw [if_pos (show x_cond 5 i 0 = true from decide_eq_true c)]) (kt c)
  · exact x_ev_stp hi (by decide) (show some (if x_cond 5 i 0 = true then t else k + 1, ls, st, b, h) = some (k + 1, ls, st, b, h) by rw [if_neg (show ¬ x_cond 5 i 0 = true from fun q => c (of_decide_eq_true q))]) (kf c)
theorem e_c_le {i j : Int} (hi : x_in y k = (16, a, t, 5, pc)) (kt : (i ≤ j) → x_Ev y t ls st b h r) (kf : ¬ (i ≤ j) → x_Ev y (k + 1) ls st b h r) : x_Ev y k ls (.inl j :: .inl i :: st) b h r := by
  by_cases c : (i ≤ j)
  · exact x_ev_stp hi (by decide) (show some (if x_cond 5 i j = true then t else k + 1, ls, st, b, h) = some (t, ls, st, b, h) by rw [if_pos (show x_cond 5 i j = true from decide_eq_true c)]) (kt c)
  · exact x_ev_stp hi (by decide) (show some (if x_cond 5 i j = true then t else k + 1, ls, st, b, h) = some (k + 1, ls, st, b, h) by rw [if_neg (show ¬ x_cond 5 i j = true from fun q => c (of_decide_eq_true q))]) (kf c)
/-- a branch on a truth value -/
theorem e_b_eq {c : Prop} [Decidable c] (hi : x_in y k = (15, a, t, 0, pc)) (kf : c → x_Ev y (k + 1) ls st b h r) (kt : ¬ c → x_Ev y t ls st b h r) : x_Ev y k ls (.inl (x_b c) :: st) b h r := by
  refine e_z_eq hi (fun q => kt (fun q2 => ?_)) (fun q => kf (Classical.byContradiction fun q2 => q (if_neg q2)))
  unfold x_b at q
  rw [if_pos q2] at q
  cases q
theorem e_b_ne {c : Prop} [Decidable c] (hi : x_in y k = (15, a, t, 1, pc)) (kt : c → x_Ev y t ls st b h r) (kf : ¬ c → x_Ev y (k + 1) ls st b h r) : x_Ev y k ls (.inl (x_b c) :: st) b h r := by
  refine e_z_ne hi (fun q => kt (Classical.byContradiction fun q2 => q (if_neg q2))) (fun q => kf (fun q2 => q ?_))
  unfold x_b
  rw [if_pos q2]
  decide
theorem e_goto (hi : x_in y k = (17, a, t, u, pc)) (kk : x_Ev y t ls st b h r) : x_Ev y k ls st b h r := x_ev_stp hi (by decide) rfl kk
theorem e_ifnull {v : Int} (hi : x_in y k = (18, a, t, u, pc)) (hv : -1 ≤ v) (kt : v < 0 → x_Ev y t ls st b h r) (kf : ¬ v < 0 → x_Ev y (k + 1) ls st b h r) : x_Ev y k ls (.inr v :: st) b h r := by
  by_cases c : v < 0
  · exact x_ev_stp hi (by decide) (show (if -1 ≤ v then some (if v < 0 then t else k + 1, ls, st, b, h) else none) = some (t, ls, st, b, h) by rw [if_pos hv, if_pos c]) (kt c)
  · exact x_ev_stp hi (by decide) (show (if -1 ≤ v then some (if v < 0 then t else k + 1, ls, st, b, h) else none) = some (k + 1, ls, st, b, h) by rw [if_pos hv, if_neg c]) (kf c)
theorem e_ifnonnull {v : Int} (hi : x_in y k = (19, a, t, u, pc)) (hv : -1 ≤ v) (kt : ¬ v < 0 → x_Ev y t ls st b h r) (kf : v < 0 → x_Ev y (k + 1) ls st b h r) : x_Ev y k ls (.inr v :: st) b h r := by
  by_cases c : v < 0
  · exact x_ev_stp hi (by decide) (show (if -1 ≤ v then some (if v < 0 then k + 1 else t, ls, st, b, h) else none) = some (k + 1, ls, st, b, h) by rw [if_pos hv, if_pos c]) (kf c)
  · exact x_ev_stp hi (by decide) (show (if -1 ≤ v then some (if v < 0 then k + 1 else t, ls, st, b, h) else none) = some (t, ls, st, b, h) by rw [if_pos hv, if_neg c]) (kt c)
theorem e_null (hi : x_in y k = (20, a, t, u, pc)) (kk : x_Ev y (k + 1) ls (.inr (-1) :: st) b h r) : x_Ev y k ls st b h r := x_ev_stp hi (by decide) rfl kk
theorem e_dup {v : xV} (hi : x_in y k = (21, a, t, u, pc)) (kk : x_Ev y (k + 1) ls (v :: v :: st) b h r) : x_Ev y k ls (v :: st) b h r := x_ev_stp hi (by decide) rfl kk
theorem e_pop {v : xV} (hi : x_in y k = (22, a, t, u, pc)) (kk : x_Ev y (k + 1) ls st b h r) : x_Ev y k ls (v :: st) b h r := x_ev_stp hi (by decide) rfl kk
theorem e_dup2 {v w : xV} (hi : x_in y k = (23, a, t, u, pc)) (kk : x_Ev y (k + 1) ls (v :: w :: v :: w :: st) b h r) : x_Ev y k ls (v :: w :: st) b h r := x_ev_stp hi (by decide) rfl kk
theorem x_okb {z v : Int} {c : Nat} (h0 : 0 ≤ v) (h1 : v < z) (h2 : x_kd v = c) : x_ok z v c = true := by
  unfold x_ok
  simp [h0, h1, h2]
theorem e_getI {z v w j : Int} {P M : Int → Int → Int} (hi : x_in y k = (24, a, t, u, pc)) (ho : 0 ≤ v ∧ v < z ∧ x_kd v = t / 16) (hj : ((t % 16 : Nat) : Int) = j) (hw : M v j = w) (kk : x_Ev y (k + 1) ls (.inl w :: st) b (z, P, M) r) : x_Ev y k ls (.inr v :: st) b (z, P, M) r := x_ev_stp hi (by decide) (by rw [← hw, ← hj]; exact if_pos (x_okb ho.1 ho.2.1 ho.2.2)) kk
theorem e_getR {z v w j : Int} {P M : Int → Int → Int} (hi : x_in y k = (25, a, t, u, pc)) (ho : 0 ≤ v ∧ v < z ∧ x_kd v = t / 16) (hj : ((t % 16 : Nat) : Int) = j) (hw : P v j = w) (kk : x_Ev y (k + 1) ls (.inr w :: st) b (z, P, M) r) : x_Ev y k ls (.inr v :: st) b (z, P, M) r := x_ev_stp hi (by decide) (by rw [← hw, ← hj]; exact if_pos (x_okb ho.1 ho.2.1 ho.2.2)) kk
theorem e_putI {z v w j : Int} {P M : Int → Int → Int} (hi : x_in y k = (26, a, t, u, pc)) (ho : 0 ≤ v ∧ v < z ∧ x_kd v = t / 16) (hj : ((t % 16 : Nat) : Int) = j) (kk : x_Ev y (k + 1) ls st b (z, P, x_up M v j w) r) : x_Ev y k ls (.inl w :: .inr v :: st) b (z, P, M) r := x_ev_stp hi (by decide) (by subst hj; exact if_pos (x_okb ho.1 ho.2.1 ho.2.2)) kk
theorem e_putZ {z v w j : Int} {P M : Int → Int → Int} (hi : x_in y k = (32, a, t, u, pc)) (ho : 0 ≤ v ∧ v < z ∧ x_kd v = t / 16) (hj : ((t % 16 : Nat) : Int) = j) (hw : w = 0 ∨ w = 1) (kk : x_Ev y (k + 1) ls st b (z, P, x_up M v j w) r) : x_Ev y k ls (.inl w :: .inr v :: st) b (z, P, M) r := x_ev_stp hi (by decide) (by subst hj; exact if_pos ⟨x_okb ho.1 ho.2.1 ho.2.2, hw⟩) kk
theorem e_putR {z v w j : Int} {P M : Int → Int → Int} (hi : x_in y k = (27, a, t, u, pc)) (ho : 0 ≤ v ∧ v < z ∧ x_kd v = t / 16) (hj : ((t % 16 : Nat) : Int) = j) (hw : -1 ≤ w) (kk : x_Ev y (k + 1) ls st b (z, x_up P v j w, M) r) : x_Ev y k ls (.inr w :: .inr v :: st) b (z, P, M) r := x_ev_stp hi (by decide) (by subst hj; exact if_pos ⟨x_okb ho.1 ho.2.1 ho.2.2, hw⟩) kk
theorem e_iald {z v j w : Int} {P M : Int → Int → Int} (hi : x_in y k = (28, a, t, u, pc)) (ho : 0 ≤ v ∧ v < z ∧ x_kd v = 8) (hj : 0 ≤ j ∧ j < x_ln v) (hw : M v j = w) (kk : x_Ev y (k + 1) ls (.inl w :: st) b (z, P, M) r) : x_Ev y k ls (.inl j :: .inr v :: st) b (z, P, M) r := x_ev_stp hi (by decide) (by rw [← hw]; exact if_pos ⟨x_okb ho.1 ho.2.1 ho.2.2, hj⟩) kk
theorem e_iast {z v j w : Int} {P M : Int → Int → Int} (hi : x_in y k = (29, a, t, u, pc)) (ho : 0 ≤ v ∧ v < z ∧ x_kd v = 8) (hj : 0 ≤ j ∧ j < x_ln v) (kk : x_Ev y (k + 1) ls st b (z, P, x_up M v j w) r) : x_Ev y k ls (.inl w :: .inl j :: .inr v :: st) b (z, P, M) r := x_ev_stp hi (by decide) (if_pos ⟨x_okb ho.1 ho.2.1 ho.2.2, hj⟩) kk
theorem e_bald {z v j w : Int} {P M : Int → Int → Int} (hi : x_in y k = (33, a, t, u, pc)) (ho : 0 ≤ v ∧ v < z ∧ x_kd v = 9) (hj : 0 ≤ j ∧ j < x_ln v) (hw : M v j = w) (kk : x_Ev y (k + 1) ls (.inl w :: st) b (z, P, M) r) : x_Ev y k ls (.inl j :: .inr v :: st) b (z, P, M) r := x_ev_stp hi (by decide) (by rw [← hw]; exact if_pos ⟨x_okb ho.1 ho.2.1 ho.2.2, hj⟩) kk
theorem e_bast {z v j w : Int} {P M : Int → Int → Int} (hi : x_in y k = (34, a, t, u, pc)) (ho : 0 ≤ v ∧ v < z ∧ x_kd v = 9) (hj : 0 ≤ j ∧ j < x_ln v) (hw : w = 0 ∨ w = 1) (kk : x_Ev y (k + 1) ls st b (z, P, x_up M v j w) r) : x_Ev y k ls (.inl w :: .inl j :: .inr v :: st) b (z, P, M) r := x_ev_stp hi (by decide) (if_pos ⟨x_okb ho.1 ho.2.1 ho.2.2, hj.1, hj.2, hw⟩) kk
theorem e_aald {z v j w : Int} {P M : Int → Int → Int} (hi : x_in y k = (30, a, t, u, pc)) (ho : 0 ≤ v ∧ v < z ∧ 10 ≤ x_kd v ∧ x_kd v < 14) (hj : 0 ≤ j ∧ j < x_ln v) (hw : P v j = w) (kk : x_Ev y (k + 1) ls (.inr w :: st) b (z, P, M) r) : x_Ev y k ls (.inl j :: .inr v :: st) b (z, P, M) r := x_ev_stp hi (by decide) (by rw [← hw]; exact if_pos ⟨ho.1, ho.2.1, ho.2.2.1, ho.2.2.2, hj.1, hj.2⟩) kk
theorem e_aast {z v j w : Int} {c : Nat} {P M : Int → Int → Int} (hi : x_in y k = (31, a, t, u, pc)) (ho : 0 ≤ v ∧ v < z ∧ x_kd v = c ∧ 10 ≤ c ∧ c < 14) (hj : 0 ≤ j ∧ j < x_ln v) (hw : 0 ≤ w ∧ w < z ∧ x_kd w = [0, 2, 4, 5].getD (c - 10) 99) (kk : x_Ev y (k + 1) ls st b (z, x_up P v j w, M) r) : x_Ev y k ls (.inr w :: .inl j :: .inr v :: st) b (z, P, M) r := x_ev_stp hi (by decide) (if_pos (by rw [ho.2.2.1]; exact ⟨ho.1, ho.2.1, ho.2.2.2.1, ho.2.2.2.2, hj.1, hj.2, x_okb hw.1 hw.2.1 hw.2.2⟩)) kk
theorem e_new {z : Int} {P M : Int → Int → Int} {b1 b2 u0 : Nat} (hi : x_in y k = (35, a, t, u, pc)) (ho : x_kd z = t ∧ t < 8 ∧ xnsl t = u0) (kk : x_Ev y (k + 1) ls (.inr z :: st) (b1, b2) (z + 1, x_clr P z (-1), x_clr M z 0) r) : x_Ev y k ls st (b1 + 1, b2 + u0) (z, P, M) r := x_ev_stp hi (by decide) (b' := (b1, b2)) (by
  show (if x_kd z = t ∧ t < 8 ∧ 1 ≤ b1 + 1 ∧ xnsl t ≤ b2 + u0 then some (k + 1, ls, Sum.inr z :: st, (b1 + 1 - 1, b2 + u0 - xnsl t), _) else none) = _
  rw [if_pos ⟨ho.1, ho.2.1, by omega, by omega⟩, ho.2.2]
  simp) kk
theorem e_newI {z n : Int} {P M : Int → Int → Int} {b1 b2 u0 : Nat} (hi : x_in y k = (36, a, t, u, pc)) (ho : x_kd z = 8 ∧ x_ln z = n ∧ 0 ≤ n ∧ n ≤ 10000) (hn : n.toNat = u0) (kk : x_Ev y (k + 1) ls (.inr z :: st) (b1, b2) (z + 1, x_clr P z (-1), x_clr M z 0) r) : x_Ev y k ls (.inl n :: st) (b1 + 1, b2 + u0) (z, P, M) r := x_ev_stp hi (by decide) (b' := (b1, b2)) (by
  show (if x_kd z = 8 ∧ x_ln z = n ∧ 0 ≤ n ∧ n ≤ 10000 ∧ 1 ≤ b1 + 1 ∧ n.toNat ≤ b2 + u0 then some (k + 1, ls, Sum.inr z :: st, (b1 + 1 - 1, b2 + u0 - n.toNat), _) else none) = _
  rw [if_pos ⟨ho.1, ho.2.1, ho.2.2.1, ho.2.2.2, by omega, by omega⟩, hn]
  simp) kk
theorem e_newZ {z n : Int} {P M : Int → Int → Int} {b1 b2 u0 : Nat} (hi : x_in y k = (37, a, t, u, pc)) (ho : x_kd z = 9 ∧ x_ln z = n ∧ 0 ≤ n ∧ n ≤ 10000) (hn : n.toNat = u0) (kk : x_Ev y (k + 1) ls (.inr z :: st) (b1, b2) (z + 1, x_clr P z (-1), x_clr M z 0) r) : x_Ev y k ls (.inl n :: st) (b1 + 1, b2 + u0) (z, P, M) r := x_ev_stp hi (by decide) (b' := (b1, b2)) (by
  show (if x_kd z = 9 ∧ x_ln z = n ∧ 0 ≤ n ∧ n ≤ 10000 ∧ 1 ≤ b1 + 1 ∧ n.toNat ≤ b2 + u0 then some (k + 1, ls, Sum.inr z :: st, (b1 + 1 - 1, b2 + u0 - n.toNat), _) else none) = _
  rw [if_pos ⟨ho.1, ho.2.1, ho.2.2.1, ho.2.2.2, by omega, by omega⟩, hn]
  simp) kk
theorem e_newQ {z n : Int} {P M : Int → Int → Int} {b1 b2 u0 : Nat} (hi : x_in y k = (38, a, t, u, pc)) (ho : x_kd z = t ∧ 10 ≤ t ∧ t < 14 ∧ x_ln z = n ∧ 0 ≤ n ∧ n ≤ 10000) (hn : n.toNat = u0) (kk : x_Ev y (k + 1) ls (.inr z :: st) (b1, b2) (z + 1, x_clr P z (-1), x_clr M z 0) r) : x_Ev y k ls (.inl n :: st) (b1 + 1, b2 + u0) (z, P, M) r := x_ev_stp hi (by decide) (b' := (b1, b2)) (by
  show (if x_kd z = t ∧ 10 ≤ t ∧ t < 14 ∧ x_ln z = n ∧ 0 ≤ n ∧ n ≤ 10000 ∧ 1 ≤ b1 + 1 ∧ n.toNat ≤ b2 + u0 then some (k + 1, ls, Sum.inr z :: st, (b1 + 1 - 1, b2 + u0 - n.toNat), _) else none) = _
  rw [if_pos ⟨ho.1, ho.2.1, ho.2.2.1, ho.2.2.2.1, ho.2.2.2.2.1, ho.2.2.2.2.2, by omega, by omega⟩, hn]
  simp) kk
theorem x_b01 {c : Prop} [Decidable c] : x_b c = 0 ∨ x_b c = 1 := by
  unfold x_b
  split
  · exact Or.inr rfl
  · exact Or.inl rfl
theorem x_okt {z v : Int} {c : Nat} {as : List xV} (h : 0 ≤ v ∧ v < z ∧ x_kd v = c) : x_rc z c (.inr v :: as) = true := x_okb h.1 h.2.1 h.2.2
theorem x_ok4 {z v : Int} {c : Nat} (h : 0 ≤ v ∧ v < z ∧ x_kd v = c) (hc : 10 ≤ c ∧ c < 14) : 0 ≤ v ∧ v < z ∧ 10 ≤ x_kd v ∧ x_kd v < 14 := by
  rw [h.2.2]
  exact ⟨h.1, h.2.1, hc.1, hc.2⟩
theorem e_oinit {z v : Int} {P M : Int → Int → Int} (hi : x_in y k = (43, a, t, u, pc)) (ho : 0 ≤ v ∧ v < z ∧ st.length ≤ 8) (kk : x_Ev y (k + 1) ls st b (z, P, M) r) : x_Ev y k ls (.inr v :: st) b (z, P, M) r := x_ev_stp hi (by decide) (if_pos ho) kk
theorem e_max {i j : Int} (hi : x_in y k = (44, a, t, u, pc)) (h8 : st.length ≤ 8) (kk : x_Ev y (k + 1) ls (.inl (max i j) :: st) b h r) : x_Ev y k ls (.inl j :: .inl i :: st) b h r := x_ev_stp hi (by decide) (if_pos h8) kk
theorem e_min {i j : Int} (hi : x_in y k = (45, a, t, u, pc)) (h8 : st.length ≤ 8) (kk : x_Ev y (k + 1) ls (.inl (min i j) :: st) b h r) : x_Ev y k ls (.inl j :: .inl i :: st) b h r := x_ev_stp hi (by decide) (if_pos h8) kk
theorem e_copy {z n dp v sp v0 : Int} {P M : Int → Int → Int} (hi : x_in y k = (46, a, t, u, pc)) (ho : 0 ≤ v ∧ v < z ∧ x_kd v = 8) (ho0 : 0 ≤ v0 ∧ v0 < z ∧ x_kd v0 = 8) (hg : 0 ≤ sp ∧ 0 ≤ dp ∧ 0 ≤ n ∧ sp + n ≤ x_ln v0 ∧ dp + n ≤ x_ln v ∧ st.length ≤ 8) (kk : x_Ev y (k + 1) ls st b (z, P, x_cp M v0 sp v dp n) r) : x_Ev y k ls (.inl n :: .inl dp :: .inr v :: .inl sp :: .inr v0 :: st) b (z, P, M) r := x_ev_stp hi (by decide) (if_pos ⟨x_okb ho.1 ho.2.1 ho.2.2, x_okb ho0.1 ho0.2.1 ho0.2.2, hg⟩) kk
theorem e_sw {i : Int} {t2 : Nat} (hi : x_in y k = (47, a, t, u, pc)) (ht : x_swt u i = t2) (kk : x_Ev y t2 ls st b h r) : x_Ev y k ls (.inl i :: st) b h r := x_ev_stp hi (by decide) (by rw [← ht]; rfl) kk
theorem e_sld {z j w : Int} {P M : Int → Int → Int} (hi : x_in y k = (54, a, t, u, pc)) (hj : 0 ≤ j ∧ j < M (-2) (-1)) (hw : M (-2) j = w) (kk : x_Ev y (k + 1) ls (.inl w :: st) b (z, P, M) r) : x_Ev y k ls (.inl j :: .inr (-2) :: st) b (z, P, M) r := x_ev_stp hi (by decide) (by rw [← hw]; exact if_pos ⟨rfl, hj⟩) kk
theorem e_slen {z w : Int} {P M : Int → Int → Int} (hi : x_in y k = (55, a, t, u, pc)) (hw : M (-2) (-1) = w) (kk : x_Ev y (k + 1) ls (.inl w :: st) b (z, P, M) r) : x_Ev y k ls (.inr (-2) :: st) b (z, P, M) r := x_ev_stp hi (by decide) (by rw [← hw]; rfl) kk
end
/-- what is known of a method: its numbers of arguments, locals, cells, slots, how it is called, on what -/
def x_Mi (t np ml mc ms st rk : Nat) : Prop := x_np t = np ∧ x_ml t = ml ∧ x_mc t = mc ∧ x_ms t = ms ∧ x_st t = st ∧ x_rk t = rk
theorem x_ev_mono {y k : Nat} {ls st : List xV} {b : xB} {h : xH} {r r2 : Option xV × xH → Prop} (hr : x_Ev y k ls st b h r) (hm : ∀ q, r q → r2 q) : x_Ev y k ls st b h r2 := by
  obtain ⟨n, q, h1, h2⟩ := hr
  exact ⟨n, q, h1, hm q h2⟩
section
variable {y k : Nat} {ls rest : List xV} {h h1 : xH} {r r1 : Option xV × xH → Prop} {a : Int} {t u pc op np ml mc ms st rk c1 c2 : Nat} {v : Option xV}
/-- a method's own walk gives its call -/
theorem e_body {as ls0 : List xV} (hm : x_Mi t np ml mc ms st rk) (hl : as ++ List.replicate (ml - np) x_un = ls0) (kk : x_Ev t 0 ls0 [] (mc, ms) h r) : x_CallR t as h r := by
  obtain ⟨m1, m2, m3, m4, m5, m6⟩ := hm
  unfold x_CallR
  rw [m1, m2, m3, m4, hl]
  exact kk
/-- a call: the arguments as they lie on the stack, the last one on top -/
theorem e_callR {as sas : List xV} (hi : x_in y k = (op, a, t, u, pc)) (ho : 40 ≤ op ∧ op ≤ 42) (hm : x_Mi t np ml mc ms st rk) (hs : sas = as.reverse ++ rest) (hg : as.length = np ∧ rest.length ≤ 8 ∧ np ≤ ml) (hrc : st = 1 ∨ x_rc h.1 rk as = true) (hc : x_CallR t as h r1) (kk : ∀ v h1, r1 (v, h1) → x_Ev y (k + 1) ls (v.toList ++ rest) (c1, c2) h1 r) : x_Ev y k ls sas (c1 + mc, c2 + ms) h r := by
  obtain ⟨m1, m2, m3, m4, m5, m6⟩ := hm
  subst hs
  have e1 : (as.reverse ++ rest).take (x_np t) = as.reverse := by rw [m1, ← hg.1, ← List.length_reverse, List.take_left]
  have e2 : (as.reverse ++ rest).drop (x_np t) = rest := by rw [m1, ← hg.1, ← List.length_reverse, List.drop_left]
  refine x_ev_call (as := as) (rest := rest) hi ho ?_ hc ?_
  · unfold x_arg
    rw [e1, e2, List.reverse_reverse, if_pos]
    refine ⟨by rw [m1]; simp; omega, hg.2.1, by show x_mc t ≤ c1 + mc; omega, by show x_ms t ≤ c2 + ms; omega, by omega, ?_⟩
    rw [m5, m6]
    exact hrc
  · intro v h1 hq
    rw [m3, m4]
    simpa using kk v h1 hq
theorem e_call {as sas : List xV} (hi : x_in y k = (op, a, t, u, pc)) (ho : 40 ≤ op ∧ op ≤ 42) (hm : x_Mi t np ml mc ms st rk) (hs : sas = as.reverse ++ rest) (hg : as.length = np ∧ rest.length ≤ 8 ∧ np ≤ ml) (hrc : st = 1 ∨ x_rc h.1 rk as = true) (hc : x_Call t as h v h1) (kk : x_Ev y (k + 1) ls (v.toList ++ rest) (c1, c2) h1 r) : x_Ev y k ls sas (c1 + mc, c2 + ms) h r :=
  e_callR hi ho hm hs hg hrc hc (fun w h2 hq => by cases hq; exact kk)
end
