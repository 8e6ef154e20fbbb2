/-! the script stays -/
section
variable {a : Int} {t u pc k : Nat} {als ast : List xV} {b : xB} {h : xH} {c' : xC}
theorem x_scr0 (hz : 0 ≤ h.1) (hst : x_stp (0, a, t, u, pc) k als ast b h = some c') : 0 ≤ c'.2.2.2.2.1 ∧ ∀ j, c'.2.2.2.2.2.2 (-2) j = h.2.2 (-2) j := by
  have hs : (some (k + 1, als, .inl a :: ast, b, h)) = some c' := hst
  cases hs
  exact ⟨hz, fun j => rfl⟩
theorem x_scr1 (hz : 0 ≤ h.1) (hst : x_stp (1, a, t, u, pc) k als ast b h = some c') : 0 ≤ c'.2.2.2.2.1 ∧ ∀ j, c'.2.2.2.2.2.2 (-2) j = h.2.2 (-2) j := by
  have hs : ((match (generalizing := false) als[t]? with | some (.inl v) => some (k + 1, als, .inl v :: ast, b, h) | _ => none)) = some c' := hst
  repeat' split at hs
  all_goals first | (cases hs; exact ⟨hz, fun j => rfl⟩) | cases hs
theorem x_scr2 (hz : 0 ≤ h.1) (hst : x_stp (2, a, t, u, pc) k als ast b h = some c') : 0 ≤ c'.2.2.2.2.1 ∧ ∀ j, c'.2.2.2.2.2.2 (-2) j = h.2.2 (-2) j := by
  have hs : ((match (generalizing := false) als[t]? with | some (.inr v) => if -2 ≤ v then some (k + 1, als, .inr v :: ast, b, h) else none | _ => none)) = some c' := hst
  repeat' split at hs
  all_goals first | (cases hs; exact ⟨hz, fun j => rfl⟩) | cases hs
theorem x_scr3 (hz : 0 ≤ h.1) (hst : x_stp (3, a, t, u, pc) k als ast b h = some c') : 0 ≤ c'.2.2.2.2.1 ∧ ∀ j, c'.2.2.2.2.2.2 (-2) j = h.2.2 (-2) j := by
  have hs : ((match (generalizing := false) ast with | .inl v :: st => if t < als.length then some (k + 1, als.set t (.inl v), st, b, h) else none | _ => none)) = some c' := hst
  repeat' split at hs
  all_goals first | (cases hs; exact ⟨hz, fun j => rfl⟩) | cases hs
theorem x_scr4 (hz : 0 ≤ h.1) (hst : x_stp (4, a, t, u, pc) k als ast b h = some c') : 0 ≤ c'.2.2.2.2.1 ∧ ∀ j, c'.2.2.2.2.2.2 (-2) j = h.2.2 (-2) j := by
  have hs : ((match (generalizing := false) ast with | .inr v :: st => if t < als.length ∧ -2 ≤ v then some (k + 1, als.set t (.inr v), st, b, h) else none | _ => none)) = some c' := hst
  repeat' split at hs
  all_goals first | (cases hs; exact ⟨hz, fun j => rfl⟩) | cases hs
theorem x_scr5 (hz : 0 ≤ h.1) (hst : x_stp (5, a, t, u, pc) k als ast b h = some c') : 0 ≤ c'.2.2.2.2.1 ∧ ∀ j, c'.2.2.2.2.2.2 (-2) j = h.2.2 (-2) j := by
  have hs : ((match (generalizing := false) als[t]? with | some (.inl v) => some (k + 1, als.set t (.inl (x_w (v + a))), ast, b, h) | _ => none)) = some c' := hst
  repeat' split at hs
  all_goals first | (cases hs; exact ⟨hz, fun j => rfl⟩) | cases hs
theorem x_scr6 (hz : 0 ≤ h.1) (hst : x_stp (6, a, t, u, pc) k als ast b h = some c') : 0 ≤ c'.2.2.2.2.1 ∧ ∀ j, c'.2.2.2.2.2.2 (-2) j = h.2.2 (-2) j := by
  have hs : ((match (generalizing := false) ast with | .inl j :: .inl i :: st => some (k + 1, als, .inl (x_w (i + j)) :: st, b, h) | _ => none)) = some c' := hst
  repeat' split at hs
  all_goals first | (cases hs; exact ⟨hz, fun j => rfl⟩) | cases hs
theorem x_scr7 (hz : 0 ≤ h.1) (hst : x_stp (7, a, t, u, pc) k als ast b h = some c') : 0 ≤ c'.2.2.2.2.1 ∧ ∀ j, c'.2.2.2.2.2.2 (-2) j = h.2.2 (-2) j := by
  have hs : ((match (generalizing := false) ast with | .inl j :: .inl i :: st => some (k + 1, als, .inl (x_w (i - j)) :: st, b, h) | _ => none)) = some c' := hst
  repeat' split at hs
  all_goals first | (cases hs; exact ⟨hz, fun j => rfl⟩) | cases hs
theorem x_scr8 (hz : 0 ≤ h.1) (hst : x_stp (8, a, t, u, pc) k als ast b h = some c') : 0 ≤ c'.2.2.2.2.1 ∧ ∀ j, c'.2.2.2.2.2.2 (-2) j = h.2.2 (-2) j := by
  have hs : ((match (generalizing := false) ast with | .inl j :: .inl i :: st => some (k + 1, als, .inl (x_w (i * j)) :: st, b, h) | _ => none)) = some c' := hst
  repeat' split at hs
  all_goals first | (cases hs; exact ⟨hz, fun j => rfl⟩) | cases hs
theorem x_scr9 (hz : 0 ≤ h.1) (hst : x_stp (9, a, t, u, pc) k als ast b h = some c') : 0 ≤ c'.2.2.2.2.1 ∧ ∀ j, c'.2.2.2.2.2.2 (-2) j = h.2.2 (-2) j := by
  have hs : ((match (generalizing := false) ast with | .inl j :: .inl i :: st => if 0 ≤ i ∧ 0 < j then some (k + 1, als, .inl (i % j) :: st, b, h) else none | _ => none)) = some c' := hst
  repeat' split at hs
  all_goals first | (cases hs; exact ⟨hz, fun j => rfl⟩) | cases hs
theorem x_scr10 (hz : 0 ≤ h.1) (hst : x_stp (10, a, t, u, pc) k als ast b h = some c') : 0 ≤ c'.2.2.2.2.1 ∧ ∀ j, c'.2.2.2.2.2.2 (-2) j = h.2.2 (-2) j := by
  have hs : ((match (generalizing := false) ast with | .inl i :: st => some (k + 1, als, .inl (x_w (-i)) :: st, b, h) | _ => none)) = some c' := hst
  repeat' split at hs
  all_goals first | (cases hs; exact ⟨hz, fun j => rfl⟩) | cases hs
theorem x_scr11 (hz : 0 ≤ h.1) (hst : x_stp (11, a, t, u, pc) k als ast b h = some c') : 0 ≤ c'.2.2.2.2.1 ∧ ∀ j, c'.2.2.2.2.2.2 (-2) j = h.2.2 (-2) j := by
  have hs : ((match (generalizing := false) ast with | .inl j :: .inl i :: st => some (k + 1, als, .inl (Int32.ofInt i &&& Int32.ofInt j).toInt :: st, b, h) | _ => none)) = some c' := hst
  repeat' split at hs
  all_goals first | (cases hs; exact ⟨hz, fun j => rfl⟩) | cases hs
theorem x_scr12 (hz : 0 ≤ h.1) (hst : x_stp (12, a, t, u, pc) k als ast b h = some c') : 0 ≤ c'.2.2.2.2.1 ∧ ∀ j, c'.2.2.2.2.2.2 (-2) j = h.2.2 (-2) j := by
  have hs : ((match (generalizing := false) ast with | .inl j :: .inl i :: st => some (k + 1, als, .inl (Int32.ofInt i ||| Int32.ofInt j).toInt :: st, b, h) | _ => none)) = some c' := hst
  repeat' split at hs
  all_goals first | (cases hs; exact ⟨hz, fun j => rfl⟩) | cases hs
theorem x_scr13 (hz : 0 ≤ h.1) (hst : x_stp (13, a, t, u, pc) k als ast b h = some c') : 0 ≤ c'.2.2.2.2.1 ∧ ∀ j, c'.2.2.2.2.2.2 (-2) j = h.2.2 (-2) j := by
  have hs : ((match (generalizing := false) ast with | .inl j :: .inl i :: st => some (k + 1, als, .inl (Int32.ofInt i <<< (Int32.ofInt j &&& 31)).toInt :: st, b, h) | _ => none)) = some c' := hst
  repeat' split at hs
  all_goals first | (cases hs; exact ⟨hz, fun j => rfl⟩) | cases hs
theorem x_scr14 (hz : 0 ≤ h.1) (hst : x_stp (14, a, t, u, pc) k als ast b h = some c') : 0 ≤ c'.2.2.2.2.1 ∧ ∀ j, c'.2.2.2.2.2.2 (-2) j = h.2.2 (-2) j := by
  have hs : ((match (generalizing := false) ast with | .inl j :: .inl i :: st => some (k + 1, als, .inl (Int32.ofInt i >>> (Int32.ofInt j &&& 31)).toInt :: st, b, h) | _ => none)) = some c' := hst
  repeat' split at hs
  all_goals first | (cases hs; exact ⟨hz, fun j => rfl⟩) | cases hs
theorem x_scr15 (hz : 0 ≤ h.1) (hst : x_stp (15, a, t, u, pc) k als ast b h = some c') : 0 ≤ c'.2.2.2.2.1 ∧ ∀ j, c'.2.2.2.2.2.2 (-2) j = h.2.2 (-2) j := by
  have hs : ((match (generalizing := false) ast with | .inl i :: st => some (if x_cond u i 0 then t else k + 1, als, st, b, h) | _ => none)) = some c' := hst
  repeat' split at hs
  all_goals first | (cases hs; exact ⟨hz, fun j => rfl⟩) | cases hs
theorem x_scr16 (hz : 0 ≤ h.1) (hst : x_stp (16, a, t, u, pc) k als ast b h = some c') : 0 ≤ c'.2.2.2.2.1 ∧ ∀ j, c'.2.2.2.2.2.2 (-2) j = h.2.2 (-2) j := by
  have hs : ((match (generalizing := false) ast with | .inl j :: .inl i :: st => some (if x_cond u i j then t else k + 1, als, st, b, h) | _ => none)) = some c' := hst
  repeat' split at hs
  all_goals first | (cases hs; exact ⟨hz, fun j => rfl⟩) | cases hs
theorem x_scr17 (hz : 0 ≤ h.1) (hst : x_stp (17, a, t, u, pc) k als ast b h = some c') : 0 ≤ c'.2.2.2.2.1 ∧ ∀ j, c'.2.2.2.2.2.2 (-2) j = h.2.2 (-2) j := by
  have hs : (some (t, als, ast, b, h)) = some c' := hst
  cases hs
  exact ⟨hz, fun j => rfl⟩
theorem x_scr18 (hz : 0 ≤ h.1) (hst : x_stp (18, a, t, u, pc) k als ast b h = some c') : 0 ≤ c'.2.2.2.2.1 ∧ ∀ j, c'.2.2.2.2.2.2 (-2) j = h.2.2 (-2) j := by
  have hs : ((match (generalizing := false) ast with | .inr r :: st => if -1 ≤ r then some (if r < 0 then t else k + 1, als, st, b, h) else none | _ => none)) = some c' := hst
  repeat' split at hs
  all_goals first | (cases hs; exact ⟨hz, fun j => rfl⟩) | cases hs
theorem x_scr19 (hz : 0 ≤ h.1) (hst : x_stp (19, a, t, u, pc) k als ast b h = some c') : 0 ≤ c'.2.2.2.2.1 ∧ ∀ j, c'.2.2.2.2.2.2 (-2) j = h.2.2 (-2) j := by
  have hs : ((match (generalizing := false) ast with | .inr r :: st => if -1 ≤ r then some (if r < 0 then k + 1 else t, als, st, b, h) else none | _ => none)) = some c' := hst
  repeat' split at hs
  all_goals first | (cases hs; exact ⟨hz, fun j => rfl⟩) | cases hs
theorem x_scr20 (hz : 0 ≤ h.1) (hst : x_stp (20, a, t, u, pc) k als ast b h = some c') : 0 ≤ c'.2.2.2.2.1 ∧ ∀ j, c'.2.2.2.2.2.2 (-2) j = h.2.2 (-2) j := by
  have hs : (some (k + 1, als, .inr (-1) :: ast, b, h)) = some c' := hst
  cases hs
  exact ⟨hz, fun j => rfl⟩
theorem x_scr21 (hz : 0 ≤ h.1) (hst : x_stp (21, a, t, u, pc) k als ast b h = some c') : 0 ≤ c'.2.2.2.2.1 ∧ ∀ j, c'.2.2.2.2.2.2 (-2) j = h.2.2 (-2) j := by
  have hs : ((match (generalizing := false) ast with | v :: st => some (k + 1, als, v :: v :: st, b, h) | _ => none)) = some c' := hst
  repeat' split at hs
  all_goals first | (cases hs; exact ⟨hz, fun j => rfl⟩) | cases hs
theorem x_scr22 (hz : 0 ≤ h.1) (hst : x_stp (22, a, t, u, pc) k als ast b h = some c') : 0 ≤ c'.2.2.2.2.1 ∧ ∀ j, c'.2.2.2.2.2.2 (-2) j = h.2.2 (-2) j := by
  have hs : ((match (generalizing := false) ast with | _ :: st => some (k + 1, als, st, b, h) | _ => none)) = some c' := hst
  repeat' split at hs
  all_goals first | (cases hs; exact ⟨hz, fun j => rfl⟩) | cases hs
theorem x_scr23 (hz : 0 ≤ h.1) (hst : x_stp (23, a, t, u, pc) k als ast b h = some c') : 0 ≤ c'.2.2.2.2.1 ∧ ∀ j, c'.2.2.2.2.2.2 (-2) j = h.2.2 (-2) j := by
  have hs : ((match (generalizing := false) ast with | v :: w :: st => some (k + 1, als, v :: w :: v :: w :: st, b, h) | _ => none)) = some c' := hst
  repeat' split at hs
  all_goals first | (cases hs; exact ⟨hz, fun j => rfl⟩) | cases hs
theorem x_scr24 (hz : 0 ≤ h.1) (hst : x_stp (24, a, t, u, pc) k als ast b h = some c') : 0 ≤ c'.2.2.2.2.1 ∧ ∀ j, c'.2.2.2.2.2.2 (-2) j = h.2.2 (-2) j := by
  have hs : ((match (generalizing := false) ast with | .inr r :: st => if x_ok h.1 r (t / 16) then some (k + 1, als, .inl (h.2.2 r (t % 16 : Nat)) :: st, b, h) else none | _ => none)) = some c' := hst
  repeat' split at hs
  all_goals first | (cases hs; exact ⟨hz, fun j => rfl⟩) | cases hs
theorem x_scr25 (hz : 0 ≤ h.1) (hst : x_stp (25, a, t, u, pc) k als ast b h = some c') : 0 ≤ c'.2.2.2.2.1 ∧ ∀ j, c'.2.2.2.2.2.2 (-2) j = h.2.2 (-2) j := by
  have hs : ((match (generalizing := false) ast with | .inr r :: st => if x_ok h.1 r (t / 16) then some (k + 1, als, .inr (h.2.1 r (t % 16 : Nat)) :: st, b, h) else none | _ => none)) = some c' := hst
  repeat' split at hs
  all_goals first | (cases hs; exact ⟨hz, fun j => rfl⟩) | cases hs
theorem x_scr26 (hz : 0 ≤ h.1) (hst : x_stp (26, a, t, u, pc) k als ast b h = some c') : 0 ≤ c'.2.2.2.2.1 ∧ ∀ j, c'.2.2.2.2.2.2 (-2) j = h.2.2 (-2) j := by
  have hs : ((match (generalizing := false) ast with | .inl v :: .inr r :: st => if x_ok h.1 r (t / 16) then some (k + 1, als, st, b, (h.1, h.2.1, x_up h.2.2 r (t % 16 : Nat) v)) else none | _ => none)) = some c' := hst
  repeat' split at hs
  all_goals first | (cases hs; rename_i hg; exact ⟨hz, fun j => x_up_ne (by simp only [x_ok, Bool.and_eq_true, decide_eq_true_eq] at hg; omega)⟩) | cases hs
theorem x_scr27 (hz : 0 ≤ h.1) (hst : x_stp (27, a, t, u, pc) k als ast b h = some c') : 0 ≤ c'.2.2.2.2.1 ∧ ∀ j, c'.2.2.2.2.2.2 (-2) j = h.2.2 (-2) j := by
  have hs : ((match (generalizing := false) ast with | .inr v :: .inr r :: st => if x_ok h.1 r (t / 16) ∧ -1 ≤ v then some (k + 1, als, st, b, (h.1, x_up h.2.1 r (t % 16 : Nat) v, h.2.2)) else none | _ => none)) = some c' := hst
  repeat' split at hs
  all_goals first | (cases hs; exact ⟨hz, fun j => rfl⟩) | cases hs
theorem x_scr32 (hz : 0 ≤ h.1) (hst : x_stp (32, a, t, u, pc) k als ast b h = some c') : 0 ≤ c'.2.2.2.2.1 ∧ ∀ j, c'.2.2.2.2.2.2 (-2) j = h.2.2 (-2) j := by
  have hs : ((match (generalizing := false) ast with | .inl v :: .inr r :: st => if x_ok h.1 r (t / 16) ∧ (v = 0 ∨ v = 1) then some (k + 1, als, st, b, (h.1, h.2.1, x_up h.2.2 r (t % 16 : Nat) v)) else none | _ => none)) = some c' := hst
  repeat' split at hs
  all_goals first | (cases hs; rename_i hg; exact ⟨hz, fun j => x_up_ne (by simp only [x_ok, Bool.and_eq_true, decide_eq_true_eq] at hg; omega)⟩) | cases hs
theorem x_scr28 (hz : 0 ≤ h.1) (hst : x_stp (28, a, t, u, pc) k als ast b h = some c') : 0 ≤ c'.2.2.2.2.1 ∧ ∀ j, c'.2.2.2.2.2.2 (-2) j = h.2.2 (-2) j := by
  have hs : ((match (generalizing := false) ast with | .inl j :: .inr r :: st => if x_ok h.1 r 8 ∧ 0 ≤ j ∧ j < x_ln r then some (k + 1, als, .inl (h.2.2 r j) :: st, b, h) else none | _ => none)) = some c' := hst
  repeat' split at hs
  all_goals first | (cases hs; exact ⟨hz, fun j => rfl⟩) | cases hs
theorem x_scr29 (hz : 0 ≤ h.1) (hst : x_stp (29, a, t, u, pc) k als ast b h = some c') : 0 ≤ c'.2.2.2.2.1 ∧ ∀ j, c'.2.2.2.2.2.2 (-2) j = h.2.2 (-2) j := by
  have hs : ((match (generalizing := false) ast with | .inl v :: .inl j :: .inr r :: st => if x_ok h.1 r 8 ∧ 0 ≤ j ∧ j < x_ln r then some (k + 1, als, st, b, (h.1, h.2.1, x_up h.2.2 r j v)) else none | _ => none)) = some c' := hst
  repeat' split at hs
  all_goals first | (cases hs; rename_i hg; exact ⟨hz, fun j => x_up_ne (by simp only [x_ok, Bool.and_eq_true, decide_eq_true_eq] at hg; omega)⟩) | cases hs
theorem x_scr30 (hz : 0 ≤ h.1) (hst : x_stp (30, a, t, u, pc) k als ast b h = some c') : 0 ≤ c'.2.2.2.2.1 ∧ ∀ j, c'.2.2.2.2.2.2 (-2) j = h.2.2 (-2) j := by
  have hs : ((match (generalizing := false) ast with | .inl j :: .inr r :: st => if 0 ≤ r ∧ r < h.1 ∧ 10 ≤ x_kd r ∧ x_kd r < 14 ∧ 0 ≤ j ∧ j < x_ln r then some (k + 1, als, .inr (h.2.1 r j) :: st, b, h) else none | _ => none)) = some c' := hst
  repeat' split at hs
  all_goals first | (cases hs; exact ⟨hz, fun j => rfl⟩) | cases hs
theorem x_scr31 (hz : 0 ≤ h.1) (hst : x_stp (31, a, t, u, pc) k als ast b h = some c') : 0 ≤ c'.2.2.2.2.1 ∧ ∀ j, c'.2.2.2.2.2.2 (-2) j = h.2.2 (-2) j := by
  have hs : ((match (generalizing := false) ast with | .inr v :: .inl j :: .inr r :: st => if 0 ≤ r ∧ r < h.1 ∧ 10 ≤ x_kd r ∧ x_kd r < 14 ∧ 0 ≤ j ∧ j < x_ln r ∧ x_ok h.1 v ([0, 2, 4, 5].getD (x_kd r - 10) 99) then some (k + 1, als, st, b, (h.1, x_up h.2.1 r j v, h.2.2)) else none | _ => none)) = some c' := hst
  repeat' split at hs
  all_goals first | (cases hs; exact ⟨hz, fun j => rfl⟩) | cases hs
theorem x_scr33 (hz : 0 ≤ h.1) (hst : x_stp (33, a, t, u, pc) k als ast b h = some c') : 0 ≤ c'.2.2.2.2.1 ∧ ∀ j, c'.2.2.2.2.2.2 (-2) j = h.2.2 (-2) j := by
  have hs : ((match (generalizing := false) ast with | .inl j :: .inr r :: st => if x_ok h.1 r 9 ∧ 0 ≤ j ∧ j < x_ln r then some (k + 1, als, .inl (h.2.2 r j) :: st, b, h) else none | _ => none)) = some c' := hst
  repeat' split at hs
  all_goals first | (cases hs; exact ⟨hz, fun j => rfl⟩) | cases hs
theorem x_scr34 (hz : 0 ≤ h.1) (hst : x_stp (34, a, t, u, pc) k als ast b h = some c') : 0 ≤ c'.2.2.2.2.1 ∧ ∀ j, c'.2.2.2.2.2.2 (-2) j = h.2.2 (-2) j := by
  have hs : ((match (generalizing := false) ast with | .inl v :: .inl j :: .inr r :: st => if x_ok h.1 r 9 ∧ 0 ≤ j ∧ j < x_ln r ∧ (v = 0 ∨ v = 1) then some (k + 1, als, st, b, (h.1, h.2.1, x_up h.2.2 r j v)) else none | _ => none)) = some c' := hst
  repeat' split at hs
  all_goals first | (cases hs; rename_i hg; exact ⟨hz, fun j => x_up_ne (by simp only [x_ok, Bool.and_eq_true, decide_eq_true_eq] at hg; omega)⟩) | cases hs
theorem x_scr35 (hz : 0 ≤ h.1) (hst : x_stp (35, a, t, u, pc) k als ast b h = some c') : 0 ≤ c'.2.2.2.2.1 ∧ ∀ j, c'.2.2.2.2.2.2 (-2) j = h.2.2 (-2) j := by
  have hs : ((if x_kd h.1 = t ∧ t < 8 ∧ 1 ≤ b.1 ∧ xnsl t ≤ b.2 then some (k + 1, als, .inr h.1 :: ast, (b.1 - 1, b.2 - xnsl t), (h.1 + 1, x_clr h.2.1 h.1 (-1), x_clr h.2.2 h.1 0)) else none)) = some c' := hst
  repeat' split at hs
  all_goals first | (cases hs; exact ⟨by show 0 ≤ h.1 + 1; omega, fun j => if_neg (by omega)⟩) | cases hs
theorem x_scr36 (hz : 0 ≤ h.1) (hst : x_stp (36, a, t, u, pc) k als ast b h = some c') : 0 ≤ c'.2.2.2.2.1 ∧ ∀ j, c'.2.2.2.2.2.2 (-2) j = h.2.2 (-2) j := by
  have hs : ((match (generalizing := false) ast with | .inl n :: st => if x_kd h.1 = 8 ∧ x_ln h.1 = n ∧ 0 ≤ n ∧ n ≤ 10000 ∧ 1 ≤ b.1 ∧ n.toNat ≤ b.2 then some (k + 1, als, .inr h.1 :: st, (b.1 - 1, b.2 - n.toNat), (h.1 + 1, x_clr h.2.1 h.1 (-1), x_clr h.2.2 h.1 0)) else none | _ => none)) = some c' := hst
  repeat' split at hs
  all_goals first | (cases hs; exact ⟨by show 0 ≤ h.1 + 1; omega, fun j => if_neg (by omega)⟩) | cases hs
theorem x_scr37 (hz : 0 ≤ h.1) (hst : x_stp (37, a, t, u, pc) k als ast b h = some c') : 0 ≤ c'.2.2.2.2.1 ∧ ∀ j, c'.2.2.2.2.2.2 (-2) j = h.2.2 (-2) j := by
  have hs : ((match (generalizing := false) ast with | .inl n :: st => if x_kd h.1 = 9 ∧ x_ln h.1 = n ∧ 0 ≤ n ∧ n ≤ 10000 ∧ 1 ≤ b.1 ∧ n.toNat ≤ b.2 then some (k + 1, als, .inr h.1 :: st, (b.1 - 1, b.2 - n.toNat), (h.1 + 1, x_clr h.2.1 h.1 (-1), x_clr h.2.2 h.1 0)) else none | _ => none)) = some c' := hst
  repeat' split at hs
  all_goals first | (cases hs; exact ⟨by show 0 ≤ h.1 + 1; omega, fun j => if_neg (by omega)⟩) | cases hs
theorem x_scr38 (hz : 0 ≤ h.1) (hst : x_stp (38, a, t, u, pc) k als ast b h = some c') : 0 ≤ c'.2.2.2.2.1 ∧ ∀ j, c'.2.2.2.2.2.2 (-2) j = h.2.2 (-2) j := by
  have hs : ((match (generalizing := false) ast with | .inl n :: st => if x_kd h.1 = t ∧ 10 ≤ t ∧ t < 14 ∧ x_ln h.1 = n ∧ 0 ≤ n ∧ n ≤ 10000 ∧ 1 ≤ b.1 ∧ n.toNat ≤ b.2 then some (k + 1, als, .inr h.1 :: st, (b.1 - 1, b.2 - n.toNat), (h.1 + 1, x_clr h.2.1 h.1 (-1), x_clr h.2.2 h.1 0)) else none | _ => none)) = some c' := hst
  repeat' split at hs
  all_goals first | (cases hs; exact ⟨by show 0 ≤ h.1 + 1; omega, fun j => if_neg (by omega)⟩) | cases hs
theorem x_scr43 (hz : 0 ≤ h.1) (hst : x_stp (43, a, t, u, pc) k als ast b h = some c') : 0 ≤ c'.2.2.2.2.1 ∧ ∀ j, c'.2.2.2.2.2.2 (-2) j = h.2.2 (-2) j := by
  have hs : ((match (generalizing := false) ast with | .inr r :: st => if 0 ≤ r ∧ r < h.1 ∧ st.length ≤ 8 then some (k + 1, als, st, b, h) else none | _ => none)) = some c' := hst
  repeat' split at hs
  all_goals first | (cases hs; exact ⟨hz, fun j => rfl⟩) | cases hs
theorem x_scr44 (hz : 0 ≤ h.1) (hst : x_stp (44, a, t, u, pc) k als ast b h = some c') : 0 ≤ c'.2.2.2.2.1 ∧ ∀ j, c'.2.2.2.2.2.2 (-2) j = h.2.2 (-2) j := by
  have hs : ((match (generalizing := false) ast with | .inl j :: .inl i :: st => if st.length ≤ 8 then some (k + 1, als, .inl (max i j) :: st, b, h) else none | _ => none)) = some c' := hst
  repeat' split at hs
  all_goals first | (cases hs; exact ⟨hz, fun j => rfl⟩) | cases hs
theorem x_scr45 (hz : 0 ≤ h.1) (hst : x_stp (45, a, t, u, pc) k als ast b h = some c') : 0 ≤ c'.2.2.2.2.1 ∧ ∀ j, c'.2.2.2.2.2.2 (-2) j = h.2.2 (-2) j := by
  have hs : ((match (generalizing := false) ast with | .inl j :: .inl i :: st => if st.length ≤ 8 then some (k + 1, als, .inl (min i j) :: st, b, h) else none | _ => none)) = some c' := hst
  repeat' split at hs
  all_goals first | (cases hs; exact ⟨hz, fun j => rfl⟩) | cases hs
theorem x_scr46 (hz : 0 ≤ h.1) (hst : x_stp (46, a, t, u, pc) k als ast b h = some c') : 0 ≤ c'.2.2.2.2.1 ∧ ∀ j, c'.2.2.2.2.2.2 (-2) j = h.2.2 (-2) j := by
  have hs : ((match (generalizing := false) ast with | .inl n :: .inl dp :: .inr a :: .inl sp :: .inr a0 :: st => if x_ok h.1 a 8 ∧ x_ok h.1 a0 8 ∧ 0 ≤ sp ∧ 0 ≤ dp ∧ 0 ≤ n ∧ sp + n ≤ x_ln a0 ∧ dp + n ≤ x_ln a ∧ st.length ≤ 8 then some (k + 1, als, st, b, (h.1, h.2.1, x_cp h.2.2 a0 sp a dp n)) else none | _ => none)) = some c' := hst
  repeat' split at hs
  all_goals first | (cases hs; rename_i hg; simp only [x_ok, Bool.and_eq_true, decide_eq_true_eq] at hg; exact ⟨hz, fun j => if_neg (by omega)⟩) | cases hs
theorem x_scr47 (hz : 0 ≤ h.1) (hst : x_stp (47, a, t, u, pc) k als ast b h = some c') : 0 ≤ c'.2.2.2.2.1 ∧ ∀ j, c'.2.2.2.2.2.2 (-2) j = h.2.2 (-2) j := by
  have hs : ((match (generalizing := false) ast with | .inl i :: st => some (x_swt u i, als, st, b, h) | _ => none)) = some c' := hst
  repeat' split at hs
  all_goals first | (cases hs; exact ⟨hz, fun j => rfl⟩) | cases hs
theorem x_scr54 (hz : 0 ≤ h.1) (hst : x_stp (54, a, t, u, pc) k als ast b h = some c') : 0 ≤ c'.2.2.2.2.1 ∧ ∀ j, c'.2.2.2.2.2.2 (-2) j = h.2.2 (-2) j := by
  have hs : ((match (generalizing := false) ast with | .inl j :: .inr r :: st => if r = -2 ∧ 0 ≤ j ∧ j < h.2.2 (-2) (-1) then some (k + 1, als, .inl (h.2.2 (-2) j) :: st, b, h) else none | _ => none)) = some c' := hst
  repeat' split at hs
  all_goals first | (cases hs; exact ⟨hz, fun j => rfl⟩) | cases hs
theorem x_scr55 (hz : 0 ≤ h.1) (hst : x_stp (55, a, t, u, pc) k als ast b h = some c') : 0 ≤ c'.2.2.2.2.1 ∧ ∀ j, c'.2.2.2.2.2.2 (-2) j = h.2.2 (-2) j := by
  have hs : ((match (generalizing := false) ast with | .inr r :: st => if r = -2 then some (k + 1, als, .inl (h.2.2 (-2) (-1)) :: st, b, h) else none | _ => none)) = some c' := hst
  repeat' split at hs
  all_goals first | (cases hs; exact ⟨hz, fun j => rfl⟩) | cases hs
theorem x_scr {y : Nat} {i : xI} (hz : 0 ≤ h.1) (hst : x_stp i k als ast b h = some c') : 0 ≤ c'.2.2.2.2.1 ∧ ∀ j, c'.2.2.2.2.2.2 (-2) j = h.2.2 (-2) j := by
  obtain ⟨op, a, t, u, pc⟩ := i
  by_cases o0 : op = 0
  · subst o0; exact x_scr0 hz hst
  by_cases o1 : op = 1
  · subst o1; exact x_scr1 hz hst
  by_cases o2 : op = 2
  · subst o2; exact x_scr2 hz hst
  by_cases o3 : op = 3
  · subst o3; exact x_scr3 hz hst
  by_cases o4 : op = 4
  · subst o4; exact x_scr4 hz hst
  by_cases o5 : op = 5
  · subst o5; exact x_scr5 hz hst
  by_cases o6 : op = 6
  · subst o6; exact x_scr6 hz hst
  by_cases o7 : op = 7
  · subst o7; exact x_scr7 hz hst
  by_cases o8 : op = 8
  · subst o8; exact x_scr8 hz hst
  by_cases o9 : op = 9
  · subst o9; exact x_scr9 hz hst
  by_cases o10 : op = 10
  · subst o10; exact x_scr10 hz hst
  by_cases o11 : op = 11
  · subst o11; exact x_scr11 hz hst
  by_cases o12 : op = 12
  · subst o12; exact x_scr12 hz hst
  by_cases o13 : op = 13
  · subst o13; exact x_scr13 hz hst
  by_cases o14 : op = 14
  · subst o14; exact x_scr14 hz hst
  by_cases o15 : op = 15
  · subst o15; exact x_scr15 hz hst
  by_cases o16 : op = 16
  · subst o16; exact x_scr16 hz hst
  by_cases o17 : op = 17
  · subst o17; exact x_scr17 hz hst
  by_cases o18 : op = 18
  · subst o18; exact x_scr18 hz hst
  by_cases o19 : op = 19
  · subst o19; exact x_scr19 hz hst
  by_cases o20 : op = 20
  · subst o20; exact x_scr20 hz hst
  by_cases o21 : op = 21
  · subst o21; exact x_scr21 hz hst
  by_cases o22 : op = 22
  · subst o22; exact x_scr22 hz hst
  by_cases o23 : op = 23
  · subst o23; exact x_scr23 hz hst
  by_cases o24 : op = 24
  · subst o24; exact x_scr24 hz hst
  by_cases o25 : op = 25
  · subst o25; exact x_scr25 hz hst
  by_cases o26 : op = 26
  · subst o26; exact x_scr26 hz hst
  by_cases o27 : op = 27
  · subst o27; exact x_scr27 hz hst
  by_cases o32 : op = 32
  · subst o32; exact x_scr32 hz hst
  by_cases o28 : op = 28
  · subst o28; exact x_scr28 hz hst
  by_cases o29 : op = 29
  · subst o29; exact x_scr29 hz hst
  by_cases o30 : op = 30
  · subst o30; exact x_scr30 hz hst
  by_cases o31 : op = 31
  · subst o31; exact x_scr31 hz hst
  by_cases o33 : op = 33
  · subst o33; exact x_scr33 hz hst
  by_cases o34 : op = 34
  · subst o34; exact x_scr34 hz hst
  by_cases o35 : op = 35
  · subst o35; exact x_scr35 hz hst
  by_cases o36 : op = 36
  · subst o36; exact x_scr36 hz hst
  by_cases o37 : op = 37
  · subst o37; exact x_scr37 hz hst
  by_cases o38 : op = 38
  · subst o38; exact x_scr38 hz hst
  by_cases o43 : op = 43
  · subst o43; exact x_scr43 hz hst
  by_cases o44 : op = 44
  · subst o44; exact x_scr44 hz hst
  by_cases o45 : op = 45
  · subst o45; exact x_scr45 hz hst
  by_cases o46 : op = 46
  · subst o46; exact x_scr46 hz hst
  by_cases o47 : op = 47
  · subst o47; exact x_scr47 hz hst
  by_cases o54 : op = 54
  · subst o54; exact x_scr54 hz hst
  by_cases o55 : op = 55
  · subst o55; exact x_scr55 hz hst
  have hst : x_stp (op, a, t, u, pc) k als ast b h = some c' := hst
  simp only [x_stp, if_neg o0, if_neg o1, if_neg o2, if_neg o3, if_neg o4, if_neg o5, if_neg o6, if_neg o7, if_neg o8, if_neg o9, if_neg o10, if_neg o11, if_neg o12, if_neg o13, if_neg o14, if_neg o15, if_neg o16, if_neg o17, if_neg o18, if_neg o19, if_neg o20, if_neg o21, if_neg o22, if_neg o23, if_neg o24, if_neg o25, if_neg o26, if_neg o27, if_neg o32, if_neg o28, if_neg o29, if_neg o30, if_neg o31, if_neg o33, if_neg o34, if_neg o35, if_neg o36, if_neg o37, if_neg o38, if_neg o43, if_neg o44, if_neg o45, if_neg o46, if_neg o47, if_neg o54, if_neg o55] at hst
  cases hst
end
