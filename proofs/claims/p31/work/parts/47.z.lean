/-! WHAT CONSTRUCTORS LEAVE: zero, but for numbers -/
def y_zk (a k : Int) : Prop := k = 0 ∧ (x_kd a = 2 ∨ x_kd a = 5 ∨ x_kd a = 0)
def y_Z (o : Int) (M0 : Int → Int → Int) (h : xH) : Prop := o ≤ h.1 ∧ (∀ a k, o ≤ a → a < h.1 → h.2.2 a k = 0 ∨ y_zk a k) ∧ ∀ a k, h.1 ≤ a → h.2.2 a k = M0 a k
def y_cs : List Nat := [0, 7, 14, 27, 38, 65, 77]
def y_ci (i : xI) : Bool := decide (i.1 ≠ 29 ∧ i.1 ≠ 32 ∧ i.1 ≠ 34 ∧ i.1 ≠ 46 ∧ i.1 ≠ 56) && (decide (i.1 ≠ 26) || (decide (i.2.2.1 % 16 = 0) && (decide (i.2.2.1 / 16 = 2) || decide (i.2.2.1 / 16 = 5) || decide (i.2.2.1 / 16 = 0)))) && (decide (¬ (40 ≤ i.1 ∧ i.1 ≤ 42)) || y_cs.contains i.2.2.1)
theorem y_getD {l : List xI} (h : l.all y_ci = true) (k : Nat) : y_ci (l.getD k x_63) = true := by
  rw [List.getD_eq_getElem?_getD]
  cases hk : l[k]? with
  | none => decide
  | some v => exact List.all_eq_true.mp h v (List.mem_of_getElem? hk)
theorem y_cx0 : xc0.all y_ci = true := by decide +kernel
theorem y_cx7 : xc7.all y_ci = true := by decide +kernel
theorem y_cx14 : xc14.all y_ci = true := by decide +kernel
theorem y_cx27 : xc27.all y_ci = true := by decide +kernel
theorem y_cx38 : xc38.all y_ci = true := by decide +kernel
theorem y_cx65 : xc65.all y_ci = true := by decide +kernel
theorem y_cx77 : xc77.all y_ci = true := by decide +kernel
theorem y_cin {y : Nat} (h : y ∈ y_cs) (k : Nat) : y_ci (x_in y k) = true := by
  simp only [y_cs, List.mem_cons, List.not_mem_nil, or_false] at h
  rcases h with rfl | rfl | rfl | rfl | rfl | rfl | rfl
  · rw [xi0]; exact y_getD y_cx0 k
  · rw [xi7]; exact y_getD y_cx7 k
  · rw [xi14]; exact y_getD y_cx14 k
  · rw [xi27]; exact y_getD y_cx27 k
  · rw [xi38]; exact y_getD y_cx38 k
  · rw [xi65]; exact y_getD y_cx65 k
  · rw [xi77]; exact y_getD y_cx77 k
section
variable {a : Int} {t u pc k : Nat} {als ast : List xV} {b : xB} {h : xH} {c' : xC}
theorem y_zs0 {o : Int} {M0 : Int → Int → Int} (hz : y_Z o M0 h) (hst : x_stp (0, a, t, u, pc) k als ast b h = some c') : y_Z o M0 c'.2.2.2.2 := by
  have hs : (some (k + 1, als, .inl a :: ast, b, h)) = some c' := hst
  cases hs
  exact hz
theorem y_zs1 {o : Int} {M0 : Int → Int → Int} (hz : y_Z o M0 h) (hst : x_stp (1, a, t, u, pc) k als ast b h = some c') : y_Z o M0 c'.2.2.2.2 := by
  have hs : ((match (generalizing := false) als[t]? with | some (.inl v) => some (k + 1, als, .inl v :: ast, b, h) | _ => none)) = some c' := hst
  repeat' split at hs
  all_goals first | (cases hs; exact hz) | cases hs
theorem y_zs2 {o : Int} {M0 : Int → Int → Int} (hz : y_Z o M0 h) (hst : x_stp (2, a, t, u, pc) k als ast b h = some c') : y_Z o M0 c'.2.2.2.2 := by
  have hs : ((match (generalizing := false) als[t]? with | some (.inr v) => if -2 ≤ v then some (k + 1, als, .inr v :: ast, b, h) else none | _ => none)) = some c' := hst
  repeat' split at hs
  all_goals first | (cases hs; exact hz) | cases hs
theorem y_zs3 {o : Int} {M0 : Int → Int → Int} (hz : y_Z o M0 h) (hst : x_stp (3, a, t, u, pc) k als ast b h = some c') : y_Z o M0 c'.2.2.2.2 := by
  have hs : ((match (generalizing := false) ast with | .inl v :: st => if t < als.length then some (k + 1, als.set t (.inl v), st, b, h) else none | _ => none)) = some c' := hst
  repeat' split at hs
  all_goals first | (cases hs; exact hz) | cases hs
theorem y_zs4 {o : Int} {M0 : Int → Int → Int} (hz : y_Z o M0 h) (hst : x_stp (4, a, t, u, pc) k als ast b h = some c') : y_Z o M0 c'.2.2.2.2 := by
  have hs : ((match (generalizing := false) ast with | .inr v :: st => if t < als.length ∧ -2 ≤ v then some (k + 1, als.set t (.inr v), st, b, h) else none | _ => none)) = some c' := hst
  repeat' split at hs
  all_goals first | (cases hs; exact hz) | cases hs
theorem y_zs5 {o : Int} {M0 : Int → Int → Int} (hz : y_Z o M0 h) (hst : x_stp (5, a, t, u, pc) k als ast b h = some c') : y_Z o M0 c'.2.2.2.2 := by
  have hs : ((match (generalizing := false) als[t]? with | some (.inl v) => some (k + 1, als.set t (.inl (x_w (v + a))), ast, b, h) | _ => none)) = some c' := hst
  repeat' split at hs
  all_goals first | (cases hs; exact hz) | cases hs
theorem y_zs6 {o : Int} {M0 : Int → Int → Int} (hz : y_Z o M0 h) (hst : x_stp (6, a, t, u, pc) k als ast b h = some c') : y_Z o M0 c'.2.2.2.2 := by
  have hs : ((match (generalizing := false) ast with | .inl j :: .inl i :: st => some (k + 1, als, .inl (x_w (i + j)) :: st, b, h) | _ => none)) = some c' := hst
  repeat' split at hs
  all_goals first | (cases hs; exact hz) | cases hs
theorem y_zs7 {o : Int} {M0 : Int → Int → Int} (hz : y_Z o M0 h) (hst : x_stp (7, a, t, u, pc) k als ast b h = some c') : y_Z o M0 c'.2.2.2.2 := by
  have hs : ((match (generalizing := false) ast with | .inl j :: .inl i :: st => some (k + 1, als, .inl (x_w (i - j)) :: st, b, h) | _ => none)) = some c' := hst
  repeat' split at hs
  all_goals first | (cases hs; exact hz) | cases hs
theorem y_zs8 {o : Int} {M0 : Int → Int → Int} (hz : y_Z o M0 h) (hst : x_stp (8, a, t, u, pc) k als ast b h = some c') : y_Z o M0 c'.2.2.2.2 := by
  have hs : ((match (generalizing := false) ast with | .inl j :: .inl i :: st => some (k + 1, als, .inl (x_w (i * j)) :: st, b, h) | _ => none)) = some c' := hst
  repeat' split at hs
  all_goals first | (cases hs; exact hz) | cases hs
theorem y_zs9 {o : Int} {M0 : Int → Int → Int} (hz : y_Z o M0 h) (hst : x_stp (9, a, t, u, pc) k als ast b h = some c') : y_Z o M0 c'.2.2.2.2 := by
  have hs : ((match (generalizing := false) ast with | .inl j :: .inl i :: st => if 0 ≤ i ∧ 0 < j then some (k + 1, als, .inl (i % j) :: st, b, h) else none | _ => none)) = some c' := hst
  repeat' split at hs
  all_goals first | (cases hs; exact hz) | cases hs
theorem y_zs10 {o : Int} {M0 : Int → Int → Int} (hz : y_Z o M0 h) (hst : x_stp (10, a, t, u, pc) k als ast b h = some c') : y_Z o M0 c'.2.2.2.2 := by
  have hs : ((match (generalizing := false) ast with | .inl i :: st => some (k + 1, als, .inl (x_w (-i)) :: st, b, h) | _ => none)) = some c' := hst
  repeat' split at hs
  all_goals first | (cases hs; exact hz) | cases hs
theorem y_zs11 {o : Int} {M0 : Int → Int → Int} (hz : y_Z o M0 h) (hst : x_stp (11, a, t, u, pc) k als ast b h = some c') : y_Z o M0 c'.2.2.2.2 := by
  have hs : ((match (generalizing := false) ast with | .inl j :: .inl i :: st => some (k + 1, als, .inl (Int32.ofInt i &&& Int32.ofInt j).toInt :: st, b, h) | _ => none)) = some c' := hst
  repeat' split at hs
  all_goals first | (cases hs; exact hz) | cases hs
theorem y_zs12 {o : Int} {M0 : Int → Int → Int} (hz : y_Z o M0 h) (hst : x_stp (12, a, t, u, pc) k als ast b h = some c') : y_Z o M0 c'.2.2.2.2 := by
  have hs : ((match (generalizing := false) ast with | .inl j :: .inl i :: st => some (k + 1, als, .inl (Int32.ofInt i ||| Int32.ofInt j).toInt :: st, b, h) | _ => none)) = some c' := hst
  repeat' split at hs
  all_goals first | (cases hs; exact hz) | cases hs
theorem y_zs13 {o : Int} {M0 : Int → Int → Int} (hz : y_Z o M0 h) (hst : x_stp (13, a, t, u, pc) k als ast b h = some c') : y_Z o M0 c'.2.2.2.2 := by
  have hs : ((match (generalizing := false) ast with | .inl j :: .inl i :: st => some (k + 1, als, .inl (Int32.ofInt i <<< (Int32.ofInt j &&& 31)).toInt :: st, b, h) | _ => none)) = some c' := hst
  repeat' split at hs
  all_goals first | (cases hs; exact hz) | cases hs
theorem y_zs14 {o : Int} {M0 : Int → Int → Int} (hz : y_Z o M0 h) (hst : x_stp (14, a, t, u, pc) k als ast b h = some c') : y_Z o M0 c'.2.2.2.2 := by
  have hs : ((match (generalizing := false) ast with | .inl j :: .inl i :: st => some (k + 1, als, .inl (Int32.ofInt i >>> (Int32.ofInt j &&& 31)).toInt :: st, b, h) | _ => none)) = some c' := hst
  repeat' split at hs
  all_goals first | (cases hs; exact hz) | cases hs
theorem y_zs15 {o : Int} {M0 : Int → Int → Int} (hz : y_Z o M0 h) (hst : x_stp (15, a, t, u, pc) k als ast b h = some c') : y_Z o M0 c'.2.2.2.2 := by
  have hs : ((match (generalizing := false) ast with | .inl i :: st => some (if x_cond u i 0 then t else k + 1, als, st, b, h) | _ => none)) = some c' := hst
  repeat' split at hs
  all_goals first | (cases hs; exact hz) | cases hs
theorem y_zs16 {o : Int} {M0 : Int → Int → Int} (hz : y_Z o M0 h) (hst : x_stp (16, a, t, u, pc) k als ast b h = some c') : y_Z o M0 c'.2.2.2.2 := by
  have hs : ((match (generalizing := false) ast with | .inl j :: .inl i :: st => some (if x_cond u i j then t else k + 1, als, st, b, h) | _ => none)) = some c' := hst
  repeat' split at hs
  all_goals first | (cases hs; exact hz) | cases hs
theorem y_zs17 {o : Int} {M0 : Int → Int → Int} (hz : y_Z o M0 h) (hst : x_stp (17, a, t, u, pc) k als ast b h = some c') : y_Z o M0 c'.2.2.2.2 := by
  have hs : (some (t, als, ast, b, h)) = some c' := hst
  cases hs
  exact hz
theorem y_zs18 {o : Int} {M0 : Int → Int → Int} (hz : y_Z o M0 h) (hst : x_stp (18, a, t, u, pc) k als ast b h = some c') : y_Z o M0 c'.2.2.2.2 := by
  have hs : ((match (generalizing := false) ast with | .inr r :: st => if -1 ≤ r then some (if r < 0 then t else k + 1, als, st, b, h) else none | _ => none)) = some c' := hst
  repeat' split at hs
  all_goals first | (cases hs; exact hz) | cases hs
theorem y_zs19 {o : Int} {M0 : Int → Int → Int} (hz : y_Z o M0 h) (hst : x_stp (19, a, t, u, pc) k als ast b h = some c') : y_Z o M0 c'.2.2.2.2 := by
  have hs : ((match (generalizing := false) ast with | .inr r :: st => if -1 ≤ r then some (if r < 0 then k + 1 else t, als, st, b, h) else none | _ => none)) = some c' := hst
  repeat' split at hs
  all_goals first | (cases hs; exact hz) | cases hs
theorem y_zs20 {o : Int} {M0 : Int → Int → Int} (hz : y_Z o M0 h) (hst : x_stp (20, a, t, u, pc) k als ast b h = some c') : y_Z o M0 c'.2.2.2.2 := by
  have hs : (some (k + 1, als, .inr (-1) :: ast, b, h)) = some c' := hst
  cases hs
  exact hz
theorem y_zs21 {o : Int} {M0 : Int → Int → Int} (hz : y_Z o M0 h) (hst : x_stp (21, a, t, u, pc) k als ast b h = some c') : y_Z o M0 c'.2.2.2.2 := by
  have hs : ((match (generalizing := false) ast with | v :: st => some (k + 1, als, v :: v :: st, b, h) | _ => none)) = some c' := hst
  repeat' split at hs
  all_goals first | (cases hs; exact hz) | cases hs
theorem y_zs22 {o : Int} {M0 : Int → Int → Int} (hz : y_Z o M0 h) (hst : x_stp (22, a, t, u, pc) k als ast b h = some c') : y_Z o M0 c'.2.2.2.2 := by
  have hs : ((match (generalizing := false) ast with | _ :: st => some (k + 1, als, st, b, h) | _ => none)) = some c' := hst
  repeat' split at hs
  all_goals first | (cases hs; exact hz) | cases hs
theorem y_zs23 {o : Int} {M0 : Int → Int → Int} (hz : y_Z o M0 h) (hst : x_stp (23, a, t, u, pc) k als ast b h = some c') : y_Z o M0 c'.2.2.2.2 := by
  have hs : ((match (generalizing := false) ast with | v :: w :: st => some (k + 1, als, v :: w :: v :: w :: st, b, h) | _ => none)) = some c' := hst
  repeat' split at hs
  all_goals first | (cases hs; exact hz) | cases hs
theorem y_zs24 {o : Int} {M0 : Int → Int → Int} (hz : y_Z o M0 h) (hst : x_stp (24, a, t, u, pc) k als ast b h = some c') : y_Z o M0 c'.2.2.2.2 := by
  have hs : ((match (generalizing := false) ast with | .inr r :: st => if x_ok h.1 r (t / 16) then some (k + 1, als, .inl (h.2.2 r (t % 16 : Nat)) :: st, b, h) else none | _ => none)) = some c' := hst
  repeat' split at hs
  all_goals first | (cases hs; exact hz) | cases hs
theorem y_zs25 {o : Int} {M0 : Int → Int → Int} (hz : y_Z o M0 h) (hst : x_stp (25, a, t, u, pc) k als ast b h = some c') : y_Z o M0 c'.2.2.2.2 := by
  have hs : ((match (generalizing := false) ast with | .inr r :: st => if x_ok h.1 r (t / 16) then some (k + 1, als, .inr (h.2.1 r (t % 16 : Nat)) :: st, b, h) else none | _ => none)) = some c' := hst
  repeat' split at hs
  all_goals first | (cases hs; exact hz) | cases hs
theorem y_zs26 {o : Int} {M0 : Int → Int → Int} (hz : y_Z o M0 h) (ht : t % 16 = 0 ∧ (t / 16 = 2 ∨ t / 16 = 5 ∨ t / 16 = 0)) (hst : x_stp (26, a, t, u, pc) k als ast b h = some c') : y_Z o M0 c'.2.2.2.2 := by
  have hs : ((match (generalizing := false) ast with | .inl v :: .inr r :: st => if x_ok h.1 r (t / 16) then some (k + 1, als, st, b, (h.1, h.2.1, x_up h.2.2 r (t % 16 : Nat) v)) else none | _ => none)) = some c' := hst
  repeat' split at hs
  all_goals first
    | (cases hs; rename_i hg
       simp only [x_ok, Bool.and_eq_true, decide_eq_true_eq] at hg
       refine ⟨hz.1, fun d j h1 h2 => ?_, fun d j h1 => ?_⟩
       · show x_up _ _ _ _ d j = 0 ∨ _
         unfold x_up
         split
         · rename_i q
           refine Or.inr ⟨by rw [q.2, ht.1]; rfl, ?_⟩
           rw [q.1, hg.2]; exact ht.2
         · exact hz.2.1 d j h1 h2
       · have h1 : h.1 ≤ d := h1
         exact (x_up_ne (by omega)).trans (hz.2.2 d j h1))
    | cases hs
theorem y_zs27 {o : Int} {M0 : Int → Int → Int} (hz : y_Z o M0 h) (hst : x_stp (27, a, t, u, pc) k als ast b h = some c') : y_Z o M0 c'.2.2.2.2 := by
  have hs : ((match (generalizing := false) ast with | .inr v :: .inr r :: st => if x_ok h.1 r (t / 16) ∧ -1 ≤ v then some (k + 1, als, st, b, (h.1, x_up h.2.1 r (t % 16 : Nat) v, h.2.2)) else none | _ => none)) = some c' := hst
  repeat' split at hs
  all_goals first | (cases hs; exact hz) | cases hs
theorem y_zs28 {o : Int} {M0 : Int → Int → Int} (hz : y_Z o M0 h) (hst : x_stp (28, a, t, u, pc) k als ast b h = some c') : y_Z o M0 c'.2.2.2.2 := by
  have hs : ((match (generalizing := false) ast with | .inl j :: .inr r :: st => if x_ok h.1 r 8 ∧ 0 ≤ j ∧ j < x_ln r then some (k + 1, als, .inl (h.2.2 r j) :: st, b, h) else none | _ => none)) = some c' := hst
  repeat' split at hs
  all_goals first | (cases hs; exact hz) | cases hs
theorem y_zs30 {o : Int} {M0 : Int → Int → Int} (hz : y_Z o M0 h) (hst : x_stp (30, a, t, u, pc) k als ast b h = some c') : y_Z o M0 c'.2.2.2.2 := by
  have hs : ((match (generalizing := false) ast with | .inl j :: .inr r :: st => if 0 ≤ r ∧ r < h.1 ∧ 10 ≤ x_kd r ∧ x_kd r < 14 ∧ 0 ≤ j ∧ j < x_ln r then some (k + 1, als, .inr (h.2.1 r j) :: st, b, h) else none | _ => none)) = some c' := hst
  repeat' split at hs
  all_goals first | (cases hs; exact hz) | cases hs
theorem y_zs31 {o : Int} {M0 : Int → Int → Int} (hz : y_Z o M0 h) (hst : x_stp (31, a, t, u, pc) k als ast b h = some c') : y_Z o M0 c'.2.2.2.2 := by
  have hs : ((match (generalizing := false) ast with | .inr v :: .inl j :: .inr r :: st => if 0 ≤ r ∧ r < h.1 ∧ 10 ≤ x_kd r ∧ x_kd r < 14 ∧ 0 ≤ j ∧ j < x_ln r ∧ x_ok h.1 v ([0, 2, 4, 5].getD (x_kd r - 10) 99) then some (k + 1, als, st, b, (h.1, x_up h.2.1 r j v, h.2.2)) else none | _ => none)) = some c' := hst
  repeat' split at hs
  all_goals first | (cases hs; exact hz) | cases hs
theorem y_zs33 {o : Int} {M0 : Int → Int → Int} (hz : y_Z o M0 h) (hst : x_stp (33, a, t, u, pc) k als ast b h = some c') : y_Z o M0 c'.2.2.2.2 := by
  have hs : ((match (generalizing := false) ast with | .inl j :: .inr r :: st => if x_ok h.1 r 9 ∧ 0 ≤ j ∧ j < x_ln r then some (k + 1, als, .inl (h.2.2 r j) :: st, b, h) else none | _ => none)) = some c' := hst
  repeat' split at hs
  all_goals first | (cases hs; exact hz) | cases hs
theorem y_zs35 {o : Int} {M0 : Int → Int → Int} (hz : y_Z o M0 h) (hst : x_stp (35, a, t, u, pc) k als ast b h = some c') : y_Z o M0 c'.2.2.2.2 := by
  have hs : ((if x_kd h.1 = t ∧ t < 8 ∧ 1 ≤ b.1 ∧ xnsl t ≤ b.2 then some (k + 1, als, .inr h.1 :: ast, (b.1 - 1, b.2 - xnsl t), (h.1 + 1, x_clr h.2.1 h.1 (-1), x_clr h.2.2 h.1 0)) else none)) = some c' := hst
  repeat' split at hs
  all_goals first
    | (cases hs
       refine ⟨Int.le_trans hz.1 (by show h.1 ≤ h.1 + 1; omega), fun d j h1 h2 => ?_, fun d j h1 => ?_⟩
       · have h2 : d < h.1 + 1 := h2
         show x_clr _ _ _ d j = 0 ∨ _
         unfold x_clr
         split
         · exact Or.inl rfl
         · exact hz.2.1 d j h1 (by omega)
       · have h1 : h.1 + 1 ≤ d := h1
         exact (x_clr_ne (by omega)).trans (hz.2.2 d j (by omega)))
    | cases hs
theorem y_zs36 {o : Int} {M0 : Int → Int → Int} (hz : y_Z o M0 h) (hst : x_stp (36, a, t, u, pc) k als ast b h = some c') : y_Z o M0 c'.2.2.2.2 := by
  have hs : ((match (generalizing := false) ast with | .inl n :: st => if x_kd h.1 = 8 ∧ x_ln h.1 = n ∧ 0 ≤ n ∧ n ≤ 10000 ∧ 1 ≤ b.1 ∧ n.toNat ≤ b.2 then some (k + 1, als, .inr h.1 :: st, (b.1 - 1, b.2 - n.toNat), (h.1 + 1, x_clr h.2.1 h.1 (-1), x_clr h.2.2 h.1 0)) else none | _ => none)) = some c' := hst
  repeat' split at hs
  all_goals first
    | (cases hs
       refine ⟨Int.le_trans hz.1 (by show h.1 ≤ h.1 + 1; omega), fun d j h1 h2 => ?_, fun d j h1 => ?_⟩
       · have h2 : d < h.1 + 1 := h2
         show x_clr _ _ _ d j = 0 ∨ _
         unfold x_clr
         split
         · exact Or.inl rfl
         · exact hz.2.1 d j h1 (by omega)
       · have h1 : h.1 + 1 ≤ d := h1
         exact (x_clr_ne (by omega)).trans (hz.2.2 d j (by omega)))
    | cases hs
theorem y_zs37 {o : Int} {M0 : Int → Int → Int} (hz : y_Z o M0 h) (hst : x_stp (37, a, t, u, pc) k als ast b h = some c') : y_Z o M0 c'.2.2.2.2 := by
  have hs : ((match (generalizing := false) ast with | .inl n :: st => if x_kd h.1 = 9 ∧ x_ln h.1 = n ∧ 0 ≤ n ∧ n ≤ 10000 ∧ 1 ≤ b.1 ∧ n.toNat ≤ b.2 then some (k + 1, als, .inr h.1 :: st, (b.1 - 1, b.2 - n.toNat), (h.1 + 1, x_clr h.2.1 h.1 (-1), x_clr h.2.2 h.1 0)) else none | _ => none)) = some c' := hst
  repeat' split at hs
  all_goals first
    | (cases hs
       refine ⟨Int.le_trans hz.1 (by show h.1 ≤ h.1 + 1; omega), fun d j h1 h2 => ?_, fun d j h1 => ?_⟩
       · have h2 : d < h.1 + 1 := h2
         show x_clr _ _ _ d j = 0 ∨ _
         unfold x_clr
         split
         · exact Or.inl rfl
         · exact hz.2.1 d j h1 (by omega)
       · have h1 : h.1 + 1 ≤ d := h1
         exact (x_clr_ne (by omega)).trans (hz.2.2 d j (by omega)))
    | cases hs
theorem y_zs38 {o : Int} {M0 : Int → Int → Int} (hz : y_Z o M0 h) (hst : x_stp (38, a, t, u, pc) k als ast b h = some c') : y_Z o M0 c'.2.2.2.2 := by
  have hs : ((match (generalizing := false) ast with | .inl n :: st => if x_kd h.1 = t ∧ 10 ≤ t ∧ t < 14 ∧ x_ln h.1 = n ∧ 0 ≤ n ∧ n ≤ 10000 ∧ 1 ≤ b.1 ∧ n.toNat ≤ b.2 then some (k + 1, als, .inr h.1 :: st, (b.1 - 1, b.2 - n.toNat), (h.1 + 1, x_clr h.2.1 h.1 (-1), x_clr h.2.2 h.1 0)) else none | _ => none)) = some c' := hst
  repeat' split at hs
  all_goals first
    | (cases hs
       refine ⟨Int.le_trans hz.1 (by show h.1 ≤ h.1 + 1; omega), fun d j h1 h2 => ?_, fun d j h1 => ?_⟩
       · have h2 : d < h.1 + 1 := h2
         show x_clr _ _ _ d j = 0 ∨ _
         unfold x_clr
         split
         · exact Or.inl rfl
         · exact hz.2.1 d j h1 (by omega)
       · have h1 : h.1 + 1 ≤ d := h1
         exact (x_clr_ne (by omega)).trans (hz.2.2 d j (by omega)))
    | cases hs
theorem y_zs43 {o : Int} {M0 : Int → Int → Int} (hz : y_Z o M0 h) (hst : x_stp (43, a, t, u, pc) k als ast b h = some c') : y_Z o M0 c'.2.2.2.2 := by
  have hs : ((match (generalizing := false) ast with | .inr r :: st => if 0 ≤ r ∧ r < h.1 ∧ st.length ≤ 8 then some (k + 1, als, st, b, h) else none | _ => none)) = some c' := hst
  repeat' split at hs
  all_goals first | (cases hs; exact hz) | cases hs
theorem y_zs44 {o : Int} {M0 : Int → Int → Int} (hz : y_Z o M0 h) (hst : x_stp (44, a, t, u, pc) k als ast b h = some c') : y_Z o M0 c'.2.2.2.2 := by
  have hs : ((match (generalizing := false) ast with | .inl j :: .inl i :: st => if st.length ≤ 8 then some (k + 1, als, .inl (max i j) :: st, b, h) else none | _ => none)) = some c' := hst
  repeat' split at hs
  all_goals first | (cases hs; exact hz) | cases hs
theorem y_zs45 {o : Int} {M0 : Int → Int → Int} (hz : y_Z o M0 h) (hst : x_stp (45, a, t, u, pc) k als ast b h = some c') : y_Z o M0 c'.2.2.2.2 := by
  have hs : ((match (generalizing := false) ast with | .inl j :: .inl i :: st => if st.length ≤ 8 then some (k + 1, als, .inl (min i j) :: st, b, h) else none | _ => none)) = some c' := hst
  repeat' split at hs
  all_goals first | (cases hs; exact hz) | cases hs
theorem y_zs47 {o : Int} {M0 : Int → Int → Int} (hz : y_Z o M0 h) (hst : x_stp (47, a, t, u, pc) k als ast b h = some c') : y_Z o M0 c'.2.2.2.2 := by
  have hs : ((match (generalizing := false) ast with | .inl i :: st => some (x_swt u i, als, st, b, h) | _ => none)) = some c' := hst
  repeat' split at hs
  all_goals first | (cases hs; exact hz) | cases hs
theorem y_zs54 {o : Int} {M0 : Int → Int → Int} (hz : y_Z o M0 h) (hst : x_stp (54, a, t, u, pc) k als ast b h = some c') : y_Z o M0 c'.2.2.2.2 := by
  have hs : ((match (generalizing := false) ast with | .inl j :: .inr r :: st => if r = -2 ∧ 0 ≤ j ∧ j < h.2.2 (-2) (-1) then some (k + 1, als, .inl (h.2.2 (-2) j) :: st, b, h) else none | _ => none)) = some c' := hst
  repeat' split at hs
  all_goals first | (cases hs; exact hz) | cases hs
theorem y_zs55 {o : Int} {M0 : Int → Int → Int} (hz : y_Z o M0 h) (hst : x_stp (55, a, t, u, pc) k als ast b h = some c') : y_Z o M0 c'.2.2.2.2 := by
  have hs : ((match (generalizing := false) ast with | .inr r :: st => if r = -2 then some (k + 1, als, .inl (h.2.2 (-2) (-1)) :: st, b, h) else none | _ => none)) = some c' := hst
  repeat' split at hs
  all_goals first | (cases hs; exact hz) | cases hs
theorem y_c26 {t : Nat} (c : (26 : Nat) ≠ 26 ∨ t % 16 = 0 ∧ ((t / 16 = 2 ∨ t / 16 = 5) ∨ t / 16 = 0)) : t % 16 = 0 ∧ (t / 16 = 2 ∨ t / 16 = 5 ∨ t / 16 = 0) := by
  rcases c with q | q
  · exact absurd rfl q
  · exact ⟨q.1, by rcases q.2 with (q | q) | q <;> omega⟩
theorem y_zs {i : xI} {o : Int} {M0 : Int → Int → Int} (hz : y_Z o M0 h) (hc : y_ci i = true) (hst : x_stp i k als ast b h = some c') : y_Z o M0 c'.2.2.2.2 := by
  obtain ⟨op, a, t, u, pc⟩ := i
  simp only [y_ci, Bool.and_eq_true, Bool.or_eq_true, decide_eq_true_eq] at hc
  obtain ⟨⟨⟨n29, n32, n34, n46, n56⟩, c26⟩, _⟩ := hc
  by_cases o0 : op = 0
  · subst o0; exact y_zs0 hz hst
  by_cases o1 : op = 1
  · subst o1; exact y_zs1 hz hst
  by_cases o2 : op = 2
  · subst o2; exact y_zs2 hz hst
  by_cases o3 : op = 3
  · subst o3; exact y_zs3 hz hst
  by_cases o4 : op = 4
  · subst o4; exact y_zs4 hz hst
  by_cases o5 : op = 5
  · subst o5; exact y_zs5 hz hst
  by_cases o6 : op = 6
  · subst o6; exact y_zs6 hz hst
  by_cases o7 : op = 7
  · subst o7; exact y_zs7 hz hst
  by_cases o8 : op = 8
  · subst o8; exact y_zs8 hz hst
  by_cases o9 : op = 9
  · subst o9; exact y_zs9 hz hst
  by_cases o10 : op = 10
  · subst o10; exact y_zs10 hz hst
  by_cases o11 : op = 11
  · subst o11; exact y_zs11 hz hst
  by_cases o12 : op = 12
  · subst o12; exact y_zs12 hz hst
  by_cases o13 : op = 13
  · subst o13; exact y_zs13 hz hst
  by_cases o14 : op = 14
  · subst o14; exact y_zs14 hz hst
  by_cases o15 : op = 15
  · subst o15; exact y_zs15 hz hst
  by_cases o16 : op = 16
  · subst o16; exact y_zs16 hz hst
  by_cases o17 : op = 17
  · subst o17; exact y_zs17 hz hst
  by_cases o18 : op = 18
  · subst o18; exact y_zs18 hz hst
  by_cases o19 : op = 19
  · subst o19; exact y_zs19 hz hst
  by_cases o20 : op = 20
  · subst o20; exact y_zs20 hz hst
  by_cases o21 : op = 21
  · subst o21; exact y_zs21 hz hst
  by_cases o22 : op = 22
  · subst o22; exact y_zs22 hz hst
  by_cases o23 : op = 23
  · subst o23; exact y_zs23 hz hst
  by_cases o24 : op = 24
  · subst o24; exact y_zs24 hz hst
  by_cases o25 : op = 25
  · subst o25; exact y_zs25 hz hst
  by_cases o26 : op = 26
  · subst o26; exact y_zs26 hz (y_c26 c26) hst
  by_cases o27 : op = 27
  · subst o27; exact y_zs27 hz hst
  by_cases o28 : op = 28
  · subst o28; exact y_zs28 hz hst
  by_cases o30 : op = 30
  · subst o30; exact y_zs30 hz hst
  by_cases o31 : op = 31
  · subst o31; exact y_zs31 hz hst
  by_cases o33 : op = 33
  · subst o33; exact y_zs33 hz hst
  by_cases o35 : op = 35
  · subst o35; exact y_zs35 hz hst
  by_cases o36 : op = 36
  · subst o36; exact y_zs36 hz hst
  by_cases o37 : op = 37
  · subst o37; exact y_zs37 hz hst
  by_cases o38 : op = 38
  · subst o38; exact y_zs38 hz hst
  by_cases o43 : op = 43
  · subst o43; exact y_zs43 hz hst
  by_cases o44 : op = 44
  · subst o44; exact y_zs44 hz hst
  by_cases o45 : op = 45
  · subst o45; exact y_zs45 hz hst
  by_cases o47 : op = 47
  · subst o47; exact y_zs47 hz hst
  by_cases o54 : op = 54
  · subst o54; exact y_zs54 hz hst
  by_cases o55 : op = 55
  · subst o55; exact y_zs55 hz hst
  have hst : x_stp (op, a, t, u, pc) k als ast b h = some c' := hst
  have o29 : ¬ op = 29 := n29
  have o32 : ¬ op = 32 := n32
  have o34 : ¬ op = 34 := n34
  have o46 : ¬ op = 46 := n46
  simp only [x_stp, if_neg o0, if_neg o1, if_neg o2, if_neg o3, if_neg o4, if_neg o5, if_neg o6, if_neg o7, if_neg o8, if_neg o9, if_neg o10, if_neg o11, if_neg o12, if_neg o13, if_neg o14, if_neg o15, if_neg o16, if_neg o17, if_neg o18, if_neg o19, if_neg o20, if_neg o21, if_neg o22, if_neg o23, if_neg o24, if_neg o25, if_neg o26, if_neg o27, if_neg o32, if_neg o28, if_neg o29, if_neg o30, if_neg o31, if_neg o33, if_neg o34, if_neg o35, if_neg o36, if_neg o37, if_neg o38, if_neg o43, if_neg o44, if_neg o45, if_neg o46, if_neg o47, if_neg o54, if_neg o55] at hst
  cases hst
end
theorem y_zrun {o : Int} {M0 : Int → Int → Int} : ∀ (n : Nat) {y k : Nat} {als ast : List xV} {b : xB} {h : xH} {v : Option xV} {h' : xH}, y ∈ y_cs → y_Z o M0 h → x_run n y k als ast b h = some (v, h') → y_Z o M0 h' := by
  intro n
  induction n with
  | zero => intro y k als ast b h v h' _ _ hr; cases hr
  | succ n ih =>
    intro y k als ast b h v h' hy hz hr
    have hc := y_cin hy k
    unfold x_run at hr
    generalize x_in y k = i at hr hc
    obtain ⟨op, a, t, u, pc⟩ := i
    dsimp only at hr
    by_cases q1 : 40 ≤ op ∧ op ≤ 42
    · rw [if_pos q1] at hr
      have ht : t ∈ y_cs := by
        simp only [y_ci, Bool.and_eq_true, Bool.or_eq_true, decide_eq_true_eq] at hc
        rcases hc.2 with q | q
        · exact absurd q1 q
        · exact List.contains_iff_mem.mp q
      cases ha : x_arg t ast b h with
      | none => rw [ha] at hr; cases hr
      | some q =>
        obtain ⟨as, rest⟩ := q
        rw [ha] at hr
        dsimp only at hr
        cases hr1 : x_run n t 0 (as ++ List.replicate (x_ml t - x_np t) x_un) [] (x_mc t, x_ms t) h with
        | none => rw [hr1] at hr; cases hr
        | some q =>
          obtain ⟨v1, h2⟩ := q
          rw [hr1] at hr
          dsimp only at hr
          exact ih hy (ih ht hz hr1) hr
    · rw [if_neg q1] at hr
      by_cases q2 : 50 ≤ op ∧ op ≤ 53
      · rw [if_pos q2] at hr
        cases hx : x_ret op ast with
        | none => rw [hx] at hr; cases hr
        | some w => rw [hx] at hr; cases hr; exact hz
      · rw [if_neg q2] at hr
        by_cases q3 : op = 56
        · exfalso
          simp only [y_ci, Bool.and_eq_true, Bool.or_eq_true, decide_eq_true_eq] at hc
          exact hc.1.1.2.2.2.2 q3
        · rw [if_neg q3] at hr
          cases hx : x_stp (op, a, t, u, pc) k als ast b h with
          | none => rw [hx] at hr; cases hr
          | some c' =>
            obtain ⟨k', als', ast', b', h1⟩ := c'
            rw [hx] at hr
            exact ih hy (y_zs hz hc hx) hr
theorem y_zcall {t : Nat} {as : List xV} {h : xH} {r : Option xV × xH → Prop} (ht : t ∈ y_cs) {o : Int} {M0 : Int → Int → Int} (hz : y_Z o M0 h) (hr : x_CallR t as h r) : x_CallR t as h (fun q => r q ∧ y_Z o M0 q.2) := by
  obtain ⟨n, q, h1, h2⟩ := hr
  obtain ⟨v, h'⟩ := q
  exact ⟨n, (v, h'), h1, h2, y_zrun n ht hz h1⟩
