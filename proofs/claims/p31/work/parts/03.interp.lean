/-! THE INTERPRETER: values are integers or references (numbers of cells, -1 is null, -2 the script); cells are numbered in the order of their making; the kind and the length of the cell of each number are fixed ahead -/
abbrev xV : Type := Int ⊕ Int
abbrev xH : Type := Int × (Int → Int → Int) × (Int → Int → Int)
abbrev xB : Type := Nat × Nat
/-- the cells of a town, from its own on -/
def x_tk (o : Int) : Nat := if o = 0 then 4 else if o = 1 then 11 else if o < 86 then (if (o - 2) % 7 = 0 then 2 else if (o - 2) % 7 = 4 then 1 else 8) else if o = 86 then 13 else if o < 147 then 5 else if o = 147 then 10 else if (o - 148) % 2 = 0 then 0 else 8
def x_tl (o : Int) : Int := if o = 1 then 12 else if o < 86 then (if (o - 2) % 7 = 1 then 12 else if (o - 2) % 7 = 2 then 12 else if (o - 2) % 7 = 3 then 8 else 24) else if o = 86 then 60 else if o = 147 then 3 else 8
/-- kinds: 0 to 7 the classes as in vwCl, 8 int[], 9 boolean[], 10 to 13 rows of carts, stands, towns, wheels -/
def x_kd (a : Int) : Nat := if a = 0 then 6 else if a < 155 then x_tk (a - 1) else if a = 155 then 12 else if a = 156 then 3 else if a < 162 then 8 else if a = 162 then 7 else if a = 164 then 9 else if a < 170 then 8 else x_tk ((a - 170) % 154)
def x_ln (a : Int) : Int := if a < 155 then x_tl (a - 1) else if a = 155 then 4 else if a < 160 then 7 else if a = 160 then 128 else if a = 161 then 896 else if a = 163 then 8200 else if a = 164 then 4 else if a < 167 then 12 else if a < 170 then 7 else x_tl ((a - 170) % 154)
def x_w (x : Int) : Int := (x + 2147483648) % 4294967296 - 2147483648
def x_up (f : Int → Int → Int) (a k v : Int) : Int → Int → Int := fun b j => if b = a ∧ j = k then v else f b j
def x_clr (f : Int → Int → Int) (a v : Int) : Int → Int → Int := fun b j => if b = a then v else f b j
def x_cp (f : Int → Int → Int) (a0 sp a dp n : Int) : Int → Int → Int := fun b j => if b = a ∧ dp ≤ j ∧ j < dp + n then f a0 (sp + (j - dp)) else f b j
def x_un : xV := .inr (-9)
/-- the tables, read -/
noncomputable def x_md (y : Nat) : List XM := Nat.rec (motive := fun _ => List XM) xmt (fun _ r => r.tail) y
noncomputable def x_mi (y : Nat) : XM := (x_md y).headD (⟨"", "", ""⟩, 0, 0, (0, 0, 0, 0), (0, 0, 0), (0, 0, 0, 0), [])
noncomputable def x_nm (y : Nat) : MethodName := (x_mi y).1
noncomputable def x_ml (y : Nat) : Nat := (x_mi y).2.1
noncomputable def x_rt (y : Nat) : Nat := (x_mi y).2.2.1
noncomputable def x_dp (y : Nat) : Nat := (x_mi y).2.2.2.1.1
noncomputable def x_lc (y : Nat) : Nat := (x_mi y).2.2.2.1.2.1
noncomputable def x_mc (y : Nat) : Nat := (x_mi y).2.2.2.1.2.2.1
noncomputable def x_ms (y : Nat) : Nat := (x_mi y).2.2.2.1.2.2.2
noncomputable def x_np (y : Nat) : Nat := (x_mi y).2.2.2.2.1.1
noncomputable def x_st (y : Nat) : Nat := (x_mi y).2.2.2.2.1.2.1
noncomputable def x_rk (y : Nat) : Nat := (x_mi y).2.2.2.2.1.2.2
noncomputable def x_cd (y : Nat) : List xI := (x_mi y).2.2.2.2.2.2
def x_rty (n : Nat) : Option FieldType := if n = 0 then none else if n = 1 then some .int else if n = 2 then some .boolean else if n = 3 then some (.object "WheelStands$Stand") else if n = 4 then some (.object "WheelStands$Wheel") else some (.object "WheelStands$Cart")
abbrev x_dec (i : xI) : xI := i
noncomputable def x_in (y k : Nat) : xI := x_dec ((x_cd y).getD k x_63)
noncomputable def x_pc (y k : Nat) : Nat := (x_in y k).2.2.2.2
def x_cond (u : Nat) (i j : Int) : Bool := if u = 0 then decide (i = j) else if u = 1 then decide (i ≠ j) else if u = 2 then decide (i < j) else if u = 3 then decide (j ≤ i) else if u = 4 then decide (j < i) else decide (i ≤ j)
def x_swt (u : Nat) (i : Int) : Nat := match xsw[u]? with
  | some ((_, lo, hi, _, _), d, ts) => if i < lo ∨ hi < i then d else ts.getD (i - lo).toNat 0
  | none => 0
/-- a cell of kind c -/
def x_ok (z r : Int) (c : Nat) : Bool := decide (0 ≤ r) && decide (r < z) && decide (x_kd r = c)
abbrev xC : Type := Nat × List xV × List xV × xB × xH
/-- one instruction, but for calls and returns -/
def x_stp (i : xI) (k : Nat) (ls st : List xV) (b : xB) (h : xH) : Option xC := match i with
  | (op, a, t, u, _) =>
    if op = 0 then some (k + 1, ls, .inl a :: st, b, h)
    else if op = 1 then (match ls[t]? with | some (.inl v) => some (k + 1, ls, .inl v :: st, b, h) | _ => none)
    else if op = 2 then (match ls[t]? with | some (.inr v) => if -2 ≤ v then some (k + 1, ls, .inr v :: st, b, h) else none | _ => none)
    else if op = 3 then (match st with | .inl v :: st => if t < ls.length then some (k + 1, ls.set t (.inl v), st, b, h) else none | _ => none)
    else if op = 4 then (match st with | .inr v :: st => if t < ls.length ∧ -2 ≤ v then some (k + 1, ls.set t (.inr v), st, b, h) else none | _ => none)
    else if op = 5 then (match ls[t]? with | some (.inl v) => some (k + 1, ls.set t (.inl (x_w (v + a))), st, b, h) | _ => none)
    else if op = 6 then (match st with | .inl j :: .inl i :: st => some (k + 1, ls, .inl (x_w (i + j)) :: st, b, h) | _ => none)
    else if op = 7 then (match st with | .inl j :: .inl i :: st => some (k + 1, ls, .inl (x_w (i - j)) :: st, b, h) | _ => none)
    else if op = 8 then (match st with | .inl j :: .inl i :: st => some (k + 1, ls, .inl (x_w (i * j)) :: st, b, h) | _ => none)
    else if op = 9 then (match st with | .inl j :: .inl i :: st => if 0 ≤ i ∧ 0 < j then some (k + 1, ls, .inl (i % j) :: st, b, h) else none | _ => none)
    else if op = 10 then (match st with | .inl i :: st => some (k + 1, ls, .inl (x_w (-i)) :: st, b, h) | _ => none)
    else if op = 11 then (match st with | .inl j :: .inl i :: st => some (k + 1, ls, .inl (Int32.ofInt i &&& Int32.ofInt j).toInt :: st, b, h) | _ => none)
    else if op = 12 then (match st with | .inl j :: .inl i :: st => some (k + 1, ls, .inl (Int32.ofInt i ||| Int32.ofInt j).toInt :: st, b, h) | _ => none)
    else if op = 13 then (match st with | .inl j :: .inl i :: st => some (k + 1, ls, .inl (Int32.ofInt i <<< (Int32.ofInt j &&& 31)).toInt :: st, b, h) | _ => none)
    else if op = 14 then (match st with | .inl j :: .inl i :: st => some (k + 1, ls, .inl (Int32.ofInt i >>> (Int32.ofInt j &&& 31)).toInt :: st, b, h) | _ => none)
    else if op = 15 then (match st with | .inl i :: st => some (if x_cond u i 0 then t else k + 1, ls, st, b, h) | _ => none)
    else if op = 16 then (match st with | .inl j :: .inl i :: st => some (if x_cond u i j then t else k + 1, ls, st, b, h) | _ => none)
    else if op = 17 then some (t, ls, st, b, h)
    else if op = 18 then (match st with | .inr r :: st => if -1 ≤ r then some (if r < 0 then t else k + 1, ls, st, b, h) else none | _ => none)
    else if op = 19 then (match st with | .inr r :: st => if -1 ≤ r then some (if r < 0 then k + 1 else t, ls, st, b, h) else none | _ => none)
    else if op = 20 then some (k + 1, ls, .inr (-1) :: st, b, h)
    else if op = 21 then (match st with | v :: st => some (k + 1, ls, v :: v :: st, b, h) | _ => none)
    else if op = 22 then (match st with | _ :: st => some (k + 1, ls, st, b, h) | _ => none)
    else if op = 23 then (match st with | v :: w :: st => some (k + 1, ls, v :: w :: v :: w :: st, b, h) | _ => none)
    else if op = 24 then (match st with | .inr r :: st => if x_ok h.1 r (t / 16) then some (k + 1, ls, .inl (h.2.2 r (t % 16 : Nat)) :: st, b, h) else none | _ => none)
    else if op = 25 then (match st with | .inr r :: st => if x_ok h.1 r (t / 16) then some (k + 1, ls, .inr (h.2.1 r (t % 16 : Nat)) :: st, b, h) else none | _ => none)
    else if op = 26 then (match st with | .inl v :: .inr r :: st => if x_ok h.1 r (t / 16) then some (k + 1, ls, st, b, (h.1, h.2.1, x_up h.2.2 r (t % 16 : Nat) v)) else none | _ => none)
    else if op = 27 then (match st with | .inr v :: .inr r :: st => if x_ok h.1 r (t / 16) ∧ -1 ≤ v then some (k + 1, ls, st, b, (h.1, x_up h.2.1 r (t % 16 : Nat) v, h.2.2)) else none | _ => none)
    else if op = 32 then (match st with | .inl v :: .inr r :: st => if x_ok h.1 r (t / 16) ∧ (v = 0 ∨ v = 1) then some (k + 1, ls, st, b, (h.1, h.2.1, x_up h.2.2 r (t % 16 : Nat) v)) else none | _ => none)
    else if op = 28 then (match st with | .inl j :: .inr r :: st => if x_ok h.1 r 8 ∧ 0 ≤ j ∧ j < x_ln r then some (k + 1, ls, .inl (h.2.2 r j) :: st, b, h) else none | _ => none)
    else if op = 29 then (match st with | .inl v :: .inl j :: .inr r :: st => if x_ok h.1 r 8 ∧ 0 ≤ j ∧ j < x_ln r then some (k + 1, ls, st, b, (h.1, h.2.1, x_up h.2.2 r j v)) else none | _ => none)
    else if op = 30 then (match st with | .inl j :: .inr r :: st => if 0 ≤ r ∧ r < h.1 ∧ 10 ≤ x_kd r ∧ x_kd r < 14 ∧ 0 ≤ j ∧ j < x_ln r then some (k + 1, ls, .inr (h.2.1 r j) :: st, b, h) else none | _ => none)
    else if op = 31 then (match st with | .inr v :: .inl j :: .inr r :: st => if 0 ≤ r ∧ r < h.1 ∧ 10 ≤ x_kd r ∧ x_kd r < 14 ∧ 0 ≤ j ∧ j < x_ln r ∧ x_ok h.1 v ([0, 2, 4, 5].getD (x_kd r - 10) 99) then some (k + 1, ls, st, b, (h.1, x_up h.2.1 r j v, h.2.2)) else none | _ => none)
    else if op = 33 then (match st with | .inl j :: .inr r :: st => if x_ok h.1 r 9 ∧ 0 ≤ j ∧ j < x_ln r then some (k + 1, ls, .inl (h.2.2 r j) :: st, b, h) else none | _ => none)
    else if op = 34 then (match st with | .inl v :: .inl j :: .inr r :: st => if x_ok h.1 r 9 ∧ 0 ≤ j ∧ j < x_ln r ∧ (v = 0 ∨ v = 1) then some (k + 1, ls, st, b, (h.1, h.2.1, x_up h.2.2 r j v)) else none | _ => none)
    else if op = 35 then (if x_kd h.1 = t ∧ t < 8 ∧ 1 ≤ b.1 ∧ xnsl t ≤ b.2 then some (k + 1, ls, .inr h.1 :: st, (b.1 - 1, b.2 - xnsl t), (h.1 + 1, x_clr h.2.1 h.1 (-1), x_clr h.2.2 h.1 0)) else none)
    else if op = 36 then (match st with | .inl n :: st => if x_kd h.1 = 8 ∧ x_ln h.1 = n ∧ 0 ≤ n ∧ n ≤ 10000 ∧ 1 ≤ b.1 ∧ n.toNat ≤ b.2 then some (k + 1, ls, .inr h.1 :: st, (b.1 - 1, b.2 - n.toNat), (h.1 + 1, x_clr h.2.1 h.1 (-1), x_clr h.2.2 h.1 0)) else none | _ => none)
    else if op = 37 then (match st with | .inl n :: st => if x_kd h.1 = 9 ∧ x_ln h.1 = n ∧ 0 ≤ n ∧ n ≤ 10000 ∧ 1 ≤ b.1 ∧ n.toNat ≤ b.2 then some (k + 1, ls, .inr h.1 :: st, (b.1 - 1, b.2 - n.toNat), (h.1 + 1, x_clr h.2.1 h.1 (-1), x_clr h.2.2 h.1 0)) else none | _ => none)
    else if op = 38 then (match st with | .inl n :: st => if x_kd h.1 = t ∧ 10 ≤ t ∧ t < 14 ∧ x_ln h.1 = n ∧ 0 ≤ n ∧ n ≤ 10000 ∧ 1 ≤ b.1 ∧ n.toNat ≤ b.2 then some (k + 1, ls, .inr h.1 :: st, (b.1 - 1, b.2 - n.toNat), (h.1 + 1, x_clr h.2.1 h.1 (-1), x_clr h.2.2 h.1 0)) else none | _ => none)
    else if op = 43 then (match st with | .inr r :: st => if 0 ≤ r ∧ r < h.1 ∧ st.length ≤ 8 then some (k + 1, ls, st, b, h) else none | _ => none)
    else if op = 44 then (match st with | .inl j :: .inl i :: st => if st.length ≤ 8 then some (k + 1, ls, .inl (max i j) :: st, b, h) else none | _ => none)
    else if op = 45 then (match st with | .inl j :: .inl i :: st => if st.length ≤ 8 then some (k + 1, ls, .inl (min i j) :: st, b, h) else none | _ => none)
    else if op = 46 then (match st with | .inl n :: .inl dp :: .inr a :: .inl sp :: .inr a0 :: st => if x_ok h.1 a 8 ∧ x_ok h.1 a0 8 ∧ 0 ≤ sp ∧ 0 ≤ dp ∧ 0 ≤ n ∧ sp + n ≤ x_ln a0 ∧ dp + n ≤ x_ln a ∧ st.length ≤ 8 then some (k + 1, ls, st, b, (h.1, h.2.1, x_cp h.2.2 a0 sp a dp n)) else none | _ => none)
    else if op = 47 then (match st with | .inl i :: st => some (x_swt u i, ls, st, b, h) | _ => none)
    else if op = 54 then (match st with | .inl j :: .inr r :: st => if r = -2 ∧ 0 ≤ j ∧ j < h.2.2 (-2) (-1) then some (k + 1, ls, .inl (h.2.2 (-2) j) :: st, b, h) else none | _ => none)
    else if op = 55 then (match st with | .inr r :: st => if r = -2 then some (k + 1, ls, .inl (h.2.2 (-2) (-1)) :: st, b, h) else none | _ => none)
    else none
/-- what the two methods over floats and longs answer: the thousandths of the float with these bits -/
def x_th2 (e f : Int) : Int :=
  (if (if (8388608 + f) * 1000 < 8589934592 then (512 : Int) else 1024) < 2 * ((8388608 + f) * 1000 % (if (8388608 + f) * 1000 < 8589934592 then (512 : Int) else 1024)) ∨ (2 * ((8388608 + f) * 1000 % (if (8388608 + f) * 1000 < 8589934592 then (512 : Int) else 1024)) = (if (8388608 + f) * 1000 < 8589934592 then (512 : Int) else 1024) ∧ (8388608 + f) * 1000 / (if (8388608 + f) * 1000 < 8589934592 then (512 : Int) else 1024) % 2 = 1)
    then (8388608 + f) * 1000 / (if (8388608 + f) * 1000 < 8589934592 then (512 : Int) else 1024) + 1
    else (8388608 + f) * 1000 / (if (8388608 + f) * 1000 < 8589934592 then (512 : Int) else 1024))
  * (if (8388608 + f) * 1000 < 8589934592 then (512 : Int) else 1024) / 2 ^ (150 - e).toNat
def x_thou (i : Int) : Int := if i < 0 then (if i = -2147483648 then 0 else -1) else if 127 < i / 8388608 ∨ (i / 8388608 = 127 ∧ ¬ i % 8388608 = 0) then -1 else if i / 8388608 < 100 then 0 else x_th2 (i / 8388608) (i % 8388608)
def x_ret (op : Nat) (st : List xV) : Option (Option xV) :=
  if op = 50 then (match st with | [.inl v] => some (some (.inl v)) | _ => none)
  else if op = 51 then (match st with | [.inl v] => if v = 0 ∨ v = 1 then some (some (.inl v)) else none | _ => none)
  else if op = 52 then (match st with | [.inr r] => if -1 ≤ r then some (some (.inr r)) else none | _ => none)
  else (match st with | [] => some none | _ => none)
def x_rc (z : Int) (c : Nat) : List xV → Bool
  | .inr r :: _ => x_ok z r c
  | _ => false
/-- the arguments of a call, the rest of the stack; none if it is no call that may be made -/
noncomputable def x_arg (t : Nat) (st : List xV) (b : xB) (h : xH) : Option (List xV × List xV) :=
  if x_np t ≤ st.length ∧ (st.drop (x_np t)).length ≤ 8 ∧ x_mc t ≤ b.1 ∧ x_ms t ≤ b.2 ∧ x_np t ≤ x_ml t ∧ (x_st t = 1 ∨ x_rc h.1 (x_rk t) (st.take (x_np t)).reverse = true) then some ((st.take (x_np t)).reverse, st.drop (x_np t)) else none
/-- whether the two methods over floats may be called -/
def x_pm : Bool := true
noncomputable def x_run : Nat → Nat → Nat → List xV → List xV → xB → xH → Option (Option xV × xH)
  | 0, _, _, _, _, _, _ => none
  | n + 1, y, k, ls, st, b, h => match x_in y k with
    | (op, a, t, u, p) =>
      if 40 ≤ op ∧ op ≤ 42 then (match x_arg t st b h with
        | none => none
        | some (as, rest) => match x_run n t 0 (as ++ List.replicate (x_ml t - x_np t) x_un) [] (x_mc t, x_ms t) h with
          | none => none
          | some (v, h2) => x_run n y (k + 1) ls (v.toList ++ rest) (b.1 - x_mc t, b.2 - x_ms t) h2)
      else if 50 ≤ op ∧ op ≤ 53 then (match x_ret op st with
        | none => none
        | some v => some (v, h))
      else if op = 56 then (match st with
        | .inl v :: st => if st.length ≤ 8 ∧ x_pm = true then x_run n y (k + 1) ls (.inl (x_thou v) :: st) b h else none
        | _ => none)
      else match x_stp (op, a, t, u, p) k ls st b h with
        | none => none
        | some (k', ls', st', b', h') => x_run n y k' ls' st' b' h'
