/-! branches, the stack, the JDK's calls -/
section
variable {p : Program} {l : Launch} {e : Env} {R : Room} {s : State} {m : MethodId} {args : Array Value} {below : List Frame} {meth : Method} {c : Code} {Q : State → Prop}
variable {D : va_G} {cy : Nat → ClassId} {A : Nat → Prop} {bs y CC SS : Nat} {L : List Nat} {h : xH} {H : Heap} {locs : List Loc} {ls : Array Slot} {als ast : List xV} {b : xB} {cells slots k : Nat}
variable {a : Int} {t u pc p2 : Nat} {c' : xC}

theorem x_s15 (F : x_Fr p R s m args meth c D cy A y) (C : x_Ck y k 15 a t u pc) (S : x_St s D cy A bs y CC SS L h H locs ls als ast b cells slots) (hst : x_stp (15, a, t, u, pc) k als ast b h = some c') (kk : x_K p l e R s m args below meth c Q D cy A bs y CC SS L c') : W p l e R s m args below meth c H locs cells slots Q (F0 m pc ls (ast.map (x_conc bs L))) := by
  have C : x_D ((x_by y).data.toList.drop pc) pc (x_pc y (k + 1)) (x_ifI u ((x_tp (x_cd y) t : Int) - pc)) 3 = true := C
  have hs : (match (generalizing := false) ast with | .inl i :: st => some (if x_cond u i 0 then t else k + 1, als, st, b, h) | _ => none) = some c' := hst
  split at hs
  rotate_left
  · cases hs
  rename_i i st
  cases hs
  obtain ⟨hy, hx, hb, hml, hown, hts, -⟩ := F
  obtain ⟨hd, hp⟩ := x_D_ok C
  have ho := S.2.2.2.2.1
  have oi : x_in32 i := x_hd ho
  have oj := x_zero
  have K : W p l e R s m args below meth c H locs cells slots Q (F0 m (x_pc y (if x_cond u i 0 = true then t else k + 1)) ls (st.map (x_conc bs L))) := kk L H locs ls cells slots (x_ext_rf L) (S.stk (x_tls ho))
  have ht : (pc : Int) + ((x_tp (x_cd y) t : Int) - pc) = ((x_pc y t : Nat) : Int) := by
    show (pc : Int) + (((x_pc y t : Nat) : Int) - pc) = _
    omega
  by_cases u0 : u = 0
  · subst u0
    have ec : x_cond 0 i 0 = decide (i = 0) := rfl
    refine lv_if_eq hx hb hd ht (fun q => ?_) (fun q => ?_)
    · rw [if_pos (by rw [ec]; exact decide_eq_true ((x_eqi oi oj).mp q))] at K
      exact K
    · rw [if_neg (by rw [ec]; exact fun z => q ((x_eqi oi oj).mpr (of_decide_eq_true z))), hp] at K
      exact K
  by_cases u1 : u = 1
  · subst u1
    have ec : x_cond 1 i 0 = decide (¬ i = 0) := rfl
    refine lv_if_ne hx hb hd ht (fun q => ?_) (fun q => ?_)
    · rw [if_pos (by rw [ec]; exact decide_eq_true ((not_congr (x_eqi oi oj)).mp q))] at K
      exact K
    · rw [if_neg (by rw [ec]; exact fun z => (of_decide_eq_true z) ((x_eqi oi oj).mp q)), hp] at K
      exact K
  by_cases u2 : u = 2
  · subst u2
    have ec : x_cond 2 i 0 = decide (i < 0) := rfl
    refine lv_if_lt hx hb hd ht (fun q => ?_) (fun q => ?_)
    · rw [if_pos (by rw [ec]; exact decide_eq_true ((x_lt oi oj).mp q))] at K
      exact K
    · rw [if_neg (by rw [ec]; exact fun z => q ((x_lt oi oj).mpr (of_decide_eq_true z))), hp] at K
      exact K
  by_cases u3 : u = 3
  · subst u3
    have ec : x_cond 3 i 0 = decide (0 ≤ i) := rfl
    refine lv_if_ge hx hb hd ht (fun q => ?_) (fun q => ?_)
    · rw [if_pos (by rw [ec]; exact decide_eq_true ((x_le oj oi).mp q))] at K
      exact K
    · rw [if_neg (by rw [ec]; exact fun z => q ((x_le oj oi).mpr (of_decide_eq_true z))), hp] at K
      exact K
  by_cases u4 : u = 4
  · subst u4
    have ec : x_cond 4 i 0 = decide (0 < i) := rfl
    refine lv_if_gt hx hb hd ht (fun q => ?_) (fun q => ?_)
    · rw [if_pos (by rw [ec]; exact decide_eq_true ((x_lt oj oi).mp q))] at K
      exact K
    · rw [if_neg (by rw [ec]; exact fun z => q ((x_lt oj oi).mpr (of_decide_eq_true z))), hp] at K
      exact K
  have eI : x_ifI u ((x_tp (x_cd y) t : Int) - pc) = .ifCond .le ((x_tp (x_cd y) t : Int) - pc) := by unfold x_ifI; rw [if_neg u0, if_neg u1, if_neg u2, if_neg u3, if_neg u4]
  rw [eI] at hd
  have ec : x_cond u i 0 = decide (i ≤ 0) := by unfold x_cond; rw [if_neg u0, if_neg u1, if_neg u2, if_neg u3, if_neg u4]
  refine lv_if_le hx hb hd ht (fun q => ?_) (fun q => ?_)
  · rw [if_pos (by rw [ec]; exact decide_eq_true ((x_le oi oj).mp q))] at K
    exact K
  · rw [if_neg (by rw [ec]; exact fun z => q ((x_le oi oj).mpr (of_decide_eq_true z))), hp] at K
    exact K

theorem x_s16 (F : x_Fr p R s m args meth c D cy A y) (C : x_Ck y k 16 a t u pc) (S : x_St s D cy A bs y CC SS L h H locs ls als ast b cells slots) (hst : x_stp (16, a, t, u, pc) k als ast b h = some c') (kk : x_K p l e R s m args below meth c Q D cy A bs y CC SS L c') : W p l e R s m args below meth c H locs cells slots Q (F0 m pc ls (ast.map (x_conc bs L))) := by
  have C : x_D ((x_by y).data.toList.drop pc) pc (x_pc y (k + 1)) (x_icI u ((x_tp (x_cd y) t : Int) - pc)) 3 = true := C
  have hs : (match (generalizing := false) ast with | .inl j :: .inl i :: st => some (if x_cond u i j then t else k + 1, als, st, b, h) | _ => none) = some c' := hst
  split at hs
  rotate_left
  · cases hs
  rename_i j i st
  cases hs
  obtain ⟨hy, hx, hb, hml, hown, hts, -⟩ := F
  obtain ⟨hd, hp⟩ := x_D_ok C
  have ho := S.2.2.2.2.1
  have oj : x_in32 j := x_hd ho
  have oi : x_in32 i := x_hd (x_tls ho)
  have K : W p l e R s m args below meth c H locs cells slots Q (F0 m (x_pc y (if x_cond u i j = true then t else k + 1)) ls (st.map (x_conc bs L))) := kk L H locs ls cells slots (x_ext_rf L) (S.stk (x_tls (x_tls ho)))
  have ht : (pc : Int) + ((x_tp (x_cd y) t : Int) - pc) = ((x_pc y t : Nat) : Int) := by
    show (pc : Int) + (((x_pc y t : Nat) : Int) - pc) = _
    omega
  by_cases u0 : u = 0
  · subst u0
    have ec : x_cond 0 i j = decide (i = j) := rfl
    refine lv_icmp_eq hx hb hd ht (fun q => ?_) (fun q => ?_)
    · rw [if_pos (by rw [ec]; exact decide_eq_true ((x_eqi oi oj).mp q))] at K
      exact K
    · rw [if_neg (by rw [ec]; exact fun z => q ((x_eqi oi oj).mpr (of_decide_eq_true z))), hp] at K
      exact K
  by_cases u1 : u = 1
  · subst u1
    have ec : x_cond 1 i j = decide (¬ i = j) := rfl
    refine lv_icmp_ne hx hb hd ht (fun q => ?_) (fun q => ?_)
    · rw [if_pos (by rw [ec]; exact decide_eq_true ((not_congr (x_eqi oi oj)).mp q))] at K
      exact K
    · rw [if_neg (by rw [ec]; exact fun z => (of_decide_eq_true z) ((x_eqi oi oj).mp q)), hp] at K
      exact K
  by_cases u2 : u = 2
  · subst u2
    have ec : x_cond 2 i j = decide (i < j) := rfl
    refine lv_icmp_lt hx hb hd ht (fun q => ?_) (fun q => ?_)
    · rw [if_pos (by rw [ec]; exact decide_eq_true ((x_lt oi oj).mp q))] at K
      exact K
    · rw [if_neg (by rw [ec]; exact fun z => q ((x_lt oi oj).mpr (of_decide_eq_true z))), hp] at K
      exact K
  by_cases u3 : u = 3
  · subst u3
    have ec : x_cond 3 i j = decide (j ≤ i) := rfl
    refine lv_icmp_ge hx hb hd ht (fun q => ?_) (fun q => ?_)
    · rw [if_pos (by rw [ec]; exact decide_eq_true ((x_le oj oi).mp q))] at K
      exact K
    · rw [if_neg (by rw [ec]; exact fun z => q ((x_le oj oi).mpr (of_decide_eq_true z))), hp] at K
      exact K
  by_cases u4 : u = 4
  · subst u4
    have ec : x_cond 4 i j = decide (j < i) := rfl
    refine lv_icmp_gt hx hb hd ht (fun q => ?_) (fun q => ?_)
    · rw [if_pos (by rw [ec]; exact decide_eq_true ((x_lt oj oi).mp q))] at K
      exact K
    · rw [if_neg (by rw [ec]; exact fun z => q ((x_lt oj oi).mpr (of_decide_eq_true z))), hp] at K
      exact K
  have eI : x_icI u ((x_tp (x_cd y) t : Int) - pc) = .if_icmp .le ((x_tp (x_cd y) t : Int) - pc) := by unfold x_icI; rw [if_neg u0, if_neg u1, if_neg u2, if_neg u3, if_neg u4]
  rw [eI] at hd
  have ec : x_cond u i j = decide (i ≤ j) := by unfold x_cond; rw [if_neg u0, if_neg u1, if_neg u2, if_neg u3, if_neg u4]
  refine lv_icmp_le hx hb hd ht (fun q => ?_) (fun q => ?_)
  · rw [if_pos (by rw [ec]; exact decide_eq_true ((x_le oi oj).mp q))] at K
    exact K
  · rw [if_neg (by rw [ec]; exact fun z => q ((x_le oi oj).mpr (of_decide_eq_true z))), hp] at K
    exact K

theorem x_s17 (F : x_Fr p R s m args meth c D cy A y) (C : x_Ck y k 17 a t u pc) (S : x_St s D cy A bs y CC SS L h H locs ls als ast b cells slots) (hst : x_stp (17, a, t, u, pc) k als ast b h = some c') (kk : x_K p l e R s m args below meth c Q D cy A bs y CC SS L c') : W p l e R s m args below meth c H locs cells slots Q (F0 m pc ls (ast.map (x_conc bs L))) := by
  have C : x_is ((x_by y).data.toList.drop pc) (.goto ((x_tp (x_cd y) t : Int) - pc)) 3 = true := C
  cases (show some (t, als, ast, b, h) = some c' from hst)
  obtain ⟨hy, hx, hb, hml, hown, hts, -⟩ := F
  have hd := x_is_ok C
  have ht : (pc : Int) + ((x_tp (x_cd y) t : Int) - pc) = ((x_pc y t : Nat) : Int) := by
    show (pc : Int) + (((x_pc y t : Nat) : Int) - pc) = _
    omega
  exact lv_goto hx hb hd ht (kk L H locs ls cells slots (x_ext_rf L) S)

theorem x_s18 (F : x_Fr p R s m args meth c D cy A y) (C : x_Ck y k 18 a t u pc) (S : x_St s D cy A bs y CC SS L h H locs ls als ast b cells slots) (hst : x_stp (18, a, t, u, pc) k als ast b h = some c') (kk : x_K p l e R s m args below meth c Q D cy A bs y CC SS L c') : W p l e R s m args below meth c H locs cells slots Q (F0 m pc ls (ast.map (x_conc bs L))) := by
  have C : x_D ((x_by y).data.toList.drop pc) pc (x_pc y (k + 1)) (.ifnull ((x_tp (x_cd y) t : Int) - pc)) 3 = true := C
  have hs : (match (generalizing := false) ast with | .inr r :: st => if -1 ≤ r then some (if r < 0 then t else k + 1, als, st, b, h) else none | _ => none) = some c' := hst
  split at hs
  rotate_left
  · cases hs
  rename_i r st
  split at hs
  rotate_left
  · cases hs
  rename_i hr
  cases hs
  obtain ⟨hy, hx, hb, hml, hown, hts, -⟩ := F
  obtain ⟨hd, hp⟩ := x_D_ok C
  have ho := S.2.2.2.2.1
  have K : W p l e R s m args below meth c H locs cells slots Q (F0 m (x_pc y (if r < 0 then t else k + 1)) ls (st.map (x_conc bs L))) := kk L H locs ls cells slots (x_ext_rf L) (S.stk (x_tls ho))
  have ht : (pc : Int) + ((x_tp (x_cd y) t : Int) - pc) = ((x_pc y t : Nat) : Int) := by
    show (pc : Int) + (((x_pc y t : Nat) : Int) - pc) = _
    omega
  show W p l e R s m args below meth c H locs cells slots Q (F0 m pc ls (x_conc bs L (.inr r) :: st.map (x_conc bs L)))
  by_cases q : r < 0
  · rw [x_null q (by omega)]
    rw [if_pos q] at K
    exact lv_ifnullN hx hb hd ht K
  · rw [x_ref (by omega)]
    rw [if_neg q] at K
    rw [hp] at K
    exact lv_ifnull hx hb hd K

theorem x_s19 (F : x_Fr p R s m args meth c D cy A y) (C : x_Ck y k 19 a t u pc) (S : x_St s D cy A bs y CC SS L h H locs ls als ast b cells slots) (hst : x_stp (19, a, t, u, pc) k als ast b h = some c') (kk : x_K p l e R s m args below meth c Q D cy A bs y CC SS L c') : W p l e R s m args below meth c H locs cells slots Q (F0 m pc ls (ast.map (x_conc bs L))) := by
  have C : x_D ((x_by y).data.toList.drop pc) pc (x_pc y (k + 1)) (.ifnonnull ((x_tp (x_cd y) t : Int) - pc)) 3 = true := C
  have hs : (match (generalizing := false) ast with | .inr r :: st => if -1 ≤ r then some (if r < 0 then k + 1 else t, als, st, b, h) else none | _ => none) = some c' := hst
  split at hs
  rotate_left
  · cases hs
  rename_i r st
  split at hs
  rotate_left
  · cases hs
  rename_i hr
  cases hs
  obtain ⟨hy, hx, hb, hml, hown, hts, -⟩ := F
  obtain ⟨hd, hp⟩ := x_D_ok C
  have ho := S.2.2.2.2.1
  have K : W p l e R s m args below meth c H locs cells slots Q (F0 m (x_pc y (if r < 0 then k + 1 else t)) ls (st.map (x_conc bs L))) := kk L H locs ls cells slots (x_ext_rf L) (S.stk (x_tls ho))
  have ht : (pc : Int) + ((x_tp (x_cd y) t : Int) - pc) = ((x_pc y t : Nat) : Int) := by
    show (pc : Int) + (((x_pc y t : Nat) : Int) - pc) = _
    omega
  show W p l e R s m args below meth c H locs cells slots Q (F0 m pc ls (x_conc bs L (.inr r) :: st.map (x_conc bs L)))
  by_cases q : r < 0
  · rw [x_null q (by omega)]
    rw [if_pos q] at K
    rw [hp] at K
    exact lv_ifnonnullN hx hb hd K
  · rw [x_ref (by omega)]
    rw [if_neg q] at K
    exact lv_ifnonnull hx hb hd ht K

theorem x_s20 (F : x_Fr p R s m args meth c D cy A y) (C : x_Ck y k 20 a t u pc) (S : x_St s D cy A bs y CC SS L h H locs ls als ast b cells slots) (hst : x_stp (20, a, t, u, pc) k als ast b h = some c') (kk : x_K p l e R s m args below meth c Q D cy A bs y CC SS L c') : W p l e R s m args below meth c H locs cells slots Q (F0 m pc ls (ast.map (x_conc bs L))) := by
  have C : x_D ((x_by y).data.toList.drop pc) pc (x_pc y (k + 1)) .aconst_null 1 = true := C
  cases (show some (k + 1, als, .inr (-1) :: ast, b, h) = some c' from hst)
  obtain ⟨hy, hx, hb, hml, hown, hts, -⟩ := F
  obtain ⟨hd, hp⟩ := x_D_ok C
  have hz : (0 : Int) ≤ h.1 := by rw [← S.1.1]; omega
  have K := kk L H locs ls cells slots (x_ext_rf L) (S.stk (x_cons (show (-1 : Int) < h.1 by omega) S.2.2.2.2.1))
  refine lv_null hx hb hd (W.eq ?_ K)
  show F0 m (pc + 1) ls _ = F0 m (x_pc y (k + 1)) ls _
  rw [hp]
  rfl

theorem x_s21 (F : x_Fr p R s m args meth c D cy A y) (C : x_Ck y k 21 a t u pc) (S : x_St s D cy A bs y CC SS L h H locs ls als ast b cells slots) (hst : x_stp (21, a, t, u, pc) k als ast b h = some c') (kk : x_K p l e R s m args below meth c Q D cy A bs y CC SS L c') : W p l e R s m args below meth c H locs cells slots Q (F0 m pc ls (ast.map (x_conc bs L))) := by
  have C : x_D ((x_by y).data.toList.drop pc) pc (x_pc y (k + 1)) .dup 1 = true := C
  have hs : (match (generalizing := false) ast with | v :: st => some (k + 1, als, v :: v :: st, b, h) | _ => none) = some c' := hst
  split at hs
  rotate_left
  · cases hs
  rename_i v st
  cases hs
  obtain ⟨hy, hx, hb, hml, hown, hts, -⟩ := F
  obtain ⟨hd, hp⟩ := x_D_ok C
  have ho := S.2.2.2.2.1
  refine lv_dup hx hb hd (x_cat _ _ _) (W.eq ?_ (kk L H locs ls cells slots (x_ext_rf L) (S.stk (x_cons (x_hd ho) ho))))
  show F0 m (pc + 1) ls _ = F0 m (x_pc y (k + 1)) ls _
  rw [hp]
  rfl

theorem x_s22 (F : x_Fr p R s m args meth c D cy A y) (C : x_Ck y k 22 a t u pc) (S : x_St s D cy A bs y CC SS L h H locs ls als ast b cells slots) (hst : x_stp (22, a, t, u, pc) k als ast b h = some c') (kk : x_K p l e R s m args below meth c Q D cy A bs y CC SS L c') : W p l e R s m args below meth c H locs cells slots Q (F0 m pc ls (ast.map (x_conc bs L))) := by
  have C : x_D ((x_by y).data.toList.drop pc) pc (x_pc y (k + 1)) .pop 1 = true := C
  have hs : (match (generalizing := false) ast with | _ :: st => some (k + 1, als, st, b, h) | _ => none) = some c' := hst
  split at hs
  rotate_left
  · cases hs
  rename_i v st
  cases hs
  obtain ⟨hy, hx, hb, hml, hown, hts, -⟩ := F
  obtain ⟨hd, hp⟩ := x_D_ok C
  have ho := S.2.2.2.2.1
  refine lv_pop hx hb hd (x_cat bs L v) (W.eq ?_ (kk L H locs ls cells slots (x_ext_rf L) (S.stk (x_tls ho))))
  show F0 m (pc + 1) ls _ = F0 m (x_pc y (k + 1)) ls _
  rw [hp]

theorem x_s23 (F : x_Fr p R s m args meth c D cy A y) (C : x_Ck y k 23 a t u pc) (S : x_St s D cy A bs y CC SS L h H locs ls als ast b cells slots) (hst : x_stp (23, a, t, u, pc) k als ast b h = some c') (kk : x_K p l e R s m args below meth c Q D cy A bs y CC SS L c') : W p l e R s m args below meth c H locs cells slots Q (F0 m pc ls (ast.map (x_conc bs L))) := by
  have C : x_D ((x_by y).data.toList.drop pc) pc (x_pc y (k + 1)) .dup2 1 = true := C
  have hs : (match (generalizing := false) ast with | v :: w :: st => some (k + 1, als, v :: w :: v :: w :: st, b, h) | _ => none) = some c' := hst
  split at hs
  rotate_left
  · cases hs
  rename_i v w st
  cases hs
  obtain ⟨hy, hx, hb, hml, hown, hts, -⟩ := F
  obtain ⟨hd, hp⟩ := x_D_ok C
  have ho := S.2.2.2.2.1
  refine lv_dup2_11 hx hb hd (x_cat bs L v) (x_cat bs L w) (W.eq ?_ (kk L H locs ls cells slots (x_ext_rf L) (S.stk (x_cons (x_hd ho) (x_cons (x_hd (x_tls ho)) ho)))))
  show F0 m (pc + 1) ls _ = F0 m (x_pc y (k + 1)) ls _
  rw [hp]
  rfl

theorem x_sum (bs : Nat) (L : List Nat) (st : List xV) : ((st.map (x_conc bs L)).map fun v => v.category).sum = st.length := by
  induction st with
  | nil => rfl
  | cons v st ih =>
    simp only [List.map_cons, List.sum_cons, List.length_cons]
    rw [x_cat, ih]
    omega

theorem x_s44 (F : x_Fr p R s m args meth c D cy A y) (C : x_Ck y k 44 a t u pc) (S : x_St s D cy A bs y CC SS L h H locs ls als ast b cells slots) (hcs : cells ≤ R.cells ∧ slots ≤ R.slots) (hst : x_stp (44, a, t, u, pc) k als ast b h = some c') (kk : x_K p l e R s m args below meth c Q D cy A bs y CC SS L c') : W p l e R s m args below meth c H locs cells slots Q (F0 m pc ls (ast.map (x_conc bs L))) := by
  have C : (x_wd u (.methodLink (x_nm y).cls t Lib.Math.max.name) && x_D ((x_by y).data.toList.drop pc) pc (x_pc y (k + 1)) (.invokestatic t) 3 && decide (1 ≤ x_dp y) && decide (40 ≤ x_lc y)) = true := C
  simp only [Bool.and_eq_true, decide_eq_true_eq] at C
  obtain ⟨⟨⟨Cw, C⟩, r1⟩, r2⟩ := C
  have hs : (match (generalizing := false) ast with | .inl j :: .inl i :: st => if st.length ≤ 8 then some (k + 1, als, .inl (max i j) :: st, b, h) else none | _ => none) = some c' := hst
  split at hs
  rotate_left
  · cases hs
  rename_i j i st
  split at hs
  rotate_left
  · cases hs
  rename_i h8
  cases hs
  obtain ⟨hy, hx, hb, hml, hown, hts, -, -, -, hfr, hlo, -⟩ := F
  obtain ⟨hd, hp⟩ := x_D_ok C
  have ho := S.2.2.2.2.1
  have oj : x_in32 j := x_hd ho
  have oi : x_in32 i := x_hd (x_tls ho)
  have hin : x_in32 (max i j) := by
    unfold x_in32 at *
    omega
  have J := x_jdk
  simp only [Bool.and_eq_true] at J
  have hW := fun (n : Nat) (w : Cond) (hn : x_wd n w = true) (hg : goodWord w = true) => hts w (x_wd_ok hn) hg
  have ev : (if Int32.ofInt i < Int32.ofInt j then Int32.ofInt j else Int32.ofInt i) = Int32.ofInt (max i j) := by
    by_cases q : i < j
    · rw [if_pos ((x_lt oi oj).mpr q)]
      congr 1
      omega
    · rw [if_neg (fun z => q ((x_lt oi oj).mp z))]
      congr 1
      omega
  have K : W p l e R s m args below meth c H locs cells slots Q (F0 m (x_pc y (k + 1)) ls (.int (Int32.ofInt (max i j)) :: st.map (x_conc bs L))) := kk L H locs ls cells slots (x_ext_rf L) (S.stk (x_cons (show x_okv h.1 (.inl (max i j)) from hin) (x_tls (x_tls ho))))
  rw [hp, ← ev] at K
  exact va_mmax hx hb (by rw [hml, S.2.2.1.1]) hown (hW u _ Cw rfl) (hW xp_maxs _ (by simp [J]) rfl) (hW xp_mi _ (by simp [J]) rfl) (hW xp_maxc _ (by simp [J]) rfl) (by omega) (by rw [x_sum]; omega) hcs.1 hcs.2 hd K

theorem x_s45 (F : x_Fr p R s m args meth c D cy A y) (C : x_Ck y k 45 a t u pc) (S : x_St s D cy A bs y CC SS L h H locs ls als ast b cells slots) (hcs : cells ≤ R.cells ∧ slots ≤ R.slots) (hst : x_stp (45, a, t, u, pc) k als ast b h = some c') (kk : x_K p l e R s m args below meth c Q D cy A bs y CC SS L c') : W p l e R s m args below meth c H locs cells slots Q (F0 m pc ls (ast.map (x_conc bs L))) := by
  have C : (x_wd u (.methodLink (x_nm y).cls t Lib.Math.min.name) && x_D ((x_by y).data.toList.drop pc) pc (x_pc y (k + 1)) (.invokestatic t) 3 && decide (1 ≤ x_dp y) && decide (40 ≤ x_lc y)) = true := C
  simp only [Bool.and_eq_true, decide_eq_true_eq] at C
  obtain ⟨⟨⟨Cw, C⟩, r1⟩, r2⟩ := C
  have hs : (match (generalizing := false) ast with | .inl j :: .inl i :: st => if st.length ≤ 8 then some (k + 1, als, .inl (min i j) :: st, b, h) else none | _ => none) = some c' := hst
  split at hs
  rotate_left
  · cases hs
  rename_i j i st
  split at hs
  rotate_left
  · cases hs
  rename_i h8
  cases hs
  obtain ⟨hy, hx, hb, hml, hown, hts, -, -, -, hfr, hlo, -⟩ := F
  obtain ⟨hd, hp⟩ := x_D_ok C
  have ho := S.2.2.2.2.1
  have oj : x_in32 j := x_hd ho
  have oi : x_in32 i := x_hd (x_tls ho)
  have hin : x_in32 (min i j) := by
    unfold x_in32 at *
    omega
  have J := x_jdk
  simp only [Bool.and_eq_true] at J
  have hW := fun (n : Nat) (w : Cond) (hn : x_wd n w = true) (hg : goodWord w = true) => hts w (x_wd_ok hn) hg
  have ev : (if Int32.ofInt j < Int32.ofInt i then Int32.ofInt j else Int32.ofInt i) = Int32.ofInt (min i j) := by
    by_cases q : j < i
    · rw [if_pos ((x_lt oj oi).mpr q)]
      congr 1
      omega
    · rw [if_neg (fun z => q ((x_lt oj oi).mp z))]
      congr 1
      omega
  have K : W p l e R s m args below meth c H locs cells slots Q (F0 m (x_pc y (k + 1)) ls (.int (Int32.ofInt (min i j)) :: st.map (x_conc bs L))) := kk L H locs ls cells slots (x_ext_rf L) (S.stk (x_cons (show x_okv h.1 (.inl (min i j)) from hin) (x_tls (x_tls ho))))
  rw [hp, ← ev] at K
  exact va_mmin hx hb (by rw [hml, S.2.2.1.1]) hown (hW u _ Cw rfl) (hW xp_mins _ (by simp [J]) rfl) (hW xp_mi _ (by simp [J]) rfl) (hW xp_minc _ (by simp [J]) rfl) (by omega) (by rw [x_sum]; omega) hcs.1 hcs.2 hd K

theorem x_s43 (F : x_Fr p R s m args meth c D cy A y) (C : x_Ck y k 43 a t u pc) (S : x_St s D cy A bs y CC SS L h H locs ls als ast b cells slots) (hst : x_stp (43, a, t, u, pc) k als ast b h = some c') (kk : x_K p l e R s m args below meth c Q D cy A bs y CC SS L c') : W p l e R s m args below meth c H locs cells slots Q (F0 m pc ls (ast.map (x_conc bs L))) := by
  have C : (x_wd u (.methodLink (x_nm y).cls t objectInit) && x_D ((x_by y).data.toList.drop pc) pc (x_pc y (k + 1)) (.invokespecial t) 3 && decide (1 ≤ x_dp y) && decide (40 ≤ x_lc y)) = true := C
  simp only [Bool.and_eq_true, decide_eq_true_eq] at C
  obtain ⟨⟨⟨Cw, C⟩, r1⟩, r2⟩ := C
  have hs : (match (generalizing := false) ast with | .inr r :: st => if 0 ≤ r ∧ r < h.1 ∧ st.length ≤ 8 then some (k + 1, als, st, b, h) else none | _ => none) = some c' := hst
  split at hs
  rotate_left
  · cases hs
  rename_i r st
  split at hs
  rotate_left
  · cases hs
  rename_i h8
  cases hs
  obtain ⟨hy, hx, hb, hml, hown, hts, -, -, -, hfr, hlo, -⟩ := F
  obtain ⟨hd, hp⟩ := x_D_ok C
  have ho := S.2.2.2.2.1
  have J := x_jdk
  simp only [Bool.and_eq_true] at J
  have hW := fun (n : Nat) (w : Cond) (hn : x_wd n w = true) (hg : goodWord w = true) => hts w (x_wd_ok hn) hg
  have K : W p l e R s m args below meth c H locs cells slots Q (F0 m (x_pc y (k + 1)) ls (st.map (x_conc bs L))) := kk L H locs ls cells slots (x_ext_rf L) (S.stk (x_tls ho))
  rw [hp] at K
  show W p l e R s m args below meth c H locs cells slots Q (F0 m pc ls (x_conc bs L (.inr r) :: st.map (x_conc bs L)))
  rw [x_ref h8.1]
  refine W.objInit hx hb hown (hW u _ Cw rfl) (hW xp_oi _ (by simp [J]) rfl) (hW xp_oc _ (by simp [J]) rfl) rfl (by rw [hml]; exact S.2.2.1.1) rfl hd (by omega) ?_ K
  show 2 * 0 + _ + 12 ≤ _
  rw [x_sum]
  omega

theorem x_s47 (F : x_Fr p R s m args meth c D cy A y) (C : x_Ck y k 47 a t u pc) (S : x_St s D cy A bs y CC SS L h H locs ls als ast b cells slots) (hst : x_stp (47, a, t, u, pc) k als ast b h = some c') (kk : x_K p l e R s m args below meth c Q D cy A bs y CC SS L c') : W p l e R s m args below meth c H locs cells slots Q (F0 m pc ls (ast.map (x_conc bs L))) := by
  have hs : (match (generalizing := false) ast with | .inl i :: st => some (x_swt u i, als, st, b, h) | _ => none) = some c' := hst
  split at hs
  rotate_left
  · cases hs
  rename_i i st
  cases hs
  have C : (match xsw[u]? with
      | some ((d, lo, hi, offs, len), dt, ts) => decide (decode (x_by y) pc = .ok (.tableswitch d lo hi offs, len)) && decide ((x_tp (x_cd y) dt : Int) = pc + d) && decide (offs.size = ts.length) && decide ((ts.length : Int) = hi - lo + 1) && (List.range ts.length).all (fun i => decide ((x_tp (x_cd y) (ts.getD i 0) : Int) = pc + offs.getD i 0))
      | none => false) = true := C
  cases hq : xsw[u]? with
  | none => rw [hq] at C; cases C
  | some q =>
    obtain ⟨⟨d, lo, hi, offs, len⟩, dt, ts⟩ := q
    rw [hq] at C
    simp only [Bool.and_eq_true, decide_eq_true_eq] at C
    obtain ⟨⟨⟨⟨hd, c1⟩, c2⟩, c3⟩, c4⟩ := C
    obtain ⟨hy, hx, hb, hml, hown, hts, -⟩ := F
    have ho := S.2.2.2.2.1
    have oi : x_in32 i := x_hd ho
    have K : W p l e R s m args below meth c H locs cells slots Q (F0 m (x_pc y (x_swt u i)) ls (st.map (x_conc bs L))) := kk L H locs ls cells slots (x_ext_rf L) (S.stk (x_tls ho))
    have ex : x_swt u i = if i < lo ∨ hi < i then dt else ts.getD (i - lo).toNat 0 := by
      unfold x_swt
      rw [hq]
    rw [ex] at K
    by_cases q : i < lo ∨ hi < i
    · rw [if_pos q] at K
      exact lv_tableOut hx hb hd (by rw [x_toInt oi]; exact q) c1.symm K
    · rw [if_neg q] at K
      have hlt : (i - lo).toNat < ts.length := by omega
      have c5 := of_decide_eq_true (List.all_eq_true.mp c4 (i - lo).toNat (List.mem_range.mpr hlt))
      have hz : offs[(i - lo).toNat]? = some (offs.getD (i - lo).toNat 0) := by
        rw [Array.getD_eq_getD_getElem?, Array.getElem?_eq_getElem (by omega)]
        rfl
      exact lv_tableIn hx hb hd (by rw [x_toInt oi]; omega) (by rw [x_toInt oi]; omega) (by rw [x_toInt oi]; exact hz) c5.symm K

theorem x_s54 (F : x_Fr p R s m args meth c D cy A y) (C : x_Ck y k 54 a t u pc) (S : x_St s D cy A bs y CC SS L h H locs ls als ast b cells slots) (hscr : x_rk y = 8 → x_Scr s A bs h) (hst : x_stp (54, a, t, u, pc) k als ast b h = some c') (kk : x_K p l e R s m args below meth c Q D cy A bs y CC SS L c') : W p l e R s m args below meth c H locs cells slots Q (F0 m pc ls (ast.map (x_conc bs L))) := by
  have C : (x_D ((x_by y).data.toList.drop pc) pc (x_pc y (k + 1)) .iaload 1 && decide (x_rk y = 8)) = true := C
  simp only [Bool.and_eq_true, decide_eq_true_eq] at C
  obtain ⟨C, hrk⟩ := C
  have hs : (match (generalizing := false) ast with | .inl j :: .inr r :: st => if r = -2 ∧ 0 ≤ j ∧ j < h.2.2 (-2) (-1) then some (k + 1, als, .inl (h.2.2 (-2) j) :: st, b, h) else none | _ => none) = some c' := hst
  split at hs
  rotate_left
  · cases hs
  rename_i j r st
  split at hs
  rotate_left
  · cases hs
  rename_i hg
  cases hs
  obtain ⟨hr, h0, h1⟩ := hg
  subst hr
  obtain ⟨hy, hx, hb, hml, hown, hts, -⟩ := F
  obtain ⟨hd, hp⟩ := x_D_ok C
  have ho := S.2.2.2.2.1
  have oj : x_in32 j := x_hd ho
  obtain ⟨N, xs, hX, hbl, hbA, hv, hN, hN2⟩ := hscr hrk
  rw [hN] at h1
  have hj : (j.toNat : Int) = j := Int.toNat_of_nonneg h0
  have hv2 : h.2.2 (-2) j = (xs j.toNat).toInt := by
    have := hv j.toNat (by omega)
    rw [hj] at this
    exact this
  have K : W p l e R s m args below meth c H locs cells slots Q (F0 m (x_pc y (k + 1)) ls (.int (Int32.ofInt (h.2.2 (-2) j)) :: st.map (x_conc bs L))) := kk L H locs ls cells slots (x_ext_rf L) (S.stk (x_cons (show x_okv h.1 (.inl (h.2.2 (-2) j)) from S.1.2.1 _ _) (x_tls (x_tls ho))))
  rw [hv2, x_of, hp] at K
  show W p l e R s m args below meth c H locs cells slots Q (F0 m pc ls (.int (Int32.ofInt j) :: .ref bs :: st.map (x_conc bs L)))
  refine va_sld hx hb hX hbl hbA S.2.1 (by have := x_vpin oj h0 h1; simpa using this) hd ?_
  rw [x_clamp oj]
  exact K

theorem x_s55 (F : x_Fr p R s m args meth c D cy A y) (C : x_Ck y k 55 a t u pc) (S : x_St s D cy A bs y CC SS L h H locs ls als ast b cells slots) (hscr : x_rk y = 8 → x_Scr s A bs h) (hst : x_stp (55, a, t, u, pc) k als ast b h = some c') (kk : x_K p l e R s m args below meth c Q D cy A bs y CC SS L c') : W p l e R s m args below meth c H locs cells slots Q (F0 m pc ls (ast.map (x_conc bs L))) := by
  have C : (x_D ((x_by y).data.toList.drop pc) pc (x_pc y (k + 1)) .arraylength 1 && decide (x_rk y = 8)) = true := C
  simp only [Bool.and_eq_true, decide_eq_true_eq] at C
  obtain ⟨C, hrk⟩ := C
  have hs : (match (generalizing := false) ast with | .inr r :: st => if r = -2 then some (k + 1, als, .inl (h.2.2 (-2) (-1)) :: st, b, h) else none | _ => none) = some c' := hst
  split at hs
  rotate_left
  · cases hs
  rename_i r st
  split at hs
  rotate_left
  · cases hs
  rename_i hr
  cases hs
  subst hr
  obtain ⟨hy, hx, hb, hml, hown, hts, -⟩ := F
  obtain ⟨hd, hp⟩ := x_D_ok C
  have ho := S.2.2.2.2.1
  obtain ⟨N, xs, hX, hbl, hbA, hv, hN, hN2⟩ := hscr hrk
  have K : W p l e R s m args below meth c H locs cells slots Q (F0 m (x_pc y (k + 1)) ls (.int (Int32.ofInt (h.2.2 (-2) (-1))) :: st.map (x_conc bs L))) := kk L H locs ls cells slots (x_ext_rf L) (S.stk (x_cons (show x_okv h.1 (.inl (h.2.2 (-2) (-1))) from S.1.2.1 _ _) (x_tls ho)))
  rw [hN, hp] at K
  show W p l e R s m args below meth c H locs cells slots Q (F0 m pc ls (.ref bs :: st.map (x_conc bs L)))
  exact va_slen hx hb hX hbl hbA S.2.1 hd K

end
