/-! new cells, copies of rows -/
theorem x_clr_ne {f : Int → Int → Int} {a v b j : Int} (h : b ≠ a) : x_clr f a v b j = f b j := by
  unfold x_clr
  rw [if_neg h]
theorem x_clr_at {f : Int → Int → Int} {a v j : Int} : x_clr f a v a j = v := by
  unfold x_clr
  rw [if_pos rfl]
def x_nw (h : xH) : xH := (h.1 + 1, x_clr h.2.1 h.1 (-1), x_clr h.2.2 h.1 0)
theorem x_okv_up {z : Int} {v : xV} (h : x_okv z v) : x_okv (z + 1) v := by
  cases v with
  | inl i => exact h
  | inr r => exact Int.lt_trans (show r < z from h) (by omega)
theorem x_ent_ext {cy : Nat → ClassId} {L t : List Nat} {h h' : xH} {q : Int} (hM : ∀ j, h'.2.2 q j = h.2.2 q j) (hP : ∀ j, h'.2.1 q j = h.2.1 q j) (hl : ∀ j, h.2.1 q j < L.length) : x_ent cy (L ++ t) h' q = x_ent cy L h q := by
  unfold x_ent x_fs x_fv
  simp only [hM, hP, x_rf_ext (hl _)]
theorem x_ws_new {cy : Nat → ClassId} {L : List Nat} {h : xH} {q : Nat} {e : va_E} (hz : (L.length : Int) = h.1) (hl : ∀ a j, h.2.1 a j < h.1) (he : x_ent cy (L ++ [q]) (x_nw h) h.1 = e) : x_ws cy L h ++ [(q, e)] = x_ws cy (L ++ [q]) (x_nw h) := by
  unfold x_ws
  rw [List.length_append, List.length_singleton, List.range_succ, List.map_append]
  congr 1
  · apply List.map_congr_left
    intro k hk
    have hk := List.mem_range.mp hk
    rw [x_getD_ext hk, x_ent_ext (h := h) (fun j => x_clr_ne (by omega)) (fun j => x_clr_ne (by omega)) (fun j => by rw [hz]; exact hl _ _)]
  · simp only [List.map_cons, List.map_nil]
    rw [hz, he]
    congr 2
    simp [List.getD_eq_getElem?_getD]
section
variable {p : Program} {l : Launch} {e : Env} {R : Room} {s : State} {m : MethodId} {args : Array Value} {below : List Frame} {meth : Method} {c : Code} {Q : State → Prop}
variable {D : va_G} {cy : Nat → ClassId} {A : Nat → Prop} {bs y CC SS : Nat} {L : List Nat} {h : xH} {H : Heap} {locs : List Loc} {ls : Array Slot} {als ast : List xV} {b : xB} {cells slots k : Nat}
variable {a : Int} {t u pc p2 : Nat} {c' : xC}
theorem x_Vw.nw (V : x_Vw D cy A L h H) {q : Nat} {e : va_E} (he : x_ent cy (L ++ [q]) (x_nw h) h.1 = e) {H1 : Heap} (hP : va_P D vwCl (x_ws cy L h ++ [(q, e)]) H1) (hD : va_D A (x_ws cy L h ++ [(q, e)])) : x_Vw D cy A (L ++ [q]) (x_nw h) H1 := by
  rw [x_ws_new V.1 (fun a j => (V.2.2.1 a j).2) he] at hP hD
  have hz : (0 : Int) ≤ h.1 := by rw [← V.1]; omega
  refine ⟨?_, fun a k => ?_, fun a k => ?_, hP, hD⟩
  · rw [List.length_append, List.length_singleton]
    show ((L.length + 1 : Nat) : Int) = h.1 + 1
    rw [← V.1]
    omega
  · show x_in32 (x_clr h.2.2 h.1 0 a k)
    unfold x_clr
    split
    · exact x_zero
    · exact V.2.1 a k
  · show -1 ≤ x_clr h.2.1 h.1 (-1) a k ∧ x_clr h.2.1 h.1 (-1) a k < h.1 + 1
    unfold x_clr
    split
    · omega
    · have := V.2.2.1 a k
      omega
theorem x_St.nw (S : x_St s D cy A bs y CC SS L h H locs ls als ast b cells slots) {q n : Nat} {H' : Heap} {locs' : List Loc} {st : List xV} (V : x_Vw D cy A (L ++ [q]) (x_nw h) H') (hS : va_S A s.heap H' locs') (ho : ∀ v ∈ st, x_okv h.1 v) (h1 : 1 ≤ b.1) (h2 : n ≤ b.2) : x_St s D cy A bs y CC SS (L ++ [q]) (x_nw h) H' locs' ls als (.inr h.1 :: st) (b.1 - 1, b.2 - n) (cells + 1) (slots + n) := by
  refine ⟨V, hS, x_lr_ext S.1.1 ⟨[q], rfl⟩ S.2.2.2.1 S.2.2.1, fun v hv => x_okv_up (S.2.2.2.1 v hv), x_cons (show h.1 < h.1 + 1 by omega) (fun v hv => x_okv_up (ho v hv)), ?_, ?_⟩
  · have := S.2.2.2.2.2.1
    show cells + 1 + (b.1 - 1) = CC
    omega
  · have := S.2.2.2.2.2.2
    show slots + n + (b.2 - n) = SS
    omega
theorem x_conc_nw {bs : Nat} {L : List Nat} {z : Int} {q : Nat} (hz : (L.length : Int) = z) : x_conc bs (L ++ [q]) (.inr z) = .ref q := by
  rw [x_ref (by omega), ← hz]
  simp [List.getD_eq_getElem?_getD]
def x_df (c : Nat) : List Value := (List.range (xnsl c)).map (fun j => if xrf c j = true then .null else .int 0)

theorem x_s35 (F : x_Fr p R s m args meth c D cy A y) (C : x_Ck y k 35 a t u pc) (S : x_St s D cy A bs y CC SS L h H locs ls als ast b cells slots) (hCS : CC ≤ R.cells ∧ SS ≤ R.slots) (hst : x_stp (35, a, t, u, pc) k als ast b h = some c') (kk : x_K p l e R s m args below meth c Q D cy A bs y CC SS L c') : W p l e R s m args below meth c H locs cells slots Q (F0 m pc ls (ast.map (x_conc bs L))) := by
  have hs : (if x_kd h.1 = t ∧ t < 8 ∧ 1 ≤ b.1 ∧ xnsl t ≤ b.2 then some (k + 1, als, .inr h.1 :: ast, (b.1 - 1, b.2 - xnsl t), x_nw h) else none) = some c' := hst
  split at hs
  rotate_left
  · cases hs
  rename_i hg
  cases hs
  obtain ⟨hkd, ht8, hb1, hb2⟩ := hg
  have C : (match xcl[u]? with
      | some (pl, o, ix, cn) => decide (o = (x_nm y).cls) && decide (t < 8) && decide (cn = (x_q t).1) && x_D ((x_by y).data.toList.drop pc) pc (x_pc y (k + 1)) (.new ix) 3
      | none => false) = true := C
  cases hq : xcl[u]? with
  | none => rw [hq] at C; cases C
  | some q =>
    obtain ⟨pl, o, ix, cn⟩ := q
    rw [hq] at C
    simp only [Bool.and_eq_true, decide_eq_true_eq] at C
    obtain ⟨⟨⟨rfl, -⟩, rfl⟩, hD⟩ := C
    obtain ⟨hd, hp⟩ := x_D_ok hD
    obtain ⟨hy, hx, hb, hml, hown, hts, hinit, hK, hAO, hfr, hlo, hA⟩ := F
    have hts2 : ∀ w ∈ lw_tbl.filter goodWord, w.before args s = true := fun w hw => hts w (List.mem_filter.mp hw).1 (List.mem_filter.mp hw).2
    obtain ⟨V, hS, -⟩ := id S
    have hw : x_wd pl (.classLink (x_nm y).cls ix (x_q t).1) = true := List.all_eq_true.mp x_clok _ (List.mem_of_getElem? hq)
    have hio := List.all_eq_true.mp x_inok t (List.mem_range.mpr ht8)
    simp only [Bool.and_eq_true] at hio
    obtain ⟨q1, q2, q3, q4⟩ := x_cls ht8
    have hcs := S.2.2.2.2.2
    refine va_new hx hb hts2 (fun w hw => List.mem_filter.mpr (q2 w hw)) (x_ty t) q3 hown (hts _ (x_wd_ok hw) rfl) (hts _ (x_wd_ok hio.1) rfl) (hts _ (x_wd_ok hio.2) rfl) hK V.2.2.2.1 V.2.2.2.2 hS hA q1 (fs := x_df t) ?_ (by omega) (by omega) hd fun q H1 g1 g2 g3 => ?_
    · intro j hj
      have hti := x_tyI ht8 hj
      have e1 : vp_V (x_df t) j = if xrf t j = true then .null else .int 0 := by
        unfold vp_V x_df
        rw [List.getD_eq_getElem?_getD, List.getElem?_map, List.getElem?_range hj]
        rfl
      rw [e1]
      by_cases r : xrf t j = true
      · rw [if_pos r] at hti ⊢
        rcases hti with ⟨n, hti⟩ | ⟨n, hti⟩ <;> rw [hti] <;> rfl
      · rw [if_neg r] at hti ⊢
        by_cases r2 : ((x_q t).2.1 j).2.2.1 = "I"
        · rw [if_pos r2] at hti
          rw [hti]; rfl
        · rw [if_neg r2] at hti
          rw [hti]; rfl
    · have he : x_ent cy (L ++ [q]) (x_nw h) h.1 = .inr (t, x_df t) := by
        rw [x_ent_obj hkd ht8]
        congr 2
        unfold x_fs x_df
        apply List.map_congr_left
        intro j hj
        unfold x_fv x_nw
        simp only [x_clr_at]
        split
        · rfl
        · rfl
      have K := kk (L ++ [q]) H1 locs ls (cells + 1) (slots + xnsl t) ⟨[q], rfl⟩ (S.nw (V.nw he g1 g2) g3 S.2.2.2.2.1 hb1 hb2)
      refine W.eq ?_ K
      show F0 m (pc + 3) ls _ = F0 m (x_pc y (k + 1)) ls (x_conc bs (L ++ [q]) (.inr h.1) :: ast.map (x_conc bs (L ++ [q])))
      rw [hp, x_conc_nw V.1, x_map_ext V.1 ⟨[q], rfl⟩ S.2.2.2.2.1]

theorem x_s36 (F : x_Fr p R s m args meth c D cy A y) (C : x_Ck y k 36 a t u pc) (S : x_St s D cy A bs y CC SS L h H locs ls als ast b cells slots) (hCS : CC ≤ R.cells ∧ SS ≤ R.slots) (hst : x_stp (36, a, t, u, pc) k als ast b h = some c') (kk : x_K p l e R s m args below meth c Q D cy A bs y CC SS L c') : W p l e R s m args below meth c H locs cells slots Q (F0 m pc ls (ast.map (x_conc bs L))) := by
  have C : x_D ((x_by y).data.toList.drop pc) pc (x_pc y (k + 1)) (.newarray .int) 2 = true := C
  have hs : (match (generalizing := false) ast with | .inl n :: st => if x_kd h.1 = 8 ∧ x_ln h.1 = n ∧ 0 ≤ n ∧ n ≤ 10000 ∧ 1 ≤ b.1 ∧ n.toNat ≤ b.2 then some (k + 1, als, .inr h.1 :: st, (b.1 - 1, b.2 - n.toNat), x_nw h) else none | _ => none) = some c' := hst
  split at hs
  rotate_left
  · cases hs
  rename_i n st
  split at hs
  rotate_left
  · cases hs
  rename_i hg
  cases hs
  obtain ⟨hkd, hln, hn0, hn1, hb1, hb2⟩ := hg
  obtain ⟨hy, hx, hb, hml, hown, hts, hinit, hK, hAO, hfr, hlo, hA⟩ := F
  have hts2 : ∀ w ∈ lw_tbl.filter goodWord, w.before args s = true := fun w hw => hts w (List.mem_filter.mp hw).1 (List.mem_filter.mp hw).2
  obtain ⟨V, hS, -⟩ := id S
  obtain ⟨hd, hp⟩ := x_D_ok C
  have ho := S.2.2.2.2.1
  have on : x_in32 n := x_hd ho
  have hcs := S.2.2.2.2.2
  have J := x_jdk
  simp only [Bool.and_eq_true] at J
  have hW := fun (n : Nat) (w : Cond) (hn : x_wd n w = true) (hg : goodWord w = true) => hts w (x_wd_ok hn) hg
  show W p l e R s m args below meth c H locs cells slots Q (F0 m pc ls (.int (Int32.ofInt n) :: st.map (x_conc bs L)))
  refine va_newa (atype := .int) (ty := .int) hx hb (hW xp_ai _ J.1.2 rfl) rfl hK V.2.2.2.1 V.2.2.2.2 hS hA (N' := n.toNat) (a0 := (n.toNat, .inl (fun _ => 0))) (fun cA => rfl) (by rw [← x_of0, x_lt on x_zero]; omega) (x_clamp on) (by simp [componentBytes]; omega) (by omega) (by omega) hd fun q cA H1 g0 g1 g2 g3 => ?_
  have ecA : cA = cy 8 := by
    have a1 := (g0.2 6 (cA, .int) rfl).2
    have a2 := (hK.2 0 (cy 8, .int) rfl).2
    exact Option.some.inj ((show s.vm.findClass _ = some cA from a1).symm.trans (show s.vm.findClass _ = some (cy 8) from a2))
  subst ecA
  have he : x_ent cy (L ++ [q]) (x_nw h) h.1 = .inl (cy 8, n.toNat, .inl (fun _ => 0)) := by
    rw [x_ent_int hkd (by decide) (by decide), hln]
    congr 4
    funext i
    show Int32.ofInt (x_clr h.2.2 h.1 0 h.1 i) = _
    rw [x_clr_at]
    rfl
  have K := kk (L ++ [q]) H1 locs ls (cells + 1) (slots + n.toNat) ⟨[q], rfl⟩ (S.nw (V.nw he g1 g2) g3 (x_tls ho) hb1 hb2)
  refine W.eq ?_ K
  show F0 m (pc + 2) ls _ = F0 m (x_pc y (k + 1)) ls (x_conc bs (L ++ [q]) (.inr h.1) :: st.map (x_conc bs (L ++ [q])))
  rw [hp, x_conc_nw V.1, x_map_ext V.1 ⟨[q], rfl⟩ (x_tls ho)]

theorem x_s37 (F : x_Fr p R s m args meth c D cy A y) (C : x_Ck y k 37 a t u pc) (S : x_St s D cy A bs y CC SS L h H locs ls als ast b cells slots) (hCS : CC ≤ R.cells ∧ SS ≤ R.slots) (hst : x_stp (37, a, t, u, pc) k als ast b h = some c') (kk : x_K p l e R s m args below meth c Q D cy A bs y CC SS L c') : W p l e R s m args below meth c H locs cells slots Q (F0 m pc ls (ast.map (x_conc bs L))) := by
  have C : x_D ((x_by y).data.toList.drop pc) pc (x_pc y (k + 1)) (.newarray .boolean) 2 = true := C
  have hs : (match (generalizing := false) ast with | .inl n :: st => if x_kd h.1 = 9 ∧ x_ln h.1 = n ∧ 0 ≤ n ∧ n ≤ 10000 ∧ 1 ≤ b.1 ∧ n.toNat ≤ b.2 then some (k + 1, als, .inr h.1 :: st, (b.1 - 1, b.2 - n.toNat), x_nw h) else none | _ => none) = some c' := hst
  split at hs
  rotate_left
  · cases hs
  rename_i n st
  split at hs
  rotate_left
  · cases hs
  rename_i hg
  cases hs
  obtain ⟨hkd, hln, hn0, hn1, hb1, hb2⟩ := hg
  obtain ⟨hy, hx, hb, hml, hown, hts, hinit, hK, hAO, hfr, hlo, hA⟩ := F
  have hts2 : ∀ w ∈ lw_tbl.filter goodWord, w.before args s = true := fun w hw => hts w (List.mem_filter.mp hw).1 (List.mem_filter.mp hw).2
  obtain ⟨V, hS, -⟩ := id S
  obtain ⟨hd, hp⟩ := x_D_ok C
  have ho := S.2.2.2.2.1
  have on : x_in32 n := x_hd ho
  have hcs := S.2.2.2.2.2
  have J := x_jdk
  simp only [Bool.and_eq_true] at J
  have hW := fun (n : Nat) (w : Cond) (hn : x_wd n w = true) (hg : goodWord w = true) => hts w (x_wd_ok hn) hg
  show W p l e R s m args below meth c H locs cells slots Q (F0 m pc ls (.int (Int32.ofInt n) :: st.map (x_conc bs L)))
  refine va_newa (atype := .boolean) (ty := .boolean) hx hb (hW xp_ab _ J.2 rfl) rfl hK V.2.2.2.1 V.2.2.2.2 hS hA (N' := n.toNat) (a0 := (n.toNat, .inl (fun _ => 0))) (fun cA => rfl) (by rw [← x_of0, x_lt on x_zero]; omega) (x_clamp on) (by simp [componentBytes]; omega) (by omega) (by omega) hd fun q cA H1 g0 g1 g2 g3 => ?_
  have ecA : cA = cy 9 := by
    have a1 := (g0.2 6 (cA, .boolean) rfl).2
    have a2 := (hK.2 1 (cy 9, .boolean) rfl).2
    exact Option.some.inj ((show s.vm.findClass _ = some cA from a1).symm.trans (show s.vm.findClass _ = some (cy 9) from a2))
  subst ecA
  have he : x_ent cy (L ++ [q]) (x_nw h) h.1 = .inl (cy 9, n.toNat, .inl (fun _ => 0)) := by
    rw [x_ent_int hkd (by decide) (by decide), hln]
    congr 4
    funext i
    show Int32.ofInt (x_clr h.2.2 h.1 0 h.1 i) = _
    rw [x_clr_at]
    rfl
  have K := kk (L ++ [q]) H1 locs ls (cells + 1) (slots + n.toNat) ⟨[q], rfl⟩ (S.nw (V.nw he g1 g2) g3 (x_tls ho) hb1 hb2)
  refine W.eq ?_ K
  show F0 m (pc + 2) ls _ = F0 m (x_pc y (k + 1)) ls (x_conc bs (L ++ [q]) (.inr h.1) :: st.map (x_conc bs (L ++ [q])))
  rw [hp, x_conc_nw V.1, x_map_ext V.1 ⟨[q], rfl⟩ (x_tls ho)]

theorem x_s38 (F : x_Fr p R s m args meth c D cy A y) (C : x_Ck y k 38 a t u pc) (S : x_St s D cy A bs y CC SS L h H locs ls als ast b cells slots) (hCS : CC ≤ R.cells ∧ SS ≤ R.slots) (hst : x_stp (38, a, t, u, pc) k als ast b h = some c') (kk : x_K p l e R s m args below meth c Q D cy A bs y CC SS L c') : W p l e R s m args below meth c H locs cells slots Q (F0 m pc ls (ast.map (x_conc bs L))) := by
  have hs : (match (generalizing := false) ast with | .inl n :: st => if x_kd h.1 = t ∧ 10 ≤ t ∧ t < 14 ∧ x_ln h.1 = n ∧ 0 ≤ n ∧ n ≤ 10000 ∧ 1 ≤ b.1 ∧ n.toNat ≤ b.2 then some (k + 1, als, .inr h.1 :: st, (b.1 - 1, b.2 - n.toNat), x_nw h) else none | _ => none) = some c' := hst
  split at hs
  rotate_left
  · cases hs
  rename_i n st
  split at hs
  rotate_left
  · cases hs
  rename_i hg
  cases hs
  obtain ⟨hkd, ht1, ht2, hln, hn0, hn1, hb1, hb2⟩ := hg
  have C : (match xcl[u]? with
      | some (pl, o, ix, cn) => decide (o = (x_nm y).cls) && decide (10 ≤ t) && decide (t < 14) && decide (cn = ["WheelStands$Cart", "WheelStands$Stand", "WheelStands$Town", "WheelStands$Wheel"].getD (t - 10) "") && x_D ((x_by y).data.toList.drop pc) pc (x_pc y (k + 1)) (.anewarray ix) 3
      | none => false) = true := C
  cases hq : xcl[u]? with
  | none => rw [hq] at C; cases C
  | some q =>
    obtain ⟨pl, o, ix, cn⟩ := q
    rw [hq] at C
    simp only [Bool.and_eq_true, decide_eq_true_eq] at C
    obtain ⟨⟨⟨⟨rfl, -⟩, -⟩, hcn⟩, hD⟩ := C
    obtain ⟨hd, hp⟩ := x_D_ok hD
    obtain ⟨hy, hx, hb, hml, hown, hts, hinit, hK, hAO, hfr, hlo, hA⟩ := F
    have hts2 : ∀ w ∈ lw_tbl.filter goodWord, w.before args s = true := fun w hw => hts w (List.mem_filter.mp hw).1 (List.mem_filter.mp hw).2
    obtain ⟨V, hS, -⟩ := id S
    have hw : x_wd pl (.classLink (x_nm y).cls ix cn) = true := List.all_eq_true.mp x_clok _ (List.mem_of_getElem? hq)
    obtain ⟨t1, -, -, t4⟩ := x_tysR (cy := cy) ht1 ht2
    rw [← hcn] at t1 t4
    have ho := S.2.2.2.2.1
    have on : x_in32 n := x_hd ho
    have hcs := S.2.2.2.2.2
    show W p l e R s m args below meth c H locs cells slots Q (F0 m pc ls (.int (Int32.ofInt n) :: st.map (x_conc bs L)))
    refine va_newq hx hb hown (hts _ (x_wd_ok hw) rfl) (hAO cn t4) hK V.2.2.2.1 V.2.2.2.2 hS hA (N' := n.toNat) (by rw [← x_of0, x_lt on x_zero]; omega) (x_clamp on) (by omega) (by omega) (by omega) hd fun q cA H1 g0 g1 g2 g3 => ?_
    have ecA : cA = cy t := by
      obtain ⟨_, _, _, _, _, a1⟩ := (g0.2 6 (cA, .object cn) rfl).2
      obtain ⟨_, _, _, _, _, a2⟩ := (hK.2 (t - 8) (cy t, .object cn) t1).2
      exact Option.some.inj (a1.symm.trans a2)
    subst ecA
    have he : x_ent cy (L ++ [q]) (x_nw h) h.1 = .inl (cy t, n.toNat, .inr (.inr (.inr (.inr (fun _ => none))))) := by
      rw [x_ent_ref hkd (by omega), hln]
      congr 7
      funext i
      show x_rf _ (x_clr h.2.1 h.1 (-1) h.1 i) = _
      rw [x_clr_at]
      rfl
    have K := kk (L ++ [q]) H1 locs ls (cells + 1) (slots + n.toNat) ⟨[q], rfl⟩ (S.nw (V.nw he g1 g2) g3 (x_tls ho) hb1 hb2)
    refine W.eq ?_ K
    show F0 m (pc + 3) ls _ = F0 m (x_pc y (k + 1)) ls (x_conc bs (L ++ [q]) (.inr h.1) :: st.map (x_conc bs (L ++ [q])))
    rw [hp, x_conc_nw V.1, x_map_ext V.1 ⟨[q], rfl⟩ (x_tls ho)]

theorem x_s46 (F : x_Fr p R s m args meth c D cy A y) (C : x_Ck y k 46 a t u pc) (S : x_St s D cy A bs y CC SS L h H locs ls als ast b cells slots) (hst : x_stp (46, a, t, u, pc) k als ast b h = some c') (kk : x_K p l e R s m args below meth c Q D cy A bs y CC SS L c') : W p l e R s m args below meth c H locs cells slots Q (F0 m pc ls (ast.map (x_conc bs L))) := by
  have C : (x_wd u (.methodLink (x_nm y).cls t arraycopyName) && x_D ((x_by y).data.toList.drop pc) pc (x_pc y (k + 1)) (.invokestatic t) 3 && decide (1 ≤ x_dp y) && decide (40 ≤ x_lc y)) = true := C
  simp only [Bool.and_eq_true, decide_eq_true_eq] at C
  obtain ⟨⟨⟨Cw, C⟩, r1⟩, r2⟩ := C
  have hs : (match (generalizing := false) ast with | .inl n :: .inl dp :: .inr a :: .inl sp :: .inr a0 :: st => if x_ok h.1 a 8 ∧ x_ok h.1 a0 8 ∧ 0 ≤ sp ∧ 0 ≤ dp ∧ 0 ≤ n ∧ sp + n ≤ x_ln a0 ∧ dp + n ≤ x_ln a ∧ st.length ≤ 8 then some (k + 1, als, st, b, (h.1, h.2.1, x_cp h.2.2 a0 sp a dp n)) else none | _ => none) = some c' := hst
  split at hs
  rotate_left
  · cases hs
  rename_i n dp r sp r0 st
  split at hs
  rotate_left
  · cases hs
  rename_i hg
  cases hs
  obtain ⟨hy, hx, hb, hml, hown, hts, hinit, hK, hAO, hfr, hlo, hA⟩ := F
  have hts2 : ∀ w ∈ lw_tbl.filter goodWord, w.before args s = true := fun w hw => hts w (List.mem_filter.mp hw).1 (List.mem_filter.mp hw).2
  obtain ⟨V, hS, -⟩ := id S
  obtain ⟨hk, hk0, hsp, hdp, hn, hs0, hs1, h8⟩ := hg
  obtain ⟨h0, h1, hkd⟩ := x_ok_ok hk
  obtain ⟨h00, h01, hkd0⟩ := x_ok_ok hk0
  obtain ⟨hd, hp⟩ := x_D_ok C
  have hl : r < L.length := by rw [V.1]; exact h1
  have hl0 : r0 < L.length := by rw [V.1]; exact h01
  have ho := S.2.2.2.2.1
  have on : x_in32 n := x_hd ho
  have od : x_in32 dp := x_hd (x_tls ho)
  have os : x_in32 sp := x_hd (x_tls (x_tls (x_tls ho)))
  have J := x_jdk
  simp only [Bool.and_eq_true] at J
  have hW := fun (n : Nat) (w : Cond) (hn : x_wd n w = true) (hg : goodWord w = true) => hts w (x_wd_ok hn) hg
  have he : x_ent cy L (h.1, h.2.1, x_cp h.2.2 r0 sp r dp n) r = .inl (cy 8, (x_ln r).toNat, .inl (va_cpy (fun i => Int32.ofInt (h.2.2 r0 i)) (fun i => Int32.ofInt (h.2.2 r i)) (Int32.ofInt sp).toNatClampNeg (Int32.ofInt dp).toNatClampNeg (Int32.ofInt n).toNatClampNeg)) := by
    rw [x_ent_int hkd (by decide) (by decide)]
    congr 4
    funext i
    rw [x_clamp on, x_clamp od, x_clamp os]
    show Int32.ofInt (x_cp h.2.2 r0 sp r dp n r i) = _
    unfold va_cpy x_cp
    by_cases q : dp.toNat ≤ i ∧ i < dp.toNat + n.toNat
    · rw [if_pos q, if_pos ⟨rfl, by omega, by omega⟩]
      have e : sp + ((i : Int) - dp) = ((sp.toNat + (i - dp.toNat) : Nat) : Int) := by omega
      rw [e]
    · rw [if_neg q, if_neg (fun z => q (by omega))]
  show W p l e R s m args below meth c H locs cells slots Q (F0 m pc ls (.int (Int32.ofInt n) :: .int (Int32.ofInt dp) :: x_conc bs L (.inr r) :: .int (Int32.ofInt sp) :: x_conc bs L (.inr r0) :: st.map (x_conc bs L)))
  rw [x_ref h0, x_ref h00]
  refine va_copyi hx hb (by rw [hml, S.2.2.1.1]) hown (hW u _ Cw rfl) (hW xp_an _ (by simp [J]) rfl) (hW xp_as _ (by simp [J]) rfl) (hW xp_si _ (by simp [J]) rfl) hK V.2.2.2.1 V.2.2.2.2 hS r0.toNat r.toNat 0 0 ((x_ws_get h00 hl0).trans (by rw [x_ent_int hkd0 (by decide) (by decide)])) ((x_ws_get h0 hl).trans (by rw [x_ent_int hkd (by decide) (by decide)])) rfl rfl rfl (by rw [← x_of0, x_lt os x_zero]; omega) (by rw [← x_of0, x_lt od x_zero]; omega) (by rw [← x_of0, x_lt on x_zero]; omega) (by rw [x_clamp on, x_clamp os]; omega) (by rw [x_clamp on, x_clamp od]; omega) (fun i hi => rfl) (by omega) ?_ hd fun H1 locs1 g1 g2 g3 => ?_
  · rw [x_sum]
    have : nativeFrameWords "java/lang/System" "arraycopy" 5 = 7 := by decide +kernel
    omega
  · have V2 : x_Vw D cy A L (h.1, h.2.1, x_cp h.2.2 r0 sp r dp n) H1 := by
      rw [x_ws_set (h := h) (h' := (h.1, h.2.1, x_cp h.2.2 r0 sp r dp n)) h0 hl he (fun q hq => x_ent_cg (fun i => by show x_cp h.2.2 r0 sp r dp n q i = _; unfold x_cp; rw [if_neg (fun z => hq z.1)]) (fun i => rfl))] at g1 g2
      refine ⟨V.1, fun a k => ?_, V.2.2.1, g1, g2⟩
      show x_in32 (x_cp h.2.2 r0 sp r dp n a k)
      unfold x_cp
      split
      · exact V.2.1 _ _
      · exact V.2.1 a k
    have K := kk L H1 locs1 ls cells slots (x_ext_rf L) (S.hp rfl V2 g3 (x_tls (x_tls (x_tls (x_tls (x_tls ho))))))
    exact W.eq (by show F0 m (pc + 3) ls _ = F0 m (x_pc y (k + 1)) ls _; rw [hp]) K

end
