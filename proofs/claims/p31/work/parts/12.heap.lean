/-! fields, rows, new cells -/
theorem x_cls {c : Nat} (hc : c < 8) : vwCl[c]? = some ((x_q c).1, (x_q c).2.1, xnsl c) ∧ (∀ w ∈ u_ws (x_q c).1 (x_q c).2.1 (xnsl c), w ∈ lw_tbl ∧ goodWord w = true) ∧ (∀ j, j < xnsl c → parseFieldDescriptor ((x_q c).2.1 j).2.2.1 = some (x_ty c j)) ∧ (∀ a, a < xnsl c → ∀ b, b < xnsl c → a ≠ b → ((x_q c).2.1 a).2.1 ≠ ((x_q c).2.1 b).2.1) := by
  have h1 := List.all_eq_true.mp x_tyok c (List.mem_range.mpr hc)
  simp only [Bool.and_eq_true, decide_eq_true_eq] at h1
  have h2 := List.all_eq_true.mp x_layok c (List.mem_range.mpr hc)
  refine ⟨?_, ?_, ?_, ?_⟩
  · have : vwCl[c]? = some (x_q c) := by
      unfold x_q
      rw [List.getD_eq_getElem?_getD, List.getElem?_eq_getElem (show c < vwCl.length from hc)]
      rfl
    rw [this, ← h1.1]
  · intro w hw
    obtain ⟨j, hj, rfl⟩ := List.mem_map.mp hw
    have := List.all_eq_true.mp h2 j hj
    simp only [Bool.and_eq_true] at this
    exact ⟨x_wd_ok this.1, this.2⟩
  · intro j hj
    have := List.all_eq_true.mp h1.2 j (List.mem_range.mpr hj)
    simp only [Bool.and_eq_true, decide_eq_true_eq] at this
    exact this.1
  · rcases (show c = 0 ∨ c = 1 ∨ c = 2 ∨ c = 3 ∨ c = 4 ∨ c = 5 ∨ c = 6 ∨ c = 7 by omega) with rfl | rfl | rfl | rfl | rfl | rfl | rfl | rfl
    · exact nmX0
    · exact nmX1
    · exact nmX2
    · exact nmX3
    · exact nmX4
    · exact nmX5
    · exact nmX6
    · exact nmX7
theorem x_tyI {c j : Nat} (hc : c < 8) (hj : j < xnsl c) : if xrf c j = true then (∃ n, x_ty c j = .object n) ∨ (∃ n, x_ty c j = .array n) else if ((x_q c).2.1 j).2.2.1 = "I" then x_ty c j = .int else x_ty c j = .boolean := by
  have h1 := List.all_eq_true.mp x_tyok c (List.mem_range.mpr hc)
  simp only [Bool.and_eq_true, decide_eq_true_eq] at h1
  have := List.all_eq_true.mp h1.2 j (List.mem_range.mpr hj)
  simp only [Bool.and_eq_true, decide_eq_true_eq] at this
  obtain ⟨-, h3⟩ := this
  by_cases q : xrf c j = true
  · rw [if_pos q] at h3 ⊢
    cases ht : x_ty c j <;> rw [ht] at h3 <;> first | exact Or.inl ⟨_, rfl⟩ | exact Or.inr ⟨_, rfl⟩ | cases h3
  · rw [if_neg q] at h3 ⊢
    by_cases q2 : ((x_q c).2.1 j).2.2.1 = "I"
    · rw [if_pos q2] at h3 ⊢
      exact of_decide_eq_true h3
    · rw [if_neg q2] at h3 ⊢
      exact of_decide_eq_true h3
theorem x_fl_ok {u : Nat} {own : String} {t pc p2 : Nat} {f : Nat → Instr} {sf : List UInt8} (h : x_ckF own t u f sf pc p2 = true) : ∃ (pl ix c j : Nat), t = c * 16 + j ∧ c < 8 ∧ j < xnsl c ∧ j < 16 ∧ x_wd pl (.fieldLink own ix ((x_q c).2.1 j).1 ((x_q c).2.1 j).2.1 ((x_q c).2.1 j).2.2.1) = true ∧ x_D sf pc p2 (f ix) 3 = true := by
  unfold x_ckF at h
  cases hq : xfl[u]? with
  | none => rw [hq] at h; cases h
  | some q =>
    obtain ⟨pl, o, ix, c, j⟩ := q
    rw [hq] at h
    simp only [Bool.and_eq_true, decide_eq_true_eq] at h
    obtain ⟨⟨rfl, ht⟩, hD⟩ := h
    have := List.all_eq_true.mp x_flok _ (List.mem_of_getElem? hq)
    simp only [Bool.and_eq_true, decide_eq_true_eq] at this
    exact ⟨pl, ix, c, j, ht, this.1.1.1, this.1.1.2, this.1.2, this.2, hD⟩
theorem x_ent_cg {cy : Nat → ClassId} {L : List Nat} {h h' : xH} {q : Int} (hM : ∀ j, h'.2.2 q j = h.2.2 q j) (hP : ∀ j, h'.2.1 q j = h.2.1 q j) : x_ent cy L h' q = x_ent cy L h q := by
  unfold x_ent x_fs x_fv
  simp only [hM, hP]
theorem x_up_ne {f : Int → Int → Int} {a k v b j : Int} (h : b ≠ a) : x_up f a k v b j = f b j := by
  unfold x_up
  rw [if_neg (fun q => h q.1)]
theorem x_up_nk {f : Int → Int → Int} {a k v b j : Int} (h : j ≠ k) : x_up f a k v b j = f b j := by
  unfold x_up
  rw [if_neg (fun q => h q.2)]
theorem x_up_self {f : Int → Int → Int} {a k v : Int} : x_up f a k v a k = v := by
  unfold x_up
  rw [if_pos ⟨rfl, rfl⟩]
section
variable {p : Program} {l : Launch} {e : Env} {R : Room} {s : State} {m : MethodId} {args : Array Value} {below : List Frame} {meth : Method} {c : Code} {Q : State → Prop}
variable {D : va_G} {cy : Nat → ClassId} {A : Nat → Prop} {bs y CC SS : Nat} {L : List Nat} {h : xH} {H : Heap} {locs : List Loc} {ls : Array Slot} {als ast : List xV} {b : xB} {cells slots k : Nat}
variable {a : Int} {t u pc p2 : Nat} {c' : xC}
theorem x_Vw.upM (V : x_Vw D cy A L h H) {r j v : Int} (h0 : 0 ≤ r) (h1 : r < h.1) (hv : x_in32 v) {e : va_E} (he : x_ent cy L (h.1, h.2.1, x_up h.2.2 r j v) r = e) {H1 : Heap} (hP : va_P D vwCl ((x_ws cy L h).set r.toNat (L.getD r.toNat 0, e)) H1) (hD : va_D A ((x_ws cy L h).set r.toNat (L.getD r.toNat 0, e))) : x_Vw D cy A L (h.1, h.2.1, x_up h.2.2 r j v) H1 := by
  have hl : r < L.length := by rw [V.1]; exact h1
  rw [x_ws_set (h := h) (h' := (h.1, h.2.1, x_up h.2.2 r j v)) h0 hl he (fun q hq => x_ent_cg (fun i => x_up_ne hq) (fun i => rfl))] at hP hD
  refine ⟨V.1, fun a k => ?_, V.2.2.1, hP, hD⟩
  show x_in32 (x_up h.2.2 r j v a k)
  unfold x_up
  split
  · exact hv
  · exact V.2.1 a k
theorem x_Vw.upP (V : x_Vw D cy A L h H) {r j v : Int} (h0 : 0 ≤ r) (h1 : r < h.1) (hv : -1 ≤ v ∧ v < h.1) {e : va_E} (he : x_ent cy L (h.1, x_up h.2.1 r j v, h.2.2) r = e) {H1 : Heap} (hP : va_P D vwCl ((x_ws cy L h).set r.toNat (L.getD r.toNat 0, e)) H1) (hD : va_D A ((x_ws cy L h).set r.toNat (L.getD r.toNat 0, e))) : x_Vw D cy A L (h.1, x_up h.2.1 r j v, h.2.2) H1 := by
  have hl : r < L.length := by rw [V.1]; exact h1
  rw [x_ws_set (h := h) (h' := (h.1, x_up h.2.1 r j v, h.2.2)) h0 hl he (fun q hq => x_ent_cg (fun i => rfl) (fun i => x_up_ne hq))] at hP hD
  refine ⟨V.1, V.2.1, fun a k => ?_, hP, hD⟩
  show -1 ≤ x_up h.2.1 r j v a k ∧ x_up h.2.1 r j v a k < h.1
  unfold x_up
  split
  · exact hv
  · exact V.2.2.1 a k
/-- the heap and the stack change, the rest stays -/
theorem x_St.hp (S : x_St s D cy A bs y CC SS L h H locs ls als ast b cells slots) {h' : xH} {H' : Heap} {locs' : List Loc} {ast' : List xV} (hz : h'.1 = h.1) (V : x_Vw D cy A L h' H') (hS : va_S A s.heap H' locs') (ho : ∀ v ∈ ast', x_okv h.1 v) : x_St s D cy A bs y CC SS L h' H' locs' ls als ast' b cells slots :=
  ⟨V, hS, S.2.2.1, fun v hv => by rw [hz]; exact S.2.2.2.1 v hv, fun v hv => by rw [hz]; exact ho v hv, S.2.2.2.2.2⟩

theorem x_s24 (F : x_Fr p R s m args meth c D cy A y) (C : x_Ck y k 24 a t u pc) (S : x_St s D cy A bs y CC SS L h H locs ls als ast b cells slots) (hst : x_stp (24, a, t, u, pc) k als ast b h = some c') (kk : x_K p l e R s m args below meth c Q D cy A bs y CC SS L c') : W p l e R s m args below meth c H locs cells slots Q (F0 m pc ls (ast.map (x_conc bs L))) := by
  have C : (x_ckF (x_nm y).cls t u .getfield ((x_by y).data.toList.drop pc) pc (x_pc y (k + 1)) && decide (xrf (t / 16) (t % 16) = false)) = true := C
  simp only [Bool.and_eq_true, decide_eq_true_eq] at C
  obtain ⟨C, hrf⟩ := C
  obtain ⟨pl, ix, cn, j, ht, hc8, hj, hj16, hw, hD⟩ := x_fl_ok C
  have e1 : t / 16 = cn := by omega
  have e2 : t % 16 = j := by omega
  rw [e1, e2] at hrf
  have hs : (match (generalizing := false) ast with | .inr r :: st => if x_ok h.1 r (t / 16) then some (k + 1, als, .inl (h.2.2 r (t % 16 : Nat)) :: st, b, h) else none | _ => none) = some c' := hst
  rw [e1, e2] at hs
  split at hs
  rotate_left
  · cases hs
  rename_i r st
  split at hs
  rotate_left
  · cases hs
  rename_i hk
  cases hs
  obtain ⟨hy, hx, hb, hml, hown, hts, hinit, hK, hAO, hfr, hlo, hA⟩ := F
  have hts2 : ∀ w ∈ lw_tbl.filter goodWord, w.before args s = true := fun w hw => hts w (List.mem_filter.mp hw).1 (List.mem_filter.mp hw).2
  obtain ⟨V, hS, -⟩ := id S
  obtain ⟨h0, h1, hkd⟩ := x_ok_ok hk
  obtain ⟨hd, hp⟩ := x_D_ok hD
  obtain ⟨q1, q2, q3, q4⟩ := x_cls hc8
  have hl : r < L.length := by rw [V.1]; exact h1
  have ho := S.2.2.2.2.1
  have K : W p l e R s m args below meth c H locs cells slots Q (F0 m (x_pc y (k + 1)) ls (.int (Int32.ofInt (h.2.2 r j)) :: st.map (x_conc bs L))) := kk L H locs ls cells slots (x_ext_rf L) (S.stk (x_cons (show x_okv h.1 (.inl (h.2.2 r j)) from V.2.1 r j) (x_tls ho)))
  rw [hp] at K
  have hv : (x_fs L h r cn)[j]? = some (.int (Int32.ofInt (h.2.2 r j))) := by
    rw [x_fs_get hj]
    unfold x_fv
    rw [if_neg (by rw [hrf]; decide)]
  show W p l e R s m args below meth c H locs cells slots Q (F0 m pc ls (x_conc bs L (.inr r) :: st.map (x_conc bs L)))
  rw [x_ref h0]
  exact va_get hx hb hts2 (fun w hw => List.mem_filter.mpr (q2 w hw)) hown hK V.2.2.2.1 r.toNat ((x_ws_get h0 hl).trans (by rw [x_ent_obj hkd hc8])) q1 j hj (hts _ (x_wd_ok hw) rfl) (fun x hx => hx) hv hd K

theorem x_s25 (F : x_Fr p R s m args meth c D cy A y) (C : x_Ck y k 25 a t u pc) (S : x_St s D cy A bs y CC SS L h H locs ls als ast b cells slots) (hst : x_stp (25, a, t, u, pc) k als ast b h = some c') (kk : x_K p l e R s m args below meth c Q D cy A bs y CC SS L c') : W p l e R s m args below meth c H locs cells slots Q (F0 m pc ls (ast.map (x_conc bs L))) := by
  have C : (x_ckF (x_nm y).cls t u .getfield ((x_by y).data.toList.drop pc) pc (x_pc y (k + 1)) && decide (xrf (t / 16) (t % 16) = true)) = true := C
  simp only [Bool.and_eq_true, decide_eq_true_eq] at C
  obtain ⟨C, hrf⟩ := C
  obtain ⟨pl, ix, cn, j, ht, hc8, hj, hj16, hw, hD⟩ := x_fl_ok C
  have e1 : t / 16 = cn := by omega
  have e2 : t % 16 = j := by omega
  rw [e1, e2] at hrf
  have hs : (match (generalizing := false) ast with | .inr r :: st => if x_ok h.1 r (t / 16) then some (k + 1, als, .inr (h.2.1 r (t % 16 : Nat)) :: st, b, h) else none | _ => none) = some c' := hst
  rw [e1, e2] at hs
  split at hs
  rotate_left
  · cases hs
  rename_i r st
  split at hs
  rotate_left
  · cases hs
  rename_i hk
  cases hs
  obtain ⟨hy, hx, hb, hml, hown, hts, hinit, hK, hAO, hfr, hlo, hA⟩ := F
  have hts2 : ∀ w ∈ lw_tbl.filter goodWord, w.before args s = true := fun w hw => hts w (List.mem_filter.mp hw).1 (List.mem_filter.mp hw).2
  obtain ⟨V, hS, -⟩ := id S
  obtain ⟨h0, h1, hkd⟩ := x_ok_ok hk
  obtain ⟨hd, hp⟩ := x_D_ok hD
  obtain ⟨q1, q2, q3, q4⟩ := x_cls hc8
  have hl : r < L.length := by rw [V.1]; exact h1
  have ho := S.2.2.2.2.1
  have K : W p l e R s m args below meth c H locs cells slots Q (F0 m (x_pc y (k + 1)) ls (x_conc bs L (.inr (h.2.1 r j)) :: st.map (x_conc bs L))) := kk L H locs ls cells slots (x_ext_rf L) (S.stk (x_cons (show x_okv h.1 (.inr (h.2.1 r j)) from (V.2.2.1 r j).2) (x_tls ho)))
  have er : x_conc bs L (.inr (h.2.1 r j)) = va_rf (x_rf L (h.2.1 r j)) := if_neg (by have := (V.2.2.1 r j).1; omega)
  rw [er] at K
  rw [hp] at K
  have hv : (x_fs L h r cn)[j]? = some (va_rf (x_rf L (h.2.1 r j))) := by
    rw [x_fs_get hj]
    unfold x_fv
    rw [if_pos hrf]
  show W p l e R s m args below meth c H locs cells slots Q (F0 m pc ls (x_conc bs L (.inr r) :: st.map (x_conc bs L)))
  rw [x_ref h0]
  exact va_get hx hb hts2 (fun w hw => List.mem_filter.mpr (q2 w hw)) hown hK V.2.2.2.1 r.toNat ((x_ws_get h0 hl).trans (by rw [x_ent_obj hkd hc8])) q1 j hj (hts _ (x_wd_ok hw) rfl) (fun x hx => hx) hv hd K

theorem x_s26 (F : x_Fr p R s m args meth c D cy A y) (C : x_Ck y k 26 a t u pc) (S : x_St s D cy A bs y CC SS L h H locs ls als ast b cells slots) (hst : x_stp (26, a, t, u, pc) k als ast b h = some c') (kk : x_K p l e R s m args below meth c Q D cy A bs y CC SS L c') : W p l e R s m args below meth c H locs cells slots Q (F0 m pc ls (ast.map (x_conc bs L))) := by
  have C : (x_ckF (x_nm y).cls t u .putfield ((x_by y).data.toList.drop pc) pc (x_pc y (k + 1)) && decide (xrf (t / 16) (t % 16) = false) && decide (((x_q (t / 16)).2.1 (t % 16)).2.2.1 = "I") && (decide (((x_q (t / 16)).2.1 (t % 16)).2.2.2 = false) || (decide (x_st y = 2) && decide (((x_q (t / 16)).2.1 (t % 16)).1 = (x_nm y).cls)))) = true := C
  simp only [Bool.and_eq_true, Bool.or_eq_true, decide_eq_true_eq] at C
  obtain ⟨⟨⟨C, hrf⟩, hdesc⟩, hfin⟩ := C
  obtain ⟨pl, ix, cn, j, ht, hc8, hj, hj16, hw, hD⟩ := x_fl_ok C
  have e1 : t / 16 = cn := by omega
  have e2 : t % 16 = j := by omega
  rw [e1, e2] at hrf hfin hdesc
  have hs : (match (generalizing := false) ast with | .inl v :: .inr r :: st => if x_ok h.1 r (t / 16) then some (k + 1, als, st, b, (h.1, h.2.1, x_up h.2.2 r (t % 16 : Nat) v)) else none | _ => none) = some c' := hst
  rw [e1, e2] at hs
  split at hs
  rotate_left
  · cases hs
  rename_i v r st
  split at hs
  rotate_left
  · cases hs
  rename_i hk
  cases hs
  obtain ⟨hy, hx, hb, hml, hown, hts, hinit, hK, hAO, hfr, hlo, hA⟩ := F
  have hts2 : ∀ w ∈ lw_tbl.filter goodWord, w.before args s = true := fun w hw => hts w (List.mem_filter.mp hw).1 (List.mem_filter.mp hw).2
  obtain ⟨V, hS, -⟩ := id S
  obtain ⟨h0, h1, hkd⟩ := x_ok_ok hk
  obtain ⟨hd, hp⟩ := x_D_ok hD
  obtain ⟨q1, q2, q3, q4⟩ := x_cls hc8
  have hl : r < L.length := by rw [V.1]; exact h1
  have ho := S.2.2.2.2.1
  have hti := x_tyI hc8 hj
  have hty : narrow (x_ty cn j) (.int (Int32.ofInt v)) = .int (Int32.ofInt v) ∧ fits (x_ty cn j) (.int (Int32.ofInt v)) = true := by
    rw [if_neg (by rw [hrf]; decide), if_pos hdesc] at hti
    rw [hti]
    exact ⟨rfl, rfl⟩
  have hv : x_in32 v := x_hd ho
  have he : x_ent cy L (h.1, h.2.1, x_up h.2.2 r (j) v) r = .inr (cn, (x_fs L h r cn).set j (.int (Int32.ofInt v))) := by
    rw [x_ent_obj hkd hc8, x_fs_set hj (h' := (h.1, h.2.1, x_up h.2.2 r (j) v))]
    · unfold x_fv
      rw [if_neg (by rw [hrf]; decide)]
      show Value.int (Int32.ofInt (x_up h.2.2 r j v r j)) = _
      rw [x_up_self]
    · intro i hi
      unfold x_fv
      show (if _ then va_rf (x_rf L (h.2.1 r i)) else .int (Int32.ofInt (x_up h.2.2 r j v r i))) = _
      rw [x_up_nk (by omega)]
  have key : ∀ (H1 : Heap) (locs1 : List Loc), va_P D vwCl ((x_ws cy L h).set r.toNat (L.getD r.toNat 0, .inr (cn, (x_fs L h r cn).set j (.int (Int32.ofInt v))))) H1 → va_D A ((x_ws cy L h).set r.toNat (L.getD r.toNat 0, .inr (cn, (x_fs L h r cn).set j (.int (Int32.ofInt v))))) → va_S A s.heap H1 locs1 → W p l e R s m args below meth c H1 locs1 cells slots Q (F0 m (pc + 3) ls (st.map (x_conc bs L))) := fun H1 locs1 g1 g2 g3 => by
    have K := kk L H1 locs1 ls cells slots (x_ext_rf L) (S.hp rfl (V.upM h0 h1 hv he g1 g2) g3 (x_tls (x_tls ho)))
    exact W.eq (by show F0 m (pc + 3) ls _ = F0 m (x_pc y (k + 1)) ls _; rw [hp]) K
  show W p l e R s m args below meth c H locs cells slots Q (F0 m pc ls (x_conc bs L (.inl v) :: x_conc bs L (.inr r) :: st.map (x_conc bs L)))
  rw [x_ref h0]
  show W p l e R s m args below meth c H locs cells slots Q (F0 m pc ls (.int (Int32.ofInt v) :: .ref (L.getD r.toNat 0) :: st.map (x_conc bs L)))
  rcases hfin with hfin | ⟨hst2, hdecl⟩
  · exact va_put hx hb hts2 (fun w hw => List.mem_filter.mpr (q2 w hw)) (x_ty cn) q3 q4 hown hK V.2.2.2.1 V.2.2.2.2 hS r.toNat ((x_ws_get h0 hl).trans (by rw [x_ent_obj hkd hc8])) q1 j hj (hts _ (x_wd_ok hw) rfl) (fun x hx => hx) hfin (q3 j hj) hty.1 hty.2 (by simp [x_fs]; exact hj) hd key
  · by_cases hfn : ((x_q cn).2.1 j).2.2.2 = false
    · exact va_put hx hb hts2 (fun w hw => List.mem_filter.mpr (q2 w hw)) (x_ty cn) q3 q4 hown hK V.2.2.2.1 V.2.2.2.2 hS r.toNat ((x_ws_get h0 hl).trans (by rw [x_ent_obj hkd hc8])) q1 j hj (hts _ (x_wd_ok hw) rfl) (fun x hx => hx) hfn (q3 j hj) hty.1 hty.2 (by simp [x_fs]; exact hj) hd key
    · exact va_putF hx hb hts2 (fun w hw => List.mem_filter.mpr (q2 w hw)) (x_ty cn) q3 q4 hown hK V.2.2.2.1 V.2.2.2.2 hS r.toNat ((x_ws_get h0 hl).trans (by rw [x_ent_obj hkd hc8])) q1 j hj (hts _ (x_wd_ok hw) rfl) (fun x hx => hx) (by simpa using hfn) (hinit hst2) hdecl (q3 j hj) hty.1 hty.2 (by simp [x_fs]; exact hj) hd key

theorem x_s27 (F : x_Fr p R s m args meth c D cy A y) (C : x_Ck y k 27 a t u pc) (S : x_St s D cy A bs y CC SS L h H locs ls als ast b cells slots) (hst : x_stp (27, a, t, u, pc) k als ast b h = some c') (kk : x_K p l e R s m args below meth c Q D cy A bs y CC SS L c') : W p l e R s m args below meth c H locs cells slots Q (F0 m pc ls (ast.map (x_conc bs L))) := by
  have C : (x_ckF (x_nm y).cls t u .putfield ((x_by y).data.toList.drop pc) pc (x_pc y (k + 1)) && decide (xrf (t / 16) (t % 16) = true) && (decide (((x_q (t / 16)).2.1 (t % 16)).2.2.2 = false) || (decide (x_st y = 2) && decide (((x_q (t / 16)).2.1 (t % 16)).1 = (x_nm y).cls)))) = true := C
  simp only [Bool.and_eq_true, Bool.or_eq_true, decide_eq_true_eq] at C
  obtain ⟨⟨C, hrf⟩, hfin⟩ := C
  obtain ⟨pl, ix, cn, j, ht, hc8, hj, hj16, hw, hD⟩ := x_fl_ok C
  have e1 : t / 16 = cn := by omega
  have e2 : t % 16 = j := by omega
  rw [e1, e2] at hrf hfin
  have hs : (match (generalizing := false) ast with | .inr v :: .inr r :: st => if x_ok h.1 r (t / 16) ∧ -1 ≤ v then some (k + 1, als, st, b, (h.1, x_up h.2.1 r (t % 16 : Nat) v, h.2.2)) else none | _ => none) = some c' := hst
  rw [e1, e2] at hs
  split at hs
  rotate_left
  · cases hs
  rename_i v r st
  split at hs
  rotate_left
  · cases hs
  rename_i hk
  cases hs
  obtain ⟨hy, hx, hb, hml, hown, hts, hinit, hK, hAO, hfr, hlo, hA⟩ := F
  have hts2 : ∀ w ∈ lw_tbl.filter goodWord, w.before args s = true := fun w hw => hts w (List.mem_filter.mp hw).1 (List.mem_filter.mp hw).2
  obtain ⟨V, hS, -⟩ := id S
  obtain ⟨h0, h1, hkd⟩ := x_ok_ok hk.1
  obtain ⟨hd, hp⟩ := x_D_ok hD
  obtain ⟨q1, q2, q3, q4⟩ := x_cls hc8
  have hl : r < L.length := by rw [V.1]; exact h1
  have ho := S.2.2.2.2.1
  have hti := x_tyI hc8 hj
  have hty : narrow (x_ty cn j) (va_rf (x_rf L v)) = va_rf (x_rf L v) ∧ fits (x_ty cn j) (va_rf (x_rf L v)) = true := by
    rw [if_pos hrf] at hti
    rcases hti with ⟨n, hti⟩ | ⟨n, hti⟩ <;> rw [hti] <;> cases x_rf L v <;> exact ⟨rfl, rfl⟩
  have hv : -1 ≤ v ∧ v < h.1 := ⟨hk.2, x_hd ho⟩
  have he : x_ent cy L (h.1, x_up h.2.1 r (j) v, h.2.2) r = .inr (cn, (x_fs L h r cn).set j (va_rf (x_rf L v))) := by
    rw [x_ent_obj hkd hc8, x_fs_set hj (h' := (h.1, x_up h.2.1 r (j) v, h.2.2))]
    · unfold x_fv
      rw [if_pos hrf]
      show va_rf (x_rf L (x_up h.2.1 r j v r j)) = _
      rw [x_up_self]
    · intro i hi
      unfold x_fv
      show (if _ then va_rf (x_rf L (x_up h.2.1 r j v r i)) else .int (Int32.ofInt (h.2.2 r i))) = _
      rw [x_up_nk (by omega)]
  have key : ∀ (H1 : Heap) (locs1 : List Loc), va_P D vwCl ((x_ws cy L h).set r.toNat (L.getD r.toNat 0, .inr (cn, (x_fs L h r cn).set j (va_rf (x_rf L v))))) H1 → va_D A ((x_ws cy L h).set r.toNat (L.getD r.toNat 0, .inr (cn, (x_fs L h r cn).set j (va_rf (x_rf L v))))) → va_S A s.heap H1 locs1 → W p l e R s m args below meth c H1 locs1 cells slots Q (F0 m (pc + 3) ls (st.map (x_conc bs L))) := fun H1 locs1 g1 g2 g3 => by
    have K := kk L H1 locs1 ls cells slots (x_ext_rf L) (S.hp rfl (V.upP h0 h1 hv he g1 g2) g3 (x_tls (x_tls ho)))
    exact W.eq (by show F0 m (pc + 3) ls _ = F0 m (x_pc y (k + 1)) ls _; rw [hp]) K
  show W p l e R s m args below meth c H locs cells slots Q (F0 m pc ls (x_conc bs L (.inr v) :: x_conc bs L (.inr r) :: st.map (x_conc bs L)))
  rw [x_ref h0]
  have er : x_conc bs L (.inr v) = va_rf (x_rf L v) := if_neg (by omega)
  rw [er]
  rcases hfin with hfin | ⟨hst2, hdecl⟩
  · exact va_put hx hb hts2 (fun w hw => List.mem_filter.mpr (q2 w hw)) (x_ty cn) q3 q4 hown hK V.2.2.2.1 V.2.2.2.2 hS r.toNat ((x_ws_get h0 hl).trans (by rw [x_ent_obj hkd hc8])) q1 j hj (hts _ (x_wd_ok hw) rfl) (fun x hx => hx) hfin (q3 j hj) hty.1 hty.2 (by simp [x_fs]; exact hj) hd key
  · by_cases hfn : ((x_q cn).2.1 j).2.2.2 = false
    · exact va_put hx hb hts2 (fun w hw => List.mem_filter.mpr (q2 w hw)) (x_ty cn) q3 q4 hown hK V.2.2.2.1 V.2.2.2.2 hS r.toNat ((x_ws_get h0 hl).trans (by rw [x_ent_obj hkd hc8])) q1 j hj (hts _ (x_wd_ok hw) rfl) (fun x hx => hx) hfn (q3 j hj) hty.1 hty.2 (by simp [x_fs]; exact hj) hd key
    · exact va_putF hx hb hts2 (fun w hw => List.mem_filter.mpr (q2 w hw)) (x_ty cn) q3 q4 hown hK V.2.2.2.1 V.2.2.2.2 hS r.toNat ((x_ws_get h0 hl).trans (by rw [x_ent_obj hkd hc8])) q1 j hj (hts _ (x_wd_ok hw) rfl) (fun x hx => hx) (by simpa using hfn) (hinit hst2) hdecl (q3 j hj) hty.1 hty.2 (by simp [x_fs]; exact hj) hd key

theorem x_s32 (F : x_Fr p R s m args meth c D cy A y) (C : x_Ck y k 32 a t u pc) (S : x_St s D cy A bs y CC SS L h H locs ls als ast b cells slots) (hst : x_stp (32, a, t, u, pc) k als ast b h = some c') (kk : x_K p l e R s m args below meth c Q D cy A bs y CC SS L c') : W p l e R s m args below meth c H locs cells slots Q (F0 m pc ls (ast.map (x_conc bs L))) := by
  have C : (x_ckF (x_nm y).cls t u .putfield ((x_by y).data.toList.drop pc) pc (x_pc y (k + 1)) && decide (xrf (t / 16) (t % 16) = false) && decide (((x_q (t / 16)).2.1 (t % 16)).2.2.1 = "Z") && decide (((x_q (t / 16)).2.1 (t % 16)).2.2.2 = false)) = true := C
  simp only [Bool.and_eq_true, Bool.or_eq_true, decide_eq_true_eq] at C
  obtain ⟨⟨⟨C, hrf⟩, hdesc⟩, hfin⟩ := C
  obtain ⟨pl, ix, cn, j, ht, hc8, hj, hj16, hw, hD⟩ := x_fl_ok C
  have e1 : t / 16 = cn := by omega
  have e2 : t % 16 = j := by omega
  rw [e1, e2] at hrf hfin hdesc
  have hs : (match (generalizing := false) ast with | .inl v :: .inr r :: st => if x_ok h.1 r (t / 16) ∧ (v = 0 ∨ v = 1) then some (k + 1, als, st, b, (h.1, h.2.1, x_up h.2.2 r (t % 16 : Nat) v)) else none | _ => none) = some c' := hst
  rw [e1, e2] at hs
  split at hs
  rotate_left
  · cases hs
  rename_i v r st
  split at hs
  rotate_left
  · cases hs
  rename_i hk
  cases hs
  obtain ⟨hy, hx, hb, hml, hown, hts, hinit, hK, hAO, hfr, hlo, hA⟩ := F
  have hts2 : ∀ w ∈ lw_tbl.filter goodWord, w.before args s = true := fun w hw => hts w (List.mem_filter.mp hw).1 (List.mem_filter.mp hw).2
  obtain ⟨V, hS, -⟩ := id S
  obtain ⟨h0, h1, hkd⟩ := x_ok_ok hk.1
  obtain ⟨hd, hp⟩ := x_D_ok hD
  obtain ⟨q1, q2, q3, q4⟩ := x_cls hc8
  have hl : r < L.length := by rw [V.1]; exact h1
  have ho := S.2.2.2.2.1
  have hti := x_tyI hc8 hj
  have hty : narrow (x_ty cn j) (.int (Int32.ofInt v)) = .int (Int32.ofInt v) ∧ fits (x_ty cn j) (.int (Int32.ofInt v)) = true := by
    rw [if_neg (by rw [hrf]; decide), if_neg (by rw [hdesc]; decide)] at hti
    rw [hti]
    rcases hk.2 with rfl | rfl <;> exact ⟨rfl, rfl⟩
  have hv : x_in32 v := x_hd ho
  have he : x_ent cy L (h.1, h.2.1, x_up h.2.2 r (j) v) r = .inr (cn, (x_fs L h r cn).set j (.int (Int32.ofInt v))) := by
    rw [x_ent_obj hkd hc8, x_fs_set hj (h' := (h.1, h.2.1, x_up h.2.2 r (j) v))]
    · unfold x_fv
      rw [if_neg (by rw [hrf]; decide)]
      show Value.int (Int32.ofInt (x_up h.2.2 r j v r j)) = _
      rw [x_up_self]
    · intro i hi
      unfold x_fv
      show (if _ then va_rf (x_rf L (h.2.1 r i)) else .int (Int32.ofInt (x_up h.2.2 r j v r i))) = _
      rw [x_up_nk (by omega)]
  have key : ∀ (H1 : Heap) (locs1 : List Loc), va_P D vwCl ((x_ws cy L h).set r.toNat (L.getD r.toNat 0, .inr (cn, (x_fs L h r cn).set j (.int (Int32.ofInt v))))) H1 → va_D A ((x_ws cy L h).set r.toNat (L.getD r.toNat 0, .inr (cn, (x_fs L h r cn).set j (.int (Int32.ofInt v))))) → va_S A s.heap H1 locs1 → W p l e R s m args below meth c H1 locs1 cells slots Q (F0 m (pc + 3) ls (st.map (x_conc bs L))) := fun H1 locs1 g1 g2 g3 => by
    have K := kk L H1 locs1 ls cells slots (x_ext_rf L) (S.hp rfl (V.upM h0 h1 hv he g1 g2) g3 (x_tls (x_tls ho)))
    exact W.eq (by show F0 m (pc + 3) ls _ = F0 m (x_pc y (k + 1)) ls _; rw [hp]) K
  show W p l e R s m args below meth c H locs cells slots Q (F0 m pc ls (x_conc bs L (.inl v) :: x_conc bs L (.inr r) :: st.map (x_conc bs L)))
  rw [x_ref h0]
  show W p l e R s m args below meth c H locs cells slots Q (F0 m pc ls (.int (Int32.ofInt v) :: .ref (L.getD r.toNat 0) :: st.map (x_conc bs L)))
  exact va_put hx hb hts2 (fun w hw => List.mem_filter.mpr (q2 w hw)) (x_ty cn) q3 q4 hown hK V.2.2.2.1 V.2.2.2.2 hS r.toNat ((x_ws_get h0 hl).trans (by rw [x_ent_obj hkd hc8])) q1 j hj (hts _ (x_wd_ok hw) rfl) (fun x hx => hx) hfin (q3 j hj) hty.1 hty.2 (by simp [x_fs]; exact hj) hd key

theorem x_s28 (F : x_Fr p R s m args meth c D cy A y) (C : x_Ck y k 28 a t u pc) (S : x_St s D cy A bs y CC SS L h H locs ls als ast b cells slots) (hst : x_stp (28, a, t, u, pc) k als ast b h = some c') (kk : x_K p l e R s m args below meth c Q D cy A bs y CC SS L c') : W p l e R s m args below meth c H locs cells slots Q (F0 m pc ls (ast.map (x_conc bs L))) := by
  have C : x_D ((x_by y).data.toList.drop pc) pc (x_pc y (k + 1)) .iaload 1 = true := C
  have hs : (match (generalizing := false) ast with | .inl j :: .inr r :: st => if x_ok h.1 r 8 ∧ 0 ≤ j ∧ j < x_ln r then some (k + 1, als, .inl (h.2.2 r j) :: st, b, h) else none | _ => none) = some c' := hst
  split at hs
  rotate_left
  · cases hs
  rename_i j r st
  split at hs
  rotate_left
  · cases hs
  rename_i hg
  cases hs
  obtain ⟨hy, hx, hb, hml, hown, hts, hinit, hK, hAO, hfr, hlo, hA⟩ := F
  have hts2 : ∀ w ∈ lw_tbl.filter goodWord, w.before args s = true := fun w hw => hts w (List.mem_filter.mp hw).1 (List.mem_filter.mp hw).2
  obtain ⟨V, hS, -⟩ := id S
  obtain ⟨hk, hj0, hj1⟩ := hg
  obtain ⟨h0, h1, hkd⟩ := x_ok_ok hk
  obtain ⟨hd, hp⟩ := x_D_ok C
  have hl : r < L.length := by rw [V.1]; exact h1
  have ho := S.2.2.2.2.1
  have oj : x_in32 j := x_hd ho
  have K : W p l e R s m args below meth c H locs cells slots Q (F0 m (x_pc y (k + 1)) ls (.int (Int32.ofInt (h.2.2 r j)) :: st.map (x_conc bs L))) := kk L H locs ls cells slots (x_ext_rf L) (S.stk (x_cons (show x_okv h.1 (.inl (h.2.2 r j)) from V.2.1 r j) (x_tls (x_tls ho))))
  rw [hp] at K
  show W p l e R s m args below meth c H locs cells slots Q (F0 m pc ls (.int (Int32.ofInt j) :: x_conc bs L (.inr r) :: st.map (x_conc bs L)))
  rw [x_ref h0]
  refine va_iald hx hb hK V.2.2.2.1 r.toNat 0 ((x_ws_get h0 hl).trans (by rw [x_ent_int hkd (by decide) (by decide)])) rfl (x_vpin oj hj0 hj1) hd ?_
  show W p l e R s m args below meth c H locs cells slots Q (F0 m (pc + 1) ls (.int (Int32.ofInt (h.2.2 r ((Int32.ofInt j).toNatClampNeg : Int))) :: _))
  rw [x_clamp oj, Int.toNat_of_nonneg hj0]
  exact K

theorem x_s33 (F : x_Fr p R s m args meth c D cy A y) (C : x_Ck y k 33 a t u pc) (S : x_St s D cy A bs y CC SS L h H locs ls als ast b cells slots) (hst : x_stp (33, a, t, u, pc) k als ast b h = some c') (kk : x_K p l e R s m args below meth c Q D cy A bs y CC SS L c') : W p l e R s m args below meth c H locs cells slots Q (F0 m pc ls (ast.map (x_conc bs L))) := by
  have C : x_D ((x_by y).data.toList.drop pc) pc (x_pc y (k + 1)) .baload 1 = true := C
  have hs : (match (generalizing := false) ast with | .inl j :: .inr r :: st => if x_ok h.1 r 9 ∧ 0 ≤ j ∧ j < x_ln r then some (k + 1, als, .inl (h.2.2 r j) :: st, b, h) else none | _ => none) = some c' := hst
  split at hs
  rotate_left
  · cases hs
  rename_i j r st
  split at hs
  rotate_left
  · cases hs
  rename_i hg
  cases hs
  obtain ⟨hy, hx, hb, hml, hown, hts, hinit, hK, hAO, hfr, hlo, hA⟩ := F
  have hts2 : ∀ w ∈ lw_tbl.filter goodWord, w.before args s = true := fun w hw => hts w (List.mem_filter.mp hw).1 (List.mem_filter.mp hw).2
  obtain ⟨V, hS, -⟩ := id S
  obtain ⟨hk, hj0, hj1⟩ := hg
  obtain ⟨h0, h1, hkd⟩ := x_ok_ok hk
  obtain ⟨hd, hp⟩ := x_D_ok C
  have hl : r < L.length := by rw [V.1]; exact h1
  have ho := S.2.2.2.2.1
  have oj : x_in32 j := x_hd ho
  have K : W p l e R s m args below meth c H locs cells slots Q (F0 m (x_pc y (k + 1)) ls (.int (Int32.ofInt (h.2.2 r j)) :: st.map (x_conc bs L))) := kk L H locs ls cells slots (x_ext_rf L) (S.stk (x_cons (show x_okv h.1 (.inl (h.2.2 r j)) from V.2.1 r j) (x_tls (x_tls ho))))
  rw [hp] at K
  show W p l e R s m args below meth c H locs cells slots Q (F0 m pc ls (.int (Int32.ofInt j) :: x_conc bs L (.inr r) :: st.map (x_conc bs L)))
  rw [x_ref h0]
  refine va_zald hx hb hK V.2.2.2.1 r.toNat 1 ((x_ws_get h0 hl).trans (by rw [x_ent_int hkd (by decide) (by decide)])) rfl (x_vpin oj hj0 hj1) hd ?_
  show W p l e R s m args below meth c H locs cells slots Q (F0 m (pc + 1) ls (.int (Int32.ofInt (h.2.2 r ((Int32.ofInt j).toNatClampNeg : Int))) :: _))
  rw [x_clamp oj, Int.toNat_of_nonneg hj0]
  exact K

theorem x_s29 (F : x_Fr p R s m args meth c D cy A y) (C : x_Ck y k 29 a t u pc) (S : x_St s D cy A bs y CC SS L h H locs ls als ast b cells slots) (hst : x_stp (29, a, t, u, pc) k als ast b h = some c') (kk : x_K p l e R s m args below meth c Q D cy A bs y CC SS L c') : W p l e R s m args below meth c H locs cells slots Q (F0 m pc ls (ast.map (x_conc bs L))) := by
  have C : x_D ((x_by y).data.toList.drop pc) pc (x_pc y (k + 1)) .iastore 1 = true := C
  have hs : (match (generalizing := false) ast with | .inl v :: .inl j :: .inr r :: st => if x_ok h.1 r 8 ∧ 0 ≤ j ∧ j < x_ln r then some (k + 1, als, st, b, (h.1, h.2.1, x_up h.2.2 r j v)) else none | _ => none) = some c' := hst
  split at hs
  rotate_left
  · cases hs
  rename_i v j r st
  split at hs
  rotate_left
  · cases hs
  rename_i hg
  cases hs
  obtain ⟨hy, hx, hb, hml, hown, hts, hinit, hK, hAO, hfr, hlo, hA⟩ := F
  have hts2 : ∀ w ∈ lw_tbl.filter goodWord, w.before args s = true := fun w hw => hts w (List.mem_filter.mp hw).1 (List.mem_filter.mp hw).2
  obtain ⟨V, hS, -⟩ := id S
  obtain ⟨hk, hj0, hj1⟩ := hg
  obtain ⟨h0, h1, hkd⟩ := x_ok_ok hk
  obtain ⟨hd, hp⟩ := x_D_ok C
  have hl : r < L.length := by rw [V.1]; exact h1
  have ho := S.2.2.2.2.1
  have ov : x_in32 v := x_hd ho
  have oj : x_in32 j := x_hd (x_tls ho)
  have he : x_ent cy L (h.1, h.2.1, x_up h.2.2 r j v) r = .inl (cy 8, (x_ln r).toNat, .inl (upd (fun i => Int32.ofInt (h.2.2 r i)) (Int32.ofInt j).toNatClampNeg (Int32.ofInt v))) := by
    rw [x_ent_int hkd (by decide) (by decide)]
    congr 4
    funext i
    rw [x_clamp oj]
    unfold upd
    show Int32.ofInt (x_up h.2.2 r j v r i) = _
    by_cases q : i = j.toNat
    · rw [if_pos q]
      have : (i : Int) = j := by omega
      rw [this, x_up_self]
    · rw [if_neg q, x_up_nk (by omega)]
  show W p l e R s m args below meth c H locs cells slots Q (F0 m pc ls (.int (Int32.ofInt v) :: .int (Int32.ofInt j) :: x_conc bs L (.inr r) :: st.map (x_conc bs L)))
  rw [x_ref h0]
  refine va_iast hx hb hK V.2.2.2.1 V.2.2.2.2 hS r.toNat 0 ((x_ws_get h0 hl).trans (by rw [x_ent_int hkd (by decide) (by decide)])) rfl (x_vpin oj hj0 hj1) hd fun H1 locs1 g1 g2 g3 => ?_
  have K := kk L H1 locs1 ls cells slots (x_ext_rf L) (S.hp rfl (V.upM h0 h1 ov he g1 g2) g3 (x_tls (x_tls (x_tls ho))))
  exact W.eq (by show F0 m (pc + 1) ls _ = F0 m (x_pc y (k + 1)) ls _; rw [hp]) K

theorem x_s34 (F : x_Fr p R s m args meth c D cy A y) (C : x_Ck y k 34 a t u pc) (S : x_St s D cy A bs y CC SS L h H locs ls als ast b cells slots) (hst : x_stp (34, a, t, u, pc) k als ast b h = some c') (kk : x_K p l e R s m args below meth c Q D cy A bs y CC SS L c') : W p l e R s m args below meth c H locs cells slots Q (F0 m pc ls (ast.map (x_conc bs L))) := by
  have C : x_D ((x_by y).data.toList.drop pc) pc (x_pc y (k + 1)) .bastore 1 = true := C
  have hs : (match (generalizing := false) ast with | .inl v :: .inl j :: .inr r :: st => if x_ok h.1 r 9 ∧ 0 ≤ j ∧ j < x_ln r ∧ (v = 0 ∨ v = 1) then some (k + 1, als, st, b, (h.1, h.2.1, x_up h.2.2 r j v)) else none | _ => none) = some c' := hst
  split at hs
  rotate_left
  · cases hs
  rename_i v j r st
  split at hs
  rotate_left
  · cases hs
  rename_i hg
  cases hs
  obtain ⟨hy, hx, hb, hml, hown, hts, hinit, hK, hAO, hfr, hlo, hA⟩ := F
  have hts2 : ∀ w ∈ lw_tbl.filter goodWord, w.before args s = true := fun w hw => hts w (List.mem_filter.mp hw).1 (List.mem_filter.mp hw).2
  obtain ⟨V, hS, -⟩ := id S
  obtain ⟨hk, hj0, hj1, hv01⟩ := hg
  obtain ⟨h0, h1, hkd⟩ := x_ok_ok hk
  obtain ⟨hd, hp⟩ := x_D_ok C
  have hl : r < L.length := by rw [V.1]; exact h1
  have ho := S.2.2.2.2.1
  have ov : x_in32 v := x_hd ho
  have oj : x_in32 j := x_hd (x_tls ho)
  have he : x_ent cy L (h.1, h.2.1, x_up h.2.2 r j v) r = .inl (cy 9, (x_ln r).toNat, .inl (upd (fun i => Int32.ofInt (h.2.2 r i)) (Int32.ofInt j).toNatClampNeg (vp_nar .boolean (Int32.ofInt v)))) := by
    rw [x_ent_int hkd (by decide) (by decide)]
    congr 4
    funext i
    rw [x_clamp oj]
    unfold upd
    show Int32.ofInt (x_up h.2.2 r j v r i) = _
    by_cases q : i = j.toNat
    · rw [if_pos q]
      have : (i : Int) = j := by omega
      rw [this, x_up_self]
      rcases hv01 with rfl | rfl <;> rfl
    · rw [if_neg q, x_up_nk (by omega)]
  show W p l e R s m args below meth c H locs cells slots Q (F0 m pc ls (.int (Int32.ofInt v) :: .int (Int32.ofInt j) :: x_conc bs L (.inr r) :: st.map (x_conc bs L)))
  rw [x_ref h0]
  refine va_zast hx hb hK V.2.2.2.1 V.2.2.2.2 hS r.toNat 1 ((x_ws_get h0 hl).trans (by rw [x_ent_int hkd (by decide) (by decide)])) rfl (x_vpin oj hj0 hj1) hd fun H1 locs1 g1 g2 g3 => ?_
  have K := kk L H1 locs1 ls cells slots (x_ext_rf L) (S.hp rfl (V.upM h0 h1 ov he g1 g2) g3 (x_tls (x_tls (x_tls ho))))
  exact W.eq (by show F0 m (pc + 1) ls _ = F0 m (x_pc y (k + 1)) ls _; rw [hp]) K

theorem x_tysR {cy : Nat → ClassId} {n : Nat} (h1 : 10 ≤ n) (h2 : n < 14) : (x_tys cy)[n - 8]? = some (cy n, .object (["WheelStands$Cart", "WheelStands$Stand", "WheelStands$Town", "WheelStands$Wheel"].getD (n - 10) "")) ∧ (x_q ([0, 2, 4, 5].getD (n - 10) 99)).1 = ["WheelStands$Cart", "WheelStands$Stand", "WheelStands$Town", "WheelStands$Wheel"].getD (n - 10) "" ∧ [0, 2, 4, 5].getD (n - 10) 99 < 8 ∧ ["WheelStands$Cart", "WheelStands$Stand", "WheelStands$Town", "WheelStands$Wheel"].getD (n - 10) "" ∈ x_aos := by
  rcases (show n = 10 ∨ n = 11 ∨ n = 12 ∨ n = 13 by omega) with rfl | rfl | rfl | rfl <;> exact ⟨rfl, rfl, by decide, by decide⟩

theorem x_s30 (F : x_Fr p R s m args meth c D cy A y) (C : x_Ck y k 30 a t u pc) (S : x_St s D cy A bs y CC SS L h H locs ls als ast b cells slots) (hst : x_stp (30, a, t, u, pc) k als ast b h = some c') (kk : x_K p l e R s m args below meth c Q D cy A bs y CC SS L c') : W p l e R s m args below meth c H locs cells slots Q (F0 m pc ls (ast.map (x_conc bs L))) := by
  have C : x_D ((x_by y).data.toList.drop pc) pc (x_pc y (k + 1)) .aaload 1 = true := C
  have hs : (match (generalizing := false) ast with | .inl j :: .inr r :: st => if 0 ≤ r ∧ r < h.1 ∧ 10 ≤ x_kd r ∧ x_kd r < 14 ∧ 0 ≤ j ∧ j < x_ln r then some (k + 1, als, .inr (h.2.1 r j) :: st, b, h) else none | _ => none) = some c' := hst
  split at hs
  rotate_left
  · cases hs
  rename_i j r st
  split at hs
  rotate_left
  · cases hs
  rename_i hg
  cases hs
  obtain ⟨hy, hx, hb, hml, hown, hts, hinit, hK, hAO, hfr, hlo, hA⟩ := F
  have hts2 : ∀ w ∈ lw_tbl.filter goodWord, w.before args s = true := fun w hw => hts w (List.mem_filter.mp hw).1 (List.mem_filter.mp hw).2
  obtain ⟨V, hS, -⟩ := id S
  obtain ⟨h0, h1, hk1, hk2, hj0, hj1⟩ := hg
  obtain ⟨hd, hp⟩ := x_D_ok C
  have hl : r < L.length := by rw [V.1]; exact h1
  have ho := S.2.2.2.2.1
  have oj : x_in32 j := x_hd ho
  have K : W p l e R s m args below meth c H locs cells slots Q (F0 m (x_pc y (k + 1)) ls (x_conc bs L (.inr (h.2.1 r j)) :: st.map (x_conc bs L))) := kk L H locs ls cells slots (x_ext_rf L) (S.stk (x_cons (show x_okv h.1 (.inr (h.2.1 r j)) from (V.2.2.1 r j).2) (x_tls (x_tls ho))))
  have er : x_conc bs L (.inr (h.2.1 r j)) = va_rf (x_rf L (h.2.1 r j)) := if_neg (by have := (V.2.2.1 r j).1; omega)
  rw [hp, er] at K
  show W p l e R s m args below meth c H locs cells slots Q (F0 m pc ls (.int (Int32.ofInt j) :: x_conc bs L (.inr r) :: st.map (x_conc bs L)))
  rw [x_ref h0]
  refine va_aldq hx hb hK V.2.2.2.1 r.toNat (x_kd r - 8) ((x_ws_get h0 hl).trans (by rw [x_ent_ref rfl (by omega)])) (x_tysR hk1 hk2).1 (x_vpin oj hj0 hj1) hd ?_
  show W p l e R s m args below meth c H locs cells slots Q (F0 m (pc + 1) ls (va_rf (x_rf L (h.2.1 r ((Int32.ofInt j).toNatClampNeg : Int))) :: _))
  rw [x_clamp oj, Int.toNat_of_nonneg hj0]
  exact K

theorem x_s31 (F : x_Fr p R s m args meth c D cy A y) (C : x_Ck y k 31 a t u pc) (S : x_St s D cy A bs y CC SS L h H locs ls als ast b cells slots) (hst : x_stp (31, a, t, u, pc) k als ast b h = some c') (kk : x_K p l e R s m args below meth c Q D cy A bs y CC SS L c') : W p l e R s m args below meth c H locs cells slots Q (F0 m pc ls (ast.map (x_conc bs L))) := by
  have C : x_D ((x_by y).data.toList.drop pc) pc (x_pc y (k + 1)) .aastore 1 = true := C
  have hs : (match (generalizing := false) ast with | .inr v :: .inl j :: .inr r :: st => if 0 ≤ r ∧ r < h.1 ∧ 10 ≤ x_kd r ∧ x_kd r < 14 ∧ 0 ≤ j ∧ j < x_ln r ∧ x_ok h.1 v ([0, 2, 4, 5].getD (x_kd r - 10) 99) then some (k + 1, als, st, b, (h.1, x_up h.2.1 r j v, h.2.2)) else none | _ => none) = some c' := hst
  split at hs
  rotate_left
  · cases hs
  rename_i v j r st
  split at hs
  rotate_left
  · cases hs
  rename_i hg
  cases hs
  obtain ⟨hy, hx, hb, hml, hown, hts, hinit, hK, hAO, hfr, hlo, hA⟩ := F
  have hts2 : ∀ w ∈ lw_tbl.filter goodWord, w.before args s = true := fun w hw => hts w (List.mem_filter.mp hw).1 (List.mem_filter.mp hw).2
  obtain ⟨V, hS, -⟩ := id S
  obtain ⟨h0, h1, hk1, hk2, hj0, hj1, hkv⟩ := hg
  obtain ⟨v0, v1, hkdv⟩ := x_ok_ok hkv
  obtain ⟨hd, hp⟩ := x_D_ok C
  obtain ⟨t1, t2, t3, -⟩ := x_tysR (cy := cy) hk1 hk2
  have hl : r < L.length := by rw [V.1]; exact h1
  have hlv : v < L.length := by rw [V.1]; exact v1
  have ho := S.2.2.2.2.1
  have oj : x_in32 j := x_hd (x_tls ho)
  have he : x_ent cy L (h.1, x_up h.2.1 r j v, h.2.2) r = .inl (cy (x_kd r), (x_ln r).toNat, .inr (.inr (.inr (.inr (va_up (fun i => x_rf L (h.2.1 r i)) (Int32.ofInt j).toNatClampNeg (some (L.getD v.toNat 0))))))) := by
    rw [x_ent_ref rfl (by omega)]
    congr 7
    funext i
    rw [x_clamp oj]
    unfold va_up
    show x_rf L (x_up h.2.1 r j v r i) = _
    by_cases q : i = j.toNat
    · rw [if_pos q]
      have : (i : Int) = j := by omega
      rw [this, x_up_self]
      unfold x_rf
      rw [if_neg (by omega)]
    · rw [if_neg q, x_up_nk (by omega)]
  obtain ⟨q1, -⟩ := x_cls t3
  show W p l e R s m args below meth c H locs cells slots Q (F0 m pc ls (x_conc bs L (.inr v) :: .int (Int32.ofInt j) :: x_conc bs L (.inr r) :: st.map (x_conc bs L)))
  rw [x_ref h0, x_ref v0]
  refine va_astq hx hb hK V.2.2.2.1 V.2.2.2.2 hS r.toNat (x_kd r - 8) v.toNat _ ((x_ws_get h0 hl).trans (by rw [x_ent_ref rfl (by omega)])) (t1.trans (by rw [← t2])) ((x_ws_get v0 hlv).trans (by rw [x_ent_obj hkdv t3])) q1 (x_vpin oj hj0 hj1) hd fun H1 locs1 g1 g2 g3 => ?_
  have K := kk L H1 locs1 ls cells slots (x_ext_rf L) (S.hp rfl (V.upP h0 h1 ⟨by omega, v1⟩ he g1 g2) g3 (x_tls (x_tls (x_tls ho))))
  exact W.eq (by show F0 m (pc + 1) ls _ = F0 m (x_pc y (k + 1)) ls _; rw [hp]) K

end
