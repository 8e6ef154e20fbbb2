/-! ONE INSTRUCTION OF THE INTERPRETER IS ONE OF THE MACHINE: those that leave the heap -/
section
variable {p : Program} {l : Launch} {e : Env} {R : Room} {s : State} {m : MethodId} {args : Array Value} {below : List Frame} {meth : Method} {c : Code} {Q : State → Prop}
variable {D : va_G} {cy : Nat → ClassId} {A : Nat → Prop} {bs y CC SS : Nat} {L : List Nat} {h : xH} {H : Heap} {locs : List Loc} {ls : Array Slot} {als ast : List xV} {b : xB} {cells slots k : Nat}
variable {a : Int} {t u pc p2 : Nat} {c' : xC}
/-- what comes behind an instruction -/
def x_K (p : Program) (l : Launch) (e : Env) (R : Room) (s : State) (m : MethodId) (args : Array Value) (below : List Frame) (meth : Method) (c : Code) (Q : State → Prop) (D : va_G) (cy : Nat → ClassId) (A : Nat → Prop) (bs y CC SS : Nat) (L : List Nat) (c' : xC) : Prop :=
  ∀ (L' : List Nat) (H' : Heap) (locs' : List Loc) (ls' : Array Slot) (cells' slots' : Nat), x_ext L L' → x_St s D cy A bs y CC SS L' c'.2.2.2.2 H' locs' ls' c'.2.1 c'.2.2.1 c'.2.2.2.1 cells' slots' → W p l e R s m args below meth c H' locs' cells' slots' Q (F0 m (x_pc y c'.1) ls' (c'.2.2.1.map (x_conc bs L')))
def x_Ck (y k op : Nat) (a : Int) (t u pc : Nat) : Prop := x_ckj (x_nm y).cls (x_rt y) (x_dp y) (x_lc y) (x_st y) (x_rk y) (x_cd y) (x_by y) ((x_by y).data.toList.drop pc) (op, a, t, u, pc) (x_pc y (k + 1)) = true
theorem x_St.stk (S : x_St s D cy A bs y CC SS L h H locs ls als ast b cells slots) {ast' : List xV} (ho : ∀ v ∈ ast', x_okv h.1 v) : x_St s D cy A bs y CC SS L h H locs ls als ast' b cells slots := ⟨S.1, S.2.1, S.2.2.1, S.2.2.2.1, ho, S.2.2.2.2.2⟩
theorem x_cons {z : Int} {v : xV} {st : List xV} (h1 : x_okv z v) (h2 : ∀ w ∈ st, x_okv z w) : ∀ w ∈ v :: st, x_okv z w := fun w hw => by
  rcases List.mem_cons.mp hw with rfl | hw
  · exact h1
  · exact h2 w hw
theorem x_tls {z : Int} {v : xV} {st : List xV} (h : ∀ w ∈ v :: st, x_okv z w) : ∀ w ∈ st, x_okv z w := fun w hw => h w (List.mem_cons_of_mem _ hw)
theorem x_hd {z : Int} {v : xV} {st : List xV} (h : ∀ w ∈ v :: st, x_okv z w) : x_okv z v := h v List.mem_cons_self

theorem x_s0 (F : x_Fr p R s m args meth c D cy A y) (C : x_Ck y k 0 a t u pc) (S : x_St s D cy A bs y CC SS L h H locs ls als ast b cells slots) (hst : x_stp (0, a, t, u, pc) k als ast b h = some c') (kk : x_K p l e R s m args below meth c Q D cy A bs y CC SS L c') : W p l e R s m args below meth c H locs cells slots Q (F0 m pc ls (ast.map (x_conc bs L))) := by
  have C : ((if u = 0 then x_D ((x_by y).data.toList.drop pc) pc (x_pc y (k + 1)) (.iconst a) 1 else if u = 1 then x_D ((x_by y).data.toList.drop pc) pc (x_pc y (k + 1)) (.bipush a) 2 && decide (-128 ≤ a) && decide (a < 128) else if u = 2 then x_D ((x_by y).data.toList.drop pc) pc (x_pc y (k + 1)) (.sipush a) 3 && decide (-32768 ≤ a) && decide (a < 32768)
      else (match xcn[u - 3]? with
        | some (pl, o, ix, v, w) => decide (o = (x_nm y).cls) && decide (v = Int32.ofInt a) && (if w = 1 then x_D ((x_by y).data.toList.drop pc) pc (x_pc y (k + 1)) (.ldc_w ix) 3 else x_D ((x_by y).data.toList.drop pc) pc (x_pc y (k + 1)) (.ldc ix) 2)
        | none => false)) && decide (-2147483648 ≤ a) && decide (a < 2147483648)) = true := C
  simp only [Bool.and_eq_true, decide_eq_true_eq] at C
  obtain ⟨⟨C, r1⟩, r2⟩ := C
  cases (show some (k + 1, als, .inl a :: ast, b, h) = some c' from hst)
  obtain ⟨hy, hx, hb, hml, hown, hts, -⟩ := F
  have K := kk L H locs ls cells slots (x_ext_rf L) (S.stk (x_cons (show x_in32 a from ⟨r1, r2⟩) S.2.2.2.2.1))
  by_cases h0 : u = 0
  · rw [if_pos h0] at C
    obtain ⟨hd, hp⟩ := x_D_ok C
    refine lv_iconst hx hb hd rfl (W.eq ?_ K)
    show F0 m (pc + 1) ls _ = F0 m (x_pc y (k + 1)) ls _
    rw [hp]
    rfl
  rw [if_neg h0] at C
  by_cases h1 : u = 1
  · rw [if_pos h1] at C
    simp only [Bool.and_eq_true, decide_eq_true_eq] at C
    obtain ⟨⟨C, q1⟩, q2⟩ := C
    obtain ⟨hd, hp⟩ := x_D_ok C
    refine lv_bipush hx hb hd rfl (W.eq ?_ K)
    have ev : (Int8.ofInt a).toInt32 = Int32.ofInt a := by
      apply Int32.toInt_inj.mp
      rw [Int8.toInt_toInt32, x_toInt ⟨r1, r2⟩]
      exact Int8.toInt_ofInt_of_le (by simpa using q1) (by simpa using q2)
    rw [ev]
    show F0 m (pc + 2) ls _ = F0 m (x_pc y (k + 1)) ls _
    rw [hp]
    rfl
  rw [if_neg h1] at C
  by_cases h2 : u = 2
  · rw [if_pos h2] at C
    simp only [Bool.and_eq_true, decide_eq_true_eq] at C
    obtain ⟨⟨C, q1⟩, q2⟩ := C
    obtain ⟨hd, hp⟩ := x_D_ok C
    refine lv_sipush hx hb hd rfl (W.eq ?_ K)
    have ev : (Int16.ofInt a).toInt32 = Int32.ofInt a := by
      apply Int32.toInt_inj.mp
      rw [Int16.toInt_toInt32, x_toInt ⟨r1, r2⟩]
      exact Int16.toInt_ofInt_of_le (by simpa using q1) (by simpa using q2)
    rw [ev]
    show F0 m (pc + 3) ls _ = F0 m (x_pc y (k + 1)) ls _
    rw [hp]
    rfl
  rw [if_neg h2] at C
  cases hc : xcn[u - 3]? with
  | none => rw [hc] at C; cases C
  | some q =>
    obtain ⟨pl, o, ix, v, w⟩ := q
    rw [hc] at C
    simp only [Bool.and_eq_true, decide_eq_true_eq] at C
    obtain ⟨⟨rfl, rfl⟩, C⟩ := C
    have hw : x_wd pl (.constant (x_nm y).cls ix (Int32.ofInt a)) = true := List.all_eq_true.mp x_cnok _ (List.mem_of_getElem? hc)
    have hk := hts _ (x_wd_ok hw) rfl
    by_cases h3 : w = 1
    · rw [if_pos h3] at C
      obtain ⟨hd, hp⟩ := x_D_ok C
      refine lv_ldcw hx hb hown hk hd (W.eq ?_ K)
      show F0 m (pc + 3) ls _ = F0 m (x_pc y (k + 1)) ls _
      rw [hp]
      rfl
    · rw [if_neg h3] at C
      obtain ⟨hd, hp⟩ := x_D_ok C
      refine lv_ldc hx hb hown hk hd (W.eq ?_ K)
      show F0 m (pc + 2) ls _ = F0 m (x_pc y (k + 1)) ls _
      rw [hp]
      rfl

theorem x_s1 (F : x_Fr p R s m args meth c D cy A y) (C : x_Ck y k 1 a t u pc) (S : x_St s D cy A bs y CC SS L h H locs ls als ast b cells slots) (hst : x_stp (1, a, t, u, pc) k als ast b h = some c') (kk : x_K p l e R s m args below meth c Q D cy A bs y CC SS L c') : W p l e R s m args below meth c H locs cells slots Q (F0 m pc ls (ast.map (x_conc bs L))) := by
  have C : (if u = 0 then decide (t < 4) && x_D ((x_by y).data.toList.drop pc) pc (x_pc y (k + 1)) (.iload_n (Fin.ofNat 4 t)) 1 else x_D ((x_by y).data.toList.drop pc) pc (x_pc y (k + 1)) (.iload t) 2) = true := C
  have hs : (match (generalizing := false) als[t]? with | some (.inl v) => some (k + 1, als, .inl v :: ast, b, h) | _ => none) = some c' := hst
  split at hs
  · rename_i v hv
    cases hs
    obtain ⟨hy, hx, hb, hml, hown, hts, -⟩ := F
    have hl : ls[t]? = some (.val (.int (Int32.ofInt v))) := x_lr_at S.2.2.1 hv (by intro q; cases q)
    have K := kk L H locs ls cells slots (x_ext_rf L) (S.stk (x_cons (S.2.2.2.1 _ (List.mem_of_getElem? hv)) S.2.2.2.2.1))
    by_cases h0 : u = 0
    · rw [if_pos h0] at C
      simp only [Bool.and_eq_true, decide_eq_true_eq] at C
      obtain ⟨hd, hp⟩ := x_D_ok C.2
      refine lv_iload_n hx hb hd (show t % 4 = t from Nat.mod_eq_of_lt C.1) hl (W.eq ?_ K)
      show F0 m (pc + 1) ls _ = F0 m (x_pc y (k + 1)) ls _
      rw [hp]
      rfl
    · rw [if_neg h0] at C
      obtain ⟨hd, hp⟩ := x_D_ok C
      refine lv_iload hx hb hd hl (W.eq ?_ K)
      show F0 m (pc + 2) ls _ = F0 m (x_pc y (k + 1)) ls _
      rw [hp]
      rfl
  · cases hs

theorem x_s2 (F : x_Fr p R s m args meth c D cy A y) (C : x_Ck y k 2 a t u pc) (S : x_St s D cy A bs y CC SS L h H locs ls als ast b cells slots) (hst : x_stp (2, a, t, u, pc) k als ast b h = some c') (kk : x_K p l e R s m args below meth c Q D cy A bs y CC SS L c') : W p l e R s m args below meth c H locs cells slots Q (F0 m pc ls (ast.map (x_conc bs L))) := by
  have C : (if u = 0 then decide (t < 4) && x_D ((x_by y).data.toList.drop pc) pc (x_pc y (k + 1)) (.aload_n (Fin.ofNat 4 t)) 1 else x_D ((x_by y).data.toList.drop pc) pc (x_pc y (k + 1)) (.aload t) 2) = true := C
  have hs : (match (generalizing := false) als[t]? with | some (.inr v) => if -2 ≤ v then some (k + 1, als, .inr v :: ast, b, h) else none | _ => none) = some c' := hst
  split at hs
  · rename_i v hv
    split at hs
    · rename_i hv2
      cases hs
      obtain ⟨hy, hx, hb, hml, hown, hts, -⟩ := F
      have hl : ls[t]? = some (.val (x_conc bs L (.inr v))) := x_lr_at S.2.2.1 hv (by intro q; unfold x_un at q; cases q; omega)
      have K := kk L H locs ls cells slots (x_ext_rf L) (S.stk (x_cons (S.2.2.2.1 _ (List.mem_of_getElem? hv)) S.2.2.2.2.1))
      have e : ∃ r : Option Nat, x_conc bs L (.inr v) = va_rf r := by
        by_cases q : v = -2
        · exact ⟨some bs, if_pos q⟩
        · exact ⟨_, if_neg q⟩
      obtain ⟨r, er⟩ := e
      rw [er] at hl
      by_cases h0 : u = 0
      · rw [if_pos h0] at C
        simp only [Bool.and_eq_true, decide_eq_true_eq] at C
        obtain ⟨hd, hp⟩ := x_D_ok C.2
        have K2 : W p l e R s m args below meth c H locs cells slots Q (F0 m (pc + 1) ls (va_rf r :: ast.map (x_conc bs L))) := W.eq (by show F0 m (pc + 1) ls _ = F0 m (x_pc y (k + 1)) ls (x_conc bs L (.inr v) :: _); rw [hp, er]) K
        cases r with
        | none => exact lv_aload_nN hx hb hd (show t % 4 = t from Nat.mod_eq_of_lt C.1) hl K2
        | some r => exact lv_aload_n hx hb hd (show t % 4 = t from Nat.mod_eq_of_lt C.1) hl K2
      · rw [if_neg h0] at C
        obtain ⟨hd, hp⟩ := x_D_ok C
        have K2 : W p l e R s m args below meth c H locs cells slots Q (F0 m (pc + 2) ls (va_rf r :: ast.map (x_conc bs L))) := W.eq (by show F0 m (pc + 2) ls _ = F0 m (x_pc y (k + 1)) ls (x_conc bs L (.inr v) :: _); rw [hp, er]) K
        cases r with
        | none => exact lv_aloadN hx hb hd hl K2
        | some r => exact lv_aload hx hb hd hl K2
    · cases hs
  · cases hs

theorem x_St.loc (S : x_St s D cy A bs y CC SS L h H locs ls als ast b cells slots) {i : Nat} {v : xV} {ast' : List xV} {ls' : Array Slot} (hi : i < als.length) (hv : x_okv h.1 v) (ho : ∀ w ∈ ast', x_okv h.1 w) (h' : lv_has ls' (x_ml y) ((i, x_conc bs L v) :: (x_lvs bs L als).filter (fun q => !(q.1 == i) && !(q.1 + 1 == i && q.2.category == 2)))) : x_St s D cy A bs y CC SS L h H locs ls' (als.set i v) ast' b cells slots :=
  ⟨S.1, S.2.1, x_lr_set S.2.2.1 hi h', fun w hw => by
    rcases List.mem_or_eq_of_mem_set hw with hw | rfl
    · exact S.2.2.2.1 w hw
    · exact hv, ho, S.2.2.2.2.2⟩

theorem x_s3 (F : x_Fr p R s m args meth c D cy A y) (C : x_Ck y k 3 a t u pc) (S : x_St s D cy A bs y CC SS L h H locs ls als ast b cells slots) (hst : x_stp (3, a, t, u, pc) k als ast b h = some c') (kk : x_K p l e R s m args below meth c Q D cy A bs y CC SS L c') : W p l e R s m args below meth c H locs cells slots Q (F0 m pc ls (ast.map (x_conc bs L))) := by
  have C : (if u = 0 then decide (t < 4) && x_D ((x_by y).data.toList.drop pc) pc (x_pc y (k + 1)) (.istore_n (Fin.ofNat 4 t)) 1 else x_D ((x_by y).data.toList.drop pc) pc (x_pc y (k + 1)) (.istore t) 2) = true := C
  have hs : (match (generalizing := false) ast with | .inl v :: st => if t < als.length then some (k + 1, als.set t (.inl v), st, b, h) else none | _ => none) = some c' := hst
  split at hs
  · rename_i v st
    split at hs
    · rename_i ht
      cases hs
      obtain ⟨hy, hx, hb, hml, hown, hts, -⟩ := F
      have hl := x_lr_has S.2.2.1
      have htn : t < x_ml y := by rw [← S.2.2.1.2.2.1]; exact ht
      have ho := S.2.2.2.2.1
      by_cases h0 : u = 0
      · rw [if_pos h0] at C
        simp only [Bool.and_eq_true, decide_eq_true_eq] at C
        obtain ⟨hd, hp⟩ := x_D_ok C.2
        refine lv_istore_n hx hb hd (show t % 4 = t from Nat.mod_eq_of_lt C.1) hl htn rfl fun ls' hl' => ?_
        exact W.eq (by show F0 m (pc + 1) ls' _ = F0 m (x_pc y (k + 1)) ls' _; rw [hp]) (kk L H locs ls' cells slots (x_ext_rf L) (S.loc ht (x_hd ho) (x_tls ho) hl'))
      · rw [if_neg h0] at C
        obtain ⟨hd, hp⟩ := x_D_ok C
        refine lv_istore hx hb hd hl htn rfl fun ls' hl' => ?_
        exact W.eq (by show F0 m (pc + 2) ls' _ = F0 m (x_pc y (k + 1)) ls' _; rw [hp]) (kk L H locs ls' cells slots (x_ext_rf L) (S.loc ht (x_hd ho) (x_tls ho) hl'))
    · cases hs
  · cases hs

theorem x_s4 (F : x_Fr p R s m args meth c D cy A y) (C : x_Ck y k 4 a t u pc) (S : x_St s D cy A bs y CC SS L h H locs ls als ast b cells slots) (hst : x_stp (4, a, t, u, pc) k als ast b h = some c') (kk : x_K p l e R s m args below meth c Q D cy A bs y CC SS L c') : W p l e R s m args below meth c H locs cells slots Q (F0 m pc ls (ast.map (x_conc bs L))) := by
  have C : (if u = 0 then decide (t < 4) && x_D ((x_by y).data.toList.drop pc) pc (x_pc y (k + 1)) (.astore_n (Fin.ofNat 4 t)) 1 else x_D ((x_by y).data.toList.drop pc) pc (x_pc y (k + 1)) (.astore t) 2) = true := C
  have hs : (match (generalizing := false) ast with | .inr v :: st => if t < als.length ∧ -2 ≤ v then some (k + 1, als.set t (.inr v), st, b, h) else none | _ => none) = some c' := hst
  split at hs
  · rename_i v st
    split at hs
    · rename_i ht
      cases hs
      obtain ⟨hy, hx, hb, hml, hown, hts, -⟩ := F
      have hl := x_lr_has S.2.2.1
      have htn : t < x_ml y := by rw [← S.2.2.1.2.2.1]; exact ht.1
      have ho := S.2.2.2.2.1
      have e : ∃ r : Option Nat, x_conc bs L (.inr v) = va_rf r := by
        by_cases q : v = -2
        · exact ⟨some bs, if_pos q⟩
        · exact ⟨_, if_neg q⟩
      obtain ⟨r, er⟩ := e
      have key : ∀ (n : Nat) (hp : x_pc y (k + 1) = pc + n) (ls' : Array Slot), lv_has ls' (x_ml y) ((t, va_rf r) :: (x_lvs bs L als).filter (fun q => !(q.1 == t) && !(q.1 + 1 == t && q.2.category == 2))) → W p l e R s m args below meth c H locs cells slots Q (F0 m (pc + n) ls' (st.map (x_conc bs L))) := fun n hp ls' hl' => by
        rw [← er] at hl'
        exact W.eq (by show F0 m (pc + n) ls' _ = F0 m (x_pc y (k + 1)) ls' _; rw [hp]) (kk L H locs ls' cells slots (x_ext_rf L) (S.loc ht.1 (x_hd ho) (x_tls ho) hl'))
      show W p l e R s m args below meth c H locs cells slots Q (F0 m pc ls (x_conc bs L (.inr v) :: st.map (x_conc bs L)))
      rw [er]
      by_cases h0 : u = 0
      · rw [if_pos h0] at C
        simp only [Bool.and_eq_true, decide_eq_true_eq] at C
        obtain ⟨hd, hp⟩ := x_D_ok C.2
        cases r with
        | none => exact lv_astore_nN hx hb hd (show t % 4 = t from Nat.mod_eq_of_lt C.1) hl htn rfl (key 1 hp)
        | some r => exact lv_astore_n hx hb hd (show t % 4 = t from Nat.mod_eq_of_lt C.1) hl htn rfl (key 1 hp)
      · rw [if_neg h0] at C
        obtain ⟨hd, hp⟩ := x_D_ok C
        cases r with
        | none => exact lv_astoreN hx hb hd hl htn rfl (key 2 hp)
        | some r => exact lv_astore hx hb hd hl htn rfl (key 2 hp)
    · cases hs
  · cases hs

theorem x_s5 (F : x_Fr p R s m args meth c D cy A y) (C : x_Ck y k 5 a t u pc) (S : x_St s D cy A bs y CC SS L h H locs ls als ast b cells slots) (hst : x_stp (5, a, t, u, pc) k als ast b h = some c') (kk : x_K p l e R s m args below meth c Q D cy A bs y CC SS L c') : W p l e R s m args below meth c H locs cells slots Q (F0 m pc ls (ast.map (x_conc bs L))) := by
  have C : x_D ((x_by y).data.toList.drop pc) pc (x_pc y (k + 1)) (.iinc t a) 3 = true := C
  have hs : (match (generalizing := false) als[t]? with | some (.inl v) => some (k + 1, als.set t (.inl (x_w (v + a))), ast, b, h) | _ => none) = some c' := hst
  split at hs
  · rename_i v hv
    cases hs
    obtain ⟨hy, hx, hb, hml, hown, hts, -⟩ := F
    have ht : t < als.length := (List.getElem?_eq_some_iff.mp hv).1
    have hl := x_lr_has S.2.2.1
    have htn : t < x_ml y := by rw [← S.2.2.1.2.2.1]; exact ht
    obtain ⟨hd, hp⟩ := x_D_ok C
    obtain ⟨q, hq⟩ := List.getElem?_of_mem (x_lvs_mem.mpr ⟨.inl v, hv, (by intro q; cases q), rfl⟩ : (t, x_conc bs L (.inl v)) ∈ x_lvs bs L als)
    refine lv_iinc (v := Int32.ofInt (x_w (v + a))) hx hb hd hl hq (by rw [x_w_of, Int32.ofInt_add]) htn rfl fun ls' hl' => ?_
    exact W.eq (by show F0 m (pc + 3) ls' _ = F0 m (x_pc y (k + 1)) ls' _; rw [hp]) (kk L H locs ls' cells slots (x_ext_rf L) (S.loc (v := .inl (x_w (v + a))) ht (x_w_in _) S.2.2.2.2.1 hl'))
  · cases hs

theorem x_s6 (F : x_Fr p R s m args meth c D cy A y) (C : x_Ck y k 6 a t u pc) (S : x_St s D cy A bs y CC SS L h H locs ls als ast b cells slots) (hst : x_stp (6, a, t, u, pc) k als ast b h = some c') (kk : x_K p l e R s m args below meth c Q D cy A bs y CC SS L c') : W p l e R s m args below meth c H locs cells slots Q (F0 m pc ls (ast.map (x_conc bs L))) := by
  have C : x_D ((x_by y).data.toList.drop pc) pc (x_pc y (k + 1)) .iadd 1 = true := C
  have hs : (match (generalizing := false) ast with | .inl j :: .inl i :: st => some (k + 1, als, .inl (x_w (i + j)) :: st, b, h) | _ => none) = some c' := hst
  split at hs
  · rename_i j i st
    cases hs
    obtain ⟨hy, hx, hb, hml, hown, hts, -⟩ := F
    obtain ⟨hd, hp⟩ := x_D_ok C
    have ho := S.2.2.2.2.1
    have oj : x_in32 j := x_hd ho
    have oi : x_in32 i := x_hd (x_tls ho)
    have K := kk L H locs ls cells slots (x_ext_rf L) (S.stk (x_cons (show x_in32 (x_w (i + j)) from x_w_in _) (x_tls (x_tls ho))))
    refine lv_iadd hx hb hd (W.eq ?_ K)
    show F0 m (pc + 1) ls (.int _ :: _) = F0 m (x_pc y (k + 1)) ls (.int (Int32.ofInt (x_w (i + j))) :: _)
    rw [hp, x_add]
  · cases hs

theorem x_s7 (F : x_Fr p R s m args meth c D cy A y) (C : x_Ck y k 7 a t u pc) (S : x_St s D cy A bs y CC SS L h H locs ls als ast b cells slots) (hst : x_stp (7, a, t, u, pc) k als ast b h = some c') (kk : x_K p l e R s m args below meth c Q D cy A bs y CC SS L c') : W p l e R s m args below meth c H locs cells slots Q (F0 m pc ls (ast.map (x_conc bs L))) := by
  have C : x_D ((x_by y).data.toList.drop pc) pc (x_pc y (k + 1)) .isub 1 = true := C
  have hs : (match (generalizing := false) ast with | .inl j :: .inl i :: st => some (k + 1, als, .inl (x_w (i - j)) :: st, b, h) | _ => none) = some c' := hst
  split at hs
  · rename_i j i st
    cases hs
    obtain ⟨hy, hx, hb, hml, hown, hts, -⟩ := F
    obtain ⟨hd, hp⟩ := x_D_ok C
    have ho := S.2.2.2.2.1
    have oj : x_in32 j := x_hd ho
    have oi : x_in32 i := x_hd (x_tls ho)
    have K := kk L H locs ls cells slots (x_ext_rf L) (S.stk (x_cons (show x_in32 (x_w (i - j)) from x_w_in _) (x_tls (x_tls ho))))
    refine lv_isub hx hb hd (W.eq ?_ K)
    show F0 m (pc + 1) ls (.int _ :: _) = F0 m (x_pc y (k + 1)) ls (.int (Int32.ofInt (x_w (i - j))) :: _)
    rw [hp, x_sub]
  · cases hs

theorem x_s8 (F : x_Fr p R s m args meth c D cy A y) (C : x_Ck y k 8 a t u pc) (S : x_St s D cy A bs y CC SS L h H locs ls als ast b cells slots) (hst : x_stp (8, a, t, u, pc) k als ast b h = some c') (kk : x_K p l e R s m args below meth c Q D cy A bs y CC SS L c') : W p l e R s m args below meth c H locs cells slots Q (F0 m pc ls (ast.map (x_conc bs L))) := by
  have C : x_D ((x_by y).data.toList.drop pc) pc (x_pc y (k + 1)) .imul 1 = true := C
  have hs : (match (generalizing := false) ast with | .inl j :: .inl i :: st => some (k + 1, als, .inl (x_w (i * j)) :: st, b, h) | _ => none) = some c' := hst
  split at hs
  · rename_i j i st
    cases hs
    obtain ⟨hy, hx, hb, hml, hown, hts, -⟩ := F
    obtain ⟨hd, hp⟩ := x_D_ok C
    have ho := S.2.2.2.2.1
    have oj : x_in32 j := x_hd ho
    have oi : x_in32 i := x_hd (x_tls ho)
    have K := kk L H locs ls cells slots (x_ext_rf L) (S.stk (x_cons (show x_in32 (x_w (i * j)) from x_w_in _) (x_tls (x_tls ho))))
    refine lv_imul hx hb hd (W.eq ?_ K)
    show F0 m (pc + 1) ls (.int _ :: _) = F0 m (x_pc y (k + 1)) ls (.int (Int32.ofInt (x_w (i * j))) :: _)
    rw [hp, x_mul]
  · cases hs

theorem x_s9 (F : x_Fr p R s m args meth c D cy A y) (C : x_Ck y k 9 a t u pc) (S : x_St s D cy A bs y CC SS L h H locs ls als ast b cells slots) (hst : x_stp (9, a, t, u, pc) k als ast b h = some c') (kk : x_K p l e R s m args below meth c Q D cy A bs y CC SS L c') : W p l e R s m args below meth c H locs cells slots Q (F0 m pc ls (ast.map (x_conc bs L))) := by
  have C : x_D ((x_by y).data.toList.drop pc) pc (x_pc y (k + 1)) .irem 1 = true := C
  have hs : (match (generalizing := false) ast with | .inl j :: .inl i :: st => if 0 ≤ i ∧ 0 < j then some (k + 1, als, .inl (i % j) :: st, b, h) else none | _ => none) = some c' := hst
  split at hs
  · rename_i j i st
    split at hs
    rotate_left
    · cases hs
    rename_i hg
    cases hs
    obtain ⟨hy, hx, hb, hml, hown, hts, -⟩ := F
    obtain ⟨hd, hp⟩ := x_D_ok C
    have ho := S.2.2.2.2.1
    have oj : x_in32 j := x_hd ho
    have oi : x_in32 i := x_hd (x_tls ho)
    have hin : x_in32 (i % j) := by
      have q1 := Int.emod_nonneg i (show j ≠ 0 by omega)
      have q2 := Int.emod_lt_of_pos i hg.2
      unfold x_in32 at oj oi ⊢
      omega
    have hne : ¬ Int32.ofInt j = 0 := by
      intro q
      rw [← x_of0, x_eqi oj x_zero] at q
      omega
    have hrem : Int32.ofInt i - Int32.ofInt i / Int32.ofInt j * Int32.ofInt j = Int32.ofInt (i % j) := by
      have hdv : (Int32.ofInt i / Int32.ofInt j) = Int32.ofInt (i / j) := by
        apply Int32.toInt_inj.mp
        rw [lg_idiv_nonneg (by rw [x_toInt oi]; exact hg.1) (by rw [x_toInt oj]; exact hg.2), x_toInt oi, x_toInt oj]
        have q1 := Int.ediv_nonneg hg.1 (Int.le_of_lt hg.2)
        have q2 := Int.ediv_le_self j hg.1
        refine (x_toInt ?_).symm
        unfold x_in32 at oi ⊢
        omega
      rw [hdv, ← Int32.ofInt_mul, ← Int32.ofInt_sub]
      congr 1
      have := Int.emod_add_mul_ediv i j
      rw [Int.mul_comm (i / j) j]
      omega
    have K := kk L H locs ls cells slots (x_ext_rf L) (S.stk (x_cons (show x_in32 (i % j) from hin) (x_tls (x_tls ho))))
    refine lv_irem hx hb hd hne (W.eq ?_ K)
    show F0 m (pc + 1) ls (.int _ :: _) = F0 m (x_pc y (k + 1)) ls (.int (Int32.ofInt (i % j)) :: _)
    rw [hp, hrem]
  · cases hs

theorem x_s11 (F : x_Fr p R s m args meth c D cy A y) (C : x_Ck y k 11 a t u pc) (S : x_St s D cy A bs y CC SS L h H locs ls als ast b cells slots) (hst : x_stp (11, a, t, u, pc) k als ast b h = some c') (kk : x_K p l e R s m args below meth c Q D cy A bs y CC SS L c') : W p l e R s m args below meth c H locs cells slots Q (F0 m pc ls (ast.map (x_conc bs L))) := by
  have C : x_D ((x_by y).data.toList.drop pc) pc (x_pc y (k + 1)) .iand 1 = true := C
  have hs : (match (generalizing := false) ast with | .inl j :: .inl i :: st => some (k + 1, als, .inl (Int32.ofInt i &&& Int32.ofInt j).toInt :: st, b, h) | _ => none) = some c' := hst
  split at hs
  · rename_i j i st
    cases hs
    obtain ⟨hy, hx, hb, hml, hown, hts, -⟩ := F
    obtain ⟨hd, hp⟩ := x_D_ok C
    have ho := S.2.2.2.2.1
    have oj : x_in32 j := x_hd ho
    have oi : x_in32 i := x_hd (x_tls ho)
    have K := kk L H locs ls cells slots (x_ext_rf L) (S.stk (x_cons (show x_in32 (Int32.ofInt i &&& Int32.ofInt j).toInt from x_in32_t _) (x_tls (x_tls ho))))
    refine lv_iand hx hb hd (W.eq ?_ K)
    show F0 m (pc + 1) ls (.int _ :: _) = F0 m (x_pc y (k + 1)) ls (.int (Int32.ofInt (Int32.ofInt i &&& Int32.ofInt j).toInt) :: _)
    rw [hp, x_of]
  · cases hs

theorem x_s12 (F : x_Fr p R s m args meth c D cy A y) (C : x_Ck y k 12 a t u pc) (S : x_St s D cy A bs y CC SS L h H locs ls als ast b cells slots) (hst : x_stp (12, a, t, u, pc) k als ast b h = some c') (kk : x_K p l e R s m args below meth c Q D cy A bs y CC SS L c') : W p l e R s m args below meth c H locs cells slots Q (F0 m pc ls (ast.map (x_conc bs L))) := by
  have C : x_D ((x_by y).data.toList.drop pc) pc (x_pc y (k + 1)) .ior 1 = true := C
  have hs : (match (generalizing := false) ast with | .inl j :: .inl i :: st => some (k + 1, als, .inl (Int32.ofInt i ||| Int32.ofInt j).toInt :: st, b, h) | _ => none) = some c' := hst
  split at hs
  · rename_i j i st
    cases hs
    obtain ⟨hy, hx, hb, hml, hown, hts, -⟩ := F
    obtain ⟨hd, hp⟩ := x_D_ok C
    have ho := S.2.2.2.2.1
    have oj : x_in32 j := x_hd ho
    have oi : x_in32 i := x_hd (x_tls ho)
    have K := kk L H locs ls cells slots (x_ext_rf L) (S.stk (x_cons (show x_in32 (Int32.ofInt i ||| Int32.ofInt j).toInt from x_in32_t _) (x_tls (x_tls ho))))
    refine lv_ior hx hb hd (W.eq ?_ K)
    show F0 m (pc + 1) ls (.int _ :: _) = F0 m (x_pc y (k + 1)) ls (.int (Int32.ofInt (Int32.ofInt i ||| Int32.ofInt j).toInt) :: _)
    rw [hp, x_of]
  · cases hs

theorem x_s13 (F : x_Fr p R s m args meth c D cy A y) (C : x_Ck y k 13 a t u pc) (S : x_St s D cy A bs y CC SS L h H locs ls als ast b cells slots) (hst : x_stp (13, a, t, u, pc) k als ast b h = some c') (kk : x_K p l e R s m args below meth c Q D cy A bs y CC SS L c') : W p l e R s m args below meth c H locs cells slots Q (F0 m pc ls (ast.map (x_conc bs L))) := by
  have C : x_D ((x_by y).data.toList.drop pc) pc (x_pc y (k + 1)) .ishl 1 = true := C
  have hs : (match (generalizing := false) ast with | .inl j :: .inl i :: st => some (k + 1, als, .inl (Int32.ofInt i <<< (Int32.ofInt j &&& 31)).toInt :: st, b, h) | _ => none) = some c' := hst
  split at hs
  · rename_i j i st
    cases hs
    obtain ⟨hy, hx, hb, hml, hown, hts, -⟩ := F
    obtain ⟨hd, hp⟩ := x_D_ok C
    have ho := S.2.2.2.2.1
    have oj : x_in32 j := x_hd ho
    have oi : x_in32 i := x_hd (x_tls ho)
    have K := kk L H locs ls cells slots (x_ext_rf L) (S.stk (x_cons (show x_in32 (Int32.ofInt i <<< (Int32.ofInt j &&& 31)).toInt from x_in32_t _) (x_tls (x_tls ho))))
    refine lv_ishl hx hb hd (W.eq ?_ K)
    show F0 m (pc + 1) ls (.int _ :: _) = F0 m (x_pc y (k + 1)) ls (.int (Int32.ofInt (Int32.ofInt i <<< (Int32.ofInt j &&& 31)).toInt) :: _)
    rw [hp, x_of]
  · cases hs

theorem x_s14 (F : x_Fr p R s m args meth c D cy A y) (C : x_Ck y k 14 a t u pc) (S : x_St s D cy A bs y CC SS L h H locs ls als ast b cells slots) (hst : x_stp (14, a, t, u, pc) k als ast b h = some c') (kk : x_K p l e R s m args below meth c Q D cy A bs y CC SS L c') : W p l e R s m args below meth c H locs cells slots Q (F0 m pc ls (ast.map (x_conc bs L))) := by
  have C : x_D ((x_by y).data.toList.drop pc) pc (x_pc y (k + 1)) .ishr 1 = true := C
  have hs : (match (generalizing := false) ast with | .inl j :: .inl i :: st => some (k + 1, als, .inl (Int32.ofInt i >>> (Int32.ofInt j &&& 31)).toInt :: st, b, h) | _ => none) = some c' := hst
  split at hs
  · rename_i j i st
    cases hs
    obtain ⟨hy, hx, hb, hml, hown, hts, -⟩ := F
    obtain ⟨hd, hp⟩ := x_D_ok C
    have ho := S.2.2.2.2.1
    have oj : x_in32 j := x_hd ho
    have oi : x_in32 i := x_hd (x_tls ho)
    have K := kk L H locs ls cells slots (x_ext_rf L) (S.stk (x_cons (show x_in32 (Int32.ofInt i >>> (Int32.ofInt j &&& 31)).toInt from x_in32_t _) (x_tls (x_tls ho))))
    refine lv_ishr hx hb hd (W.eq ?_ K)
    show F0 m (pc + 1) ls (.int _ :: _) = F0 m (x_pc y (k + 1)) ls (.int (Int32.ofInt (Int32.ofInt i >>> (Int32.ofInt j &&& 31)).toInt) :: _)
    rw [hp, x_of]
  · cases hs

theorem x_s10 (F : x_Fr p R s m args meth c D cy A y) (C : x_Ck y k 10 a t u pc) (S : x_St s D cy A bs y CC SS L h H locs ls als ast b cells slots) (hst : x_stp (10, a, t, u, pc) k als ast b h = some c') (kk : x_K p l e R s m args below meth c Q D cy A bs y CC SS L c') : W p l e R s m args below meth c H locs cells slots Q (F0 m pc ls (ast.map (x_conc bs L))) := by
  have C : x_D ((x_by y).data.toList.drop pc) pc (x_pc y (k + 1)) .ineg 1 = true := C
  have hs : (match (generalizing := false) ast with | .inl i :: st => some (k + 1, als, .inl (x_w (-i)) :: st, b, h) | _ => none) = some c' := hst
  split at hs
  · rename_i i st
    cases hs
    obtain ⟨hy, hx, hb, hml, hown, hts, -⟩ := F
    obtain ⟨hd, hp⟩ := x_D_ok C
    have ho := S.2.2.2.2.1
    have K := kk L H locs ls cells slots (x_ext_rf L) (S.stk (x_cons (show x_in32 (x_w (-i)) from x_w_in _) (x_tls ho)))
    refine lv_ineg hx hb hd (W.eq ?_ K)
    show F0 m (pc + 1) ls (.int _ :: _) = F0 m (x_pc y (k + 1)) ls (.int (Int32.ofInt (x_w (-i))) :: _)
    rw [hp, x_neg]
  · cases hs

end
