/-! THE INTERPRETER IS SOUND -/
section
variable {p : Program} {l : Launch} {e : Env} {R : Room} {s : State} {m : MethodId} {args : Array Value} {below : List Frame} {meth : Method} {c : Code} {Q : State → Prop}
variable {D : va_G} {cy : Nat → ClassId} {A : Nat → Prop} {bs y CC SS : Nat} {L : List Nat} {h : xH} {H : Heap} {locs : List Loc} {ls : Array Slot} {als ast : List xV} {b : xB} {cells slots k : Nat}
variable {c' : xC}
theorem x_step (F : x_Fr p R s m args meth c D cy A y) (hk : k < (x_cd y).length) (S : x_St s D cy A bs y CC SS L h H locs ls als ast b cells slots) (hCS : CC ≤ R.cells ∧ SS ≤ R.slots) (hscr : x_rk y = 8 → x_Scr s A bs h) (hst : x_stp (x_in y k) k als ast b h = some c') (kk : x_K p l e R s m args below meth c Q D cy A bs y CC SS L c') : W p l e R s m args below meth c H locs cells slots Q (F0 m (x_pc y k) ls (ast.map (x_conc bs L))) := by
  have C := x_ck F.1 hk
  unfold x_pc at C ⊢
  have hcs : cells ≤ R.cells ∧ slots ≤ R.slots := by
    have := S.2.2.2.2.2
    omega
  revert C hst
  generalize x_in y k = i
  intro hst C
  obtain ⟨op, a, t, u, pc⟩ := i

  by_cases o0 : op = 0
  · subst o0; exact x_s0 F C S hst kk
  by_cases o1 : op = 1
  · subst o1; exact x_s1 F C S hst kk
  by_cases o2 : op = 2
  · subst o2; exact x_s2 F C S hst kk
  by_cases o3 : op = 3
  · subst o3; exact x_s3 F C S hst kk
  by_cases o4 : op = 4
  · subst o4; exact x_s4 F C S hst kk
  by_cases o5 : op = 5
  · subst o5; exact x_s5 F C S hst kk
  by_cases o6 : op = 6
  · subst o6; exact x_s6 F C S hst kk
  by_cases o7 : op = 7
  · subst o7; exact x_s7 F C S hst kk
  by_cases o8 : op = 8
  · subst o8; exact x_s8 F C S hst kk
  by_cases o9 : op = 9
  · subst o9; exact x_s9 F C S hst kk
  by_cases o10 : op = 10
  · subst o10; exact x_s10 F C S hst kk
  by_cases o11 : op = 11
  · subst o11; exact x_s11 F C S hst kk
  by_cases o12 : op = 12
  · subst o12; exact x_s12 F C S hst kk
  by_cases o13 : op = 13
  · subst o13; exact x_s13 F C S hst kk
  by_cases o14 : op = 14
  · subst o14; exact x_s14 F C S hst kk
  by_cases o15 : op = 15
  · subst o15; exact x_s15 F C S hst kk
  by_cases o16 : op = 16
  · subst o16; exact x_s16 F C S hst kk
  by_cases o17 : op = 17
  · subst o17; exact x_s17 F C S hst kk
  by_cases o18 : op = 18
  · subst o18; exact x_s18 F C S hst kk
  by_cases o19 : op = 19
  · subst o19; exact x_s19 F C S hst kk
  by_cases o20 : op = 20
  · subst o20; exact x_s20 F C S hst kk
  by_cases o21 : op = 21
  · subst o21; exact x_s21 F C S hst kk
  by_cases o22 : op = 22
  · subst o22; exact x_s22 F C S hst kk
  by_cases o23 : op = 23
  · subst o23; exact x_s23 F C S hst kk
  by_cases o24 : op = 24
  · subst o24; exact x_s24 F C S hst kk
  by_cases o25 : op = 25
  · subst o25; exact x_s25 F C S hst kk
  by_cases o26 : op = 26
  · subst o26; exact x_s26 F C S hst kk
  by_cases o27 : op = 27
  · subst o27; exact x_s27 F C S hst kk
  by_cases o32 : op = 32
  · subst o32; exact x_s32 F C S hst kk
  by_cases o28 : op = 28
  · subst o28; exact x_s28 F C S hst kk
  by_cases o29 : op = 29
  · subst o29; exact x_s29 F C S hst kk
  by_cases o30 : op = 30
  · subst o30; exact x_s30 F C S hst kk
  by_cases o31 : op = 31
  · subst o31; exact x_s31 F C S hst kk
  by_cases o33 : op = 33
  · subst o33; exact x_s33 F C S hst kk
  by_cases o34 : op = 34
  · subst o34; exact x_s34 F C S hst kk
  by_cases o35 : op = 35
  · subst o35; exact x_s35 F C S hCS hst kk
  by_cases o36 : op = 36
  · subst o36; exact x_s36 F C S hCS hst kk
  by_cases o37 : op = 37
  · subst o37; exact x_s37 F C S hCS hst kk
  by_cases o38 : op = 38
  · subst o38; exact x_s38 F C S hCS hst kk
  by_cases o43 : op = 43
  · subst o43; exact x_s43 F C S hst kk
  by_cases o44 : op = 44
  · subst o44; exact x_s44 F C S hcs hst kk
  by_cases o45 : op = 45
  · subst o45; exact x_s45 F C S hcs hst kk
  by_cases o46 : op = 46
  · subst o46; exact x_s46 F C S hst kk
  by_cases o47 : op = 47
  · subst o47; exact x_s47 F C S hst kk
  by_cases o54 : op = 54
  · subst o54; exact x_s54 F C S hscr hst kk
  by_cases o55 : op = 55
  · subst o55; exact x_s55 F C S hscr hst kk
  have hst : x_stp (op, a, t, u, pc) k als ast b h = some c' := hst
  simp only [x_stp, if_neg o0, if_neg o1, if_neg o2, if_neg o3, if_neg o4, if_neg o5, if_neg o6, if_neg o7, if_neg o8, if_neg o9, if_neg o10, if_neg o11, if_neg o12, if_neg o13, if_neg o14, if_neg o15, if_neg o16, if_neg o17, if_neg o18, if_neg o19, if_neg o20, if_neg o21, if_neg o22, if_neg o23, if_neg o24, if_neg o25, if_neg o26, if_neg o27, if_neg o32, if_neg o28, if_neg o29, if_neg o30, if_neg o31, if_neg o33, if_neg o34, if_neg o35, if_neg o36, if_neg o37, if_neg o38, if_neg o43, if_neg o44, if_neg o45, if_neg o46, if_neg o47, if_neg o54, if_neg o55] at hst
  cases hst
/-- a method's words, its room, its start and its end -/
noncomputable def x_wst (t : Nat) : List Cond := .code (x_nm t) (x_by t) (x_ml t) (x_rty (x_rt t)) :: lw_tbl.filter goodWord
noncomputable def x_rm (t : Nat) : Room := { frames := x_dp t, cells := x_mc t, slots := x_ms t, locals := x_lc t }
def x_Pb (D : va_G) (cy : Nat → ClassId) (A : Nat → Prop) (L : List Nat) (h : xH) (U : State) : Prop := (∀ q : Nat, U.heap.size ≤ q → A q) ∧ x_Vw D cy A L h U.heap ∧ va_K D vwCl (x_tys cy) U ∧ ∀ C ∈ x_aos, va_AO C U
def x_Qc (D : va_G) (cy : Nat → ClassId) (A : Nat → Prop) (bs : Nat) (L : List Nat) (v : Option xV) (h : xH) : Array Value → State → Outcome → State → Prop := fun _ st o t => (∃ L' : List Nat, x_ext L L' ∧ o = .returned (v.map (x_conc bs L')) ∧ x_Vw D cy A L' h t.heap ∧ ∀ w ∈ v, x_okv h.1 w) ∧ va_F A st t
/-- what stands at a return -/
def x_Re (y k : Nat) (st : List xV) (v : Option xV) (h : xH) : Prop := k < (x_cd y).length ∧ 50 ≤ (x_in y k).1 ∧ (x_in y k).1 ≤ 53 ∧ x_ret (x_in y k).1 st = some v ∧ ∀ w ∈ st, x_okv h.1 w
theorem x_in_lt {y k : Nat} (h : (x_in y k).1 ≠ 63) : k < (x_cd y).length := by
  apply Classical.byContradiction
  intro q
  apply h
  unfold x_in
  rw [List.getD_eq_getElem?_getD, List.getElem?_eq_none (by omega)]
  rfl
theorem x_stp63 {i : xI} (hi : i.1 = 63) : x_stp i k als ast b h = none := by
  obtain ⟨op, a, t, u, pc⟩ := i
  subst hi
  rfl
theorem x_ckm_of {t : Nat} (ht : t < 181) : (x_nm t).cls = (x_q (x_rk t)).1 ∧ x_rk t < 8 ∧ x_rt t < 6 ∧ plainName (x_nm t).cls = true ∧ ((x_nm t).cls ≠ "java/lang/invoke/MethodHandle" ∧ (x_nm t).cls ≠ "java/lang/invoke/VarHandle") ∧ .code (x_nm t) (x_by t) (x_ml t) (x_rty (x_rt t)) ∈ lw_tbl ∧ .initialized (x_nm t).cls ∈ lw_tbl ∧ (if x_st t = 1 then .static (x_nm t) ∈ lw_tbl ∧ (parseMethodDescriptor (x_nm t).desc).map (fun d => d.parameters.length) = some (x_np t) else 1 ≤ x_np t ∧ .instanceMethod (x_nm t) ∈ lw_tbl ∧ (parseMethodDescriptor (x_nm t).desc).map (fun d => d.parameters.length) = some (x_np t - 1) ∧ (if x_st t = 2 then (x_nm t).name = "<init>" ∧ x_rt t = 0 else x_st t = 0 ∧ .selects (x_nm t).cls (x_nm t) (x_nm t) ∈ lw_tbl)) := by
  have C := x_ckm_ok ht
  unfold x_nm x_rk x_rt x_by x_ml x_st x_np x_bw
  revert C
  generalize x_mi t = me
  intro C
  obtain ⟨nm, ml, rt, ⟨dp, lc, mc, ms⟩, ⟨np, st, rk⟩, ⟨pc, ps, psel, pin⟩, cd⟩ := me
  unfold x_ckm at C
  simp only [Bool.and_eq_true, decide_eq_true_eq] at C
  obtain ⟨⟨⟨⟨⟨⟨⟨⟨C1, C2⟩, C3⟩, C4⟩, C5⟩, C6⟩, C7⟩, C8⟩, C9⟩ := C
  refine ⟨C3, C4, C5, C7, C8, ?_, x_wd_ok C2, ?_⟩
  · show Cond.code nm (if rk = 8 then code else match (x_dr pc).head? with | some (.code _ b _ _) => b | _ => ⟨#[]⟩) ml (x_rty rt) ∈ lw_tbl
    rw [if_neg (by omega)]
    cases hd : (x_dr pc).head? with
    | none => rw [hd] at C1; cases C1
    | some w =>
      rw [hd] at C1
      cases w <;> first | cases C1 | skip
      simp only [Bool.and_eq_true, decide_eq_true_eq] at C1
      obtain ⟨⟨rfl, rfl⟩, rfl⟩ := C1
      rw [x_wdr, List.head?_drop] at hd
      exact List.mem_of_getElem? hd
  · show if st = 1 then Cond.static nm ∈ lw_tbl ∧ (parseMethodDescriptor nm.desc).map (fun d => d.parameters.length) = some np else 1 ≤ np ∧ Cond.instanceMethod nm ∈ lw_tbl ∧ (parseMethodDescriptor nm.desc).map (fun d => d.parameters.length) = some (np - 1) ∧ (if st = 2 then nm.name = "<init>" ∧ rt = 0 else st = 0 ∧ Cond.selects nm.cls nm nm ∈ lw_tbl)
    by_cases q : st = 1
    · rw [if_pos q] at C9 ⊢
      simp only [Bool.and_eq_true, decide_eq_true_eq] at C9
      exact ⟨x_wd_ok C9.1, C9.2⟩
    · rw [if_neg q] at C9 ⊢
      by_cases q2 : st = 2
      · rw [if_pos q2] at C9 ⊢
        simp only [Bool.and_eq_true, decide_eq_true_eq] at C9
        exact ⟨C9.1.1.1, x_wd_ok C9.1.1.2, C9.1.2, C9.2⟩
      · rw [if_neg q2] at C9 ⊢
        simp only [Bool.and_eq_true, decide_eq_true_eq] at C9
        exact ⟨C9.1.1.1, x_wd_ok C9.1.1.2, C9.1.2, C9.2.1, x_wd_ok C9.2.2⟩
theorem x_good_wst {t : Nat} (ht : t < 181) : ∀ w ∈ x_wst t, w ∈ lw_tbl.filter goodWord := by
  intro w hw
  rcases List.mem_cons.mp hw with rfl | hw
  · exact List.mem_filter.mpr ⟨(x_ckm_of ht).2.2.2.2.2.1, rfl⟩
  · exact hw
theorem x_GoodIn {ws : List Cond} (h : ∀ w ∈ ws, w ∈ lw_tbl.filter goodWord) : GoodIn (lw_tbl.filter goodWord) ws := fun w hw => ⟨h w hw, good_of_word (List.mem_filter.mp (h w hw)).2⟩
theorem x_in_gw {w : Cond} (h1 : w ∈ lw_tbl) (h2 : goodWord w = true) : w ∈ lw_tbl.filter goodWord := List.mem_filter.mpr ⟨h1, h2⟩
/-- behind a call -/
theorem x_back {pc : Nat} {st0 rest : List Value} {as : Array Value} {mc ms : Nat} {v : Option xV} {h' : xH} (hr : va_Run p l e R s m args below meth c H locs cells slots mc ms (F0 m pc ls st0) rest (x_Qc D cy A bs L v h' as) A) (hS : va_S A s.heap H locs)
    (kk : ∀ (L' : List Nat) (H1 : Heap) (locs1 : List Loc), x_ext L L' → x_Vw D cy A L' h' H1 → va_S A s.heap H1 locs1 → (∀ w ∈ v, x_okv h'.1 w) → W p l e R s m args below meth c H1 locs1 (cells + mc) (slots + ms) Q (F0 m (pc + 3) ls ((v.map (x_conc bs L')).toList ++ rest))) : W p l e R s m args below meth c H locs cells slots Q (F0 m pc ls st0) := by
  intro T hT X
  obtain ⟨w, st₀, t, T', L1, h0, X', hL, e1, e2, ⟨⟨L', he, ho, hV, hvk⟩, hz, hk⟩, st⟩ := hr T hT X
  cases ho
  rw [h0] at hz hk
  obtain ⟨t2, a1, b1⟩ := kk L' T'.heap (locs ++ L1) he (by rw [e1]; exact hV)
    ⟨Nat.le_trans hS.1 (by rw [e1]; exact hz), fun q h1 h2 => by rw [e1, hk q (Nat.lt_of_lt_of_le h1 hS.1) h2]; exact hS.2.1 q h1 h2, fun q hq => by
      rcases List.mem_append.mp hq with h | h
      · exact hS.2.2 q h
      · exact hL q h⟩ hvk T' rfl X'
  exact ⟨t2, st t2 a1, b1⟩
theorem x_blind {as : List Value} {h : xH} : FrameBlind (va_Pc as (x_Pb D cy A L h)) := fun a U g mk q => ⟨q.1, q.2.1, q.2.2.1, va_K.moved (u := U) (U := U.calling g mk a) (Vm.Alike.refl U.vm) q.2.2.2.1, fun C hC => va_AO.moved (u := U) (U := U.calling g mk a) (Vm.Alike.refl U.vm) (q.2.2.2.2 C hC)⟩
theorem x_sl (vs : List Value) (h : ∀ v ∈ vs, v.category = 1) : lg_sl vs = vs.map Slot.val ∧ lv_args 0 vs = vs.zipIdx.map (fun q => (q.2, q.1)) := by
  have key : ∀ (vs : List Value) (i : Nat), (∀ v ∈ vs, v.category = 1) → lg_sl vs = vs.map Slot.val ∧ lv_args i vs = (vs.zipIdx i).map (fun q => (q.2, q.1)) := by
    intro vs
    induction vs with
    | nil => intro i _; exact ⟨rfl, rfl⟩
    | cons v vs ih =>
      intro i h
      have hv := h v List.mem_cons_self
      obtain ⟨h1, h2⟩ := ih (i + 1) (fun w hw => h w (List.mem_cons_of_mem _ hw))
      refine ⟨?_, ?_⟩
      · have e : lg_sl (v :: vs) = (if v.category = 2 then [Slot.val v, .second] else [Slot.val v]) ++ lg_sl vs := by simp only [lg_sl, List.flatMap_cons]
        rw [e, if_neg (by omega), h1]
        rfl
      · unfold lv_args
        rw [if_neg (by omega), h2]
        rfl
  exact key vs 0 h
end
