/-! THE CLAIM OUT OF ONE WALK OF THE LAW'S BODY. Your part is whole_start (and what it stands on); all else here is the same for every law, but numbers. -/
def R_law : String := "WheelStandsLaw"
def lw_P (b : Addr) (xs : List Int32) (args : Array Value) (s : State) : Prop := args = #[.ref b] ∧ s.IntsAt b xs ∧ xs.length ≤ 2560 ∧ (Jvm.Cond.and given_1 narrow_1).before args s = true
/-- what a walk over the start with the record d0 says of its end, said of the start itself -/
theorem lw_closed {s t : State} {o : Outcome} {d0 : Drawn} {L : List Loc} {k n : Nat} (hd0 : s.drawn.sameBut d0 lw_cs) (hv : ∃ v, o = .returned v) (hW : (s.setDrawn d0).WarmedH t.vm) (hs : (s.setDrawn d0).sameButNew ({ t with vm := s.vm } : State) L k n) : State.butDraws s t lw_cs (fun t1 => Framed s o t1 L k n) := by
  have h2 : t.drawn = d0 := congrArg State.drawn hs.1
  refine ⟨⟨hv, hW, State.sameButNew.setDrawn hs s.drawn⟩, ?_, by decide⟩
  rw [h2]
  exact hd0
def lw_Q (_ : Array Value) (s : State) (o : Outcome) (t : State) : Prop := o = .returned (some (.int 1)) ∧ State.butDraws s t lw_cs (fun t1 => Framed s o t1 [] 1200000 5502250)
def lw_Z (below : List Frame) (a : Array Value) (s : State) : State → Prop := fun t => ∃ o, t.status = .running ∧ Ended t below o ∧ lw_Q a s o t
/-- the law's own end, with 1 on the stack, nothing written that was there before, its room as the claim has it; d0: the record of draws at this point (at the entry s.drawn: begin with 'refine W.base ?_' and 'have hd0 := Drawn.sameBut.refl s.drawn lw_cs') -/
theorem lw_ret {p : Program} {l : Launch} {e : Env} {s : State} {m : MethodId} {below : List Frame} {meth : Method} {c : Code} {b : Nat} {d0 : Drawn} (hd0 : s.drawn.sameBut d0 lw_cs) (hx : p.tables.exec = Jvm.exec) (hb : c.code = code) (hr : meth.sig.returnType = ret) (hlocks : meth.locks = false) {pc : Nat} {H : Heap} {ls : Array Slot} (hdg : decode code pc = .ok (.ireturn, 1)) : W p l e room_1 (s.setDrawn d0) m #[Value.ref b] below meth c H [] 1200000 5502250 (lw_Z below #[Value.ref b] s) (F0 m pc ls [.int 1]) := by
  intro T hT X
  obtain ⟨fs, hret, hrun, hended, hW, hframe⟩ := X.leave (v := some (.int 1)) (hlocks := hlocks) (fun h => by rw [hr] at h; cases h)
  have hmeth' : T.vm.method? m = some meth := X.method'
  refine ⟨T.setFrames fs, ?_, .returned (some (.int 1)), hrun, hended, rfl, lw_closed hd0 ⟨_, rfl⟩ hW hframe⟩
  jvm_step X.here [X.here.top, hx, hb, hdg, hmeth', hr, ret, narrow_b1]
  (try refine ⟨rfl, ?_⟩); (try refine ⟨rfl, ?_⟩)
  first | (intro acts; rw [hret _ acts rfl rfl rfl]) | rw [hret _ _ rfl rfl rfl]
  exact Steps.refl _
/-- what holds at the law's entry: the machine, the code, the tables' words (any of lw_tbl by 'hts w (by decide +kernel)'), the script of L ints xs at the cell b, what the Statement gives of the start (any of its parts by flat_of_before) -/
def lw_At (p : Program) (s : State) (m : MethodId) (meth : Method) (c : Code) (b L : Nat) (xs : Nat → Int32) : Prop :=
  p.tables.exec = Jvm.exec ∧ c.code = code ∧ meth.sig.returnType = ret ∧ c.maxLocals = 4 ∧ s.vm.findClass R_law = some m.cls ∧ (∀ w ∈ lw_tbl, w.before #[Value.ref b] s = true) ∧ va_X b L xs s s.heap ∧ b < s.heap.size ∧ meth.locks = false ∧ (Jvm.Cond.and given_1 narrow_1).before #[Value.ref b] s = true
/-! THE LAW'S ENTRY: its body is run by the interpreter too -/
theorem x_law_known {s : State} {args : Array Value} (hts : ∀ w ∈ lw_tbl, w.before args s = true) : ∃ (D : va_G) (cy : Nat → ClassId), va_K D vwCl (x_tys cy) s ∧ ∀ C ∈ x_aos, va_AO C s := by
  have hk : ∀ c, ∃ (q : ClassId × (Nat → Nat)), c < 8 → u_Kn s (x_q c).1 (x_q c).2.1 (xnsl c) q.1 q.2 := fun c => by
    by_cases hc : c < 8
    · obtain ⟨q1, q2, q3, q4⟩ := x_cls hc
      have hio := List.all_eq_true.mp x_inok c (List.mem_range.mpr hc)
      simp only [Bool.and_eq_true] at hio
      obtain ⟨cC, iS, h⟩ := u_known (C := (x_q c).1) (T := (x_q c).2.1) (N := xnsl c) hts (fun w hw => (q2 w hw).1) (hts _ (x_wd_ok hio.1))
      exact ⟨(cC, iS), fun _ => h⟩
    · exact ⟨(0, fun _ => 0), fun h => absurd h hc⟩
  have J := x_jdk
  simp only [Bool.and_eq_true] at J
  have hAO : ∀ j, j < 4 → va_AO (["WheelStands$Cart", "WheelStands$Stand", "WheelStands$Town", "WheelStands$Wheel"].getD j "") s := fun j hj => va_AO.of (hts _ (x_wd_ok (List.all_eq_true.mp x_aok j (List.mem_range.mpr hj))))
  obtain ⟨cI, kI, mI, i1, i2, i3⟩ := Cond.arrayClass_spec (hts _ (x_wd_ok J.1.2))
  obtain ⟨cZ, kZ, mZ, z1, z2, z3⟩ := Cond.arrayClass_spec (hts _ (x_wd_ok J.2))
  obtain ⟨m10, c10, k10, a1, a2, a3, a4, a5⟩ := Cond.arrayOver_spec (va_AO.use (A := args) (hAO 0 (by omega)))
  obtain ⟨m11, c11, k11, b1, b2, b3, b4, b5⟩ := Cond.arrayOver_spec (va_AO.use (A := args) (hAO 1 (by omega)))
  obtain ⟨m12, c12, k12, d1, d2, d3, d4, d5⟩ := Cond.arrayOver_spec (va_AO.use (A := args) (hAO 2 (by omega)))
  obtain ⟨m13, c13, k13, e1, e2, e3, e4, e5⟩ := Cond.arrayOver_spec (va_AO.use (A := args) (hAO 3 (by omega)))
  refine ⟨(fun c => (Classical.choose (hk c)).1, fun c => (Classical.choose (hk c)).2), fun n => if n = 8 then cI else if n = 9 then cZ else if n = 10 then c10 else if n = 11 then c11 else if n = 12 then c12 else c13, ⟨fun c q hq => ?_, fun k q hq => ?_⟩, fun C hC => ?_⟩
  · have hc : c < 8 := (List.getElem?_eq_some_iff.mp hq).1
    have h := (x_cls hc).1.symm.trans hq
    cases h
    exact Classical.choose_spec (hk c) hc
  · have hk6 : k < 6 := (List.getElem?_eq_some_iff.mp hq).1
    rcases (show k = 0 ∨ k = 1 ∨ k = 2 ∨ k = 3 ∨ k = 4 ∨ k = 5 by omega) with rfl | rfl | rfl | rfl | rfl | rfl
    · cases hq; exact ⟨fun n z => ⟨fun k h => (by cases h), kI, i2, mI, i3⟩, i1⟩
    · cases hq; exact ⟨fun n z => ⟨fun k h => (by cases h), kZ, z2, mZ, z3⟩, z1⟩
    · cases hq; exact ⟨fun n z => ⟨fun k h => (by cases h), k10, a3, m10, a4⟩, k10, m10, a3, a4, a1, a5⟩
    · cases hq; exact ⟨fun n z => ⟨fun k h => (by cases h), k11, b3, m11, b4⟩, k11, m11, b3, b4, b1, b5⟩
    · cases hq; exact ⟨fun n z => ⟨fun k h => (by cases h), k12, d3, m12, d4⟩, k12, m12, d3, d4, d1, d5⟩
    · cases hq; exact ⟨fun n z => ⟨fun k h => (by cases h), k13, e3, m13, e4⟩, k13, m13, e3, e4, e1, e5⟩
  · simp only [x_aos, List.mem_cons, List.not_mem_nil, or_false] at hC
    rcases hC with rfl | rfl | rfl | rfl
    · exact hAO 0 (by omega)
    · exact hAO 1 (by omega)
    · exact hAO 2 (by omega)
    · exact hAO 3 (by omega)
def x_sM (N : Nat) (xs : Nat → Int32) : Int → Int → Int := fun a j => if a = -2 then (if j = -1 then (N : Int) else if 0 ≤ j then (xs j.toNat).toInt else 0) else 0
theorem whole_start {p : Program} {e : Env} {s : State} {m : MethodId} {below : List Frame} {meth : Method} {c : Code} (l : Launch) (hflags : l.flags = flags0) {b L : Nat} {xs : Nat → Int32} (hL : L ≤ 2560) (C0 : lw_At p s m meth c b L xs) : W p l e room_1 s m #[Value.ref b] below meth c s.heap [] 0 0 (lw_Z below #[Value.ref b] s) (entryFrame m ([Value.ref b] : List Value).toArray 4) := by
  obtain ⟨hx, hb, hr, hml, hown, hts, hX, hbl, hlocks, hgv⟩ := id C0
  obtain ⟨D, cy, hK, hAO⟩ := x_law_known hts
  obtain ⟨n, q, hrun, hq⟩ := x_law L xs hL
  obtain ⟨v, h'⟩ := q
  have hq : v = some (.inl 1) := hq
  subst hq
  refine W.base ?_
  have hd0 := Drawn.sameBut.refl s.drawn lw_cs
  have hl := lv_entry ([.ref b]) (n := 4) (Nat.le_of_ble_eq_true rfl)
  rw [lg_entry_eq]
  generalize (lg_sl ([.ref b]) ++ List.replicate (4 - (lg_sl ([.ref b])).length) Slot.unset).toArray = ls at hl ⊢
  have e0 : x_mi xlaw = (⟨"WheelStandsLaw", "law", "([I)Z"⟩, 4, 2, (8, 187, 0, 0), (1, 1, 8), (0, 0, 0, 0), xc181) := (xg (n := 156) (j := 25) xr6 rfl)
  have hby : x_by xlaw = code := by unfold x_by x_bw; rw [e0]; exact if_pos rfl
  have F : x_Fr p room_1 (s.setDrawn s.drawn) m #[Value.ref b] meth c D cy (fun q => s.heap.size ≤ q) xlaw := by
    refine ⟨by decide, hx, by rw [hby]; exact hb, by unfold x_ml; rw [e0]; exact hml, by unfold x_nm; rw [e0]; exact hown, fun w hw _ => hts w hw, fun q => ?_, hK, hAO, by unfold x_dp; rw [e0]; decide, by unfold x_lc; rw [e0]; decide, fun q h => h⟩
    exact absurd (q.symm.trans (show x_st xlaw = 1 by unfold x_st; rw [e0])) (by decide)
  have hml4 : x_ml xlaw = 4 := by unfold x_ml; rw [e0]
  have hnp1 : x_np xlaw = 1 := by unfold x_np; rw [e0]
  have S : x_St (s.setDrawn s.drawn) D cy (fun q => s.heap.size ≤ q) b xlaw 1200000 5502250 [] (0, fun _ _ => -1, x_sM L xs) s.heap [] ls [.inr (-2), x_un, x_un, x_un] [] (1200000, 5502250) 0 0 := by
    refine ⟨⟨rfl, fun a k => ?_, fun a k => ⟨show (-1 : Int) ≤ -1 by omega, show (-1 : Int) < 0 by omega⟩, fun k q h => by simp [x_ws] at h, fun i j p q h => by simp [x_ws] at h, fun k q h => by simp [x_ws] at h⟩, va_S.rf, ?_, fun v hv => ?_, fun v hv => (by cases hv), rfl, rfl⟩
    · show x_in32 (x_sM L xs a k)
      unfold x_sM
      split
      · split
        · unfold x_in32; omega
        · split
          · exact x_in32_t _
          · exact x_zero
      · exact x_zero
    · have := x_lr0 (bs := b) (L := []) (ls := ls) (nL := 4) (d := 3) (as := [.inr (-2)]) (by rw [show List.map (x_conc b []) [Sum.inr (-2)] = [Value.ref b] by simp [x_conc]]; exact hl) rfl
      rw [hml4]
      exact this
    · simp only [List.mem_cons, List.not_mem_nil, or_false] at hv
      rcases hv with rfl | rfl | rfl | rfl
      · show (-2 : Int) < 0; omega
      · show (-9 : Int) < 0; omega
      · show (-9 : Int) < 0; omega
      · show (-9 : Int) < 0; omega
  have hscr : x_rk xlaw = 8 → x_Scr (s.setDrawn s.drawn) (fun q => s.heap.size ≤ q) b (0, fun _ _ => -1, x_sM L xs) := fun _ => by
    refine ⟨L, xs, hX, hbl, Nat.not_le.mpr hbl, fun j hj => ?_, rfl, by omega⟩
    show x_sM L xs (-2) j = _
    unfold x_sM
    rw [if_pos rfl, if_neg (by omega), if_pos (by omega), Int.toNat_natCast]
  have K := x_sound l n hrun F ⟨Nat.le_refl _, Nat.le_refl _⟩ S hscr (e := e) (below := below) (Q := lw_Z below #[Value.ref b] s) ?_
  · rw [x_pc0 (by decide) (x_run_lt hrun)] at K
    exact K
  · intro L' H' locs' ls' k' st' he hV hS hR
    obtain ⟨r1, r2, r3, r4, r5⟩ := hR
    have C := x_ck (y := xlaw) (by decide) r1
    have hrt : x_rt xlaw = 2 := by unfold x_rt; rw [e0]
    rw [hrt, hby] at C
    unfold x_pc at C ⊢
    revert C r2 r3 r4
    generalize x_in xlaw k' = i
    intro r2 r3 r4 C
    obtain ⟨op, a, tt, u, pc⟩ := i
    refine va_forget (fun q h => hS.2.2 q h) ?_
    rcases x_ret_ok r4 with ⟨ho, i, rfl, h2⟩ | ⟨ho, i, rfl, h2, hi⟩ | ⟨ho, r, rfl, h2, hi⟩ | ⟨ho, rfl, h2⟩
    · have ho : op = 50 := ho
      subst ho
      have C : (x_is (code.data.toList.drop pc) .ireturn 1 && decide (2 = 1)) = true := C
      simp at C
    · have ho : op = 51 := ho
      subst ho
      cases h2
      have C : (x_is (code.data.toList.drop pc) .ireturn 1 && decide (2 = 2)) = true := C
      simp only [Bool.and_eq_true] at C
      exact lw_ret hd0 hx hb hr hlocks (x_is_ok C.1)
    · cases h2
    · cases h2
set_option maxHeartbeats 4000000 in
theorem lw_walk (l : Launch) (hflags : l.flags = flags0) (b : Addr) (xs : List Int32) : MetFree l x (headSpec (Jvm.Cond.code x code maxLocals ret :: tables_1) room_1) (lw_P b xs) (fun _ _ _ _ _ => True) lw_Q := by
  refine MetFree.of_bodyS (code := code) (maxLocals := maxLocals) (ret := ret) (by decide) ?_ ?_
  · intro args s m h hn
    obtain ⟨meth, c, h1, h2, h3, h4, h5, h6, -, -⟩ := Cond.code_spec hn (atoms_spec (ws := Jvm.Cond.code x code maxLocals ret :: tables_1) h _ List.mem_cons_self)
    exact ⟨meth, c, h1, h2, h3, h4, h5, h6⟩
  · intro p e s m args below meth c s₁ B hml0 hP _
    obtain ⟨rfl, hx, hbd, hgv⟩ := hP
    obtain ⟨scr, harrAt, hlist, hof, hsmall⟩ := hx
    obtain ⟨hcb, hkn, -, -⟩ := State.arrayAt?_spec harrAt
    have hown : s.vm.findClass R_law = some m.cls := findClass_of_methodNamed B.named
    have hts0 : ∀ c ∈ (Jvm.Cond.code x code maxLocals ret :: tables_1), c.before #[Value.ref b] s = true := atoms_spec (ws := Jvm.Cond.code x code maxLocals ret :: tables_1) B.pre
    have hts : ∀ w ∈ lw_tbl, w.before #[Value.ref b] s = true := k2_hts_sels lw_privs (fun w hw => hts0 w (List.mem_cons_of_mem _ hw)) lw_privs_ok
    have hml : c.maxLocals = 4 := B.maxLocals_eq (hts0 _ List.mem_cons_self)
    have X₀ : Stand p l e room_1 s m #[Value.ref b] below meth c s₁ [] 0 0 := Stand.of_body B
    have hh0 : s₁.heap = s.heap := by rw [B.state]; rfl
    have hsz : scr.slots.size = xs.length := by rw [← Array.length_toList, hlist, List.length_map]
    have hval : ∀ j : Nat, j < xs.length → scr.slots[j]? = some (.int (xs.getD j 0)) := fun j hj => by
      rw [← Array.getElem?_toList, hlist]
      simp [hj]
    have hbl : b < s.heap.size := (Array.getElem?_eq_some_iff.mp hcb).1
    have hX : va_X b xs.length (fun j => xs.getD j 0) s s.heap := ⟨scr, hcb, hof, hkn, hsz, hval⟩
    have K : W p l e room_1 s m #[Value.ref b] below meth c s₁.heap [] 0 0 (lw_Z below #[Value.ref b] s) (entryFrame m ([Value.ref b] : List Value).toArray 4) := by
      rw [hh0]
      exact whole_start l hflags hbd ⟨B.exec, B.bytes, B.returns, hml, hown, hts, hX, hbl, B.notSynchronized, hgv⟩
    obtain ⟨t, a1, o, b1, b2, b3⟩ := K s₁ rfl X₀
    exact ⟨t, o, a1, b1, b2, b3⟩
theorem lw_pre_spec {args : Array Value} {s : State} (h : (Jvm.Cond.and given_1 narrow_1).before args s = true) (hr : rest_1_c.before args s = true) : ∃ (b : Addr) (xs : List Int32), lw_P b xs args s := by
  have hs := flat_of_before _ h
  have hq := flat_of_before _ hr
  have hc : (Cond.count 1).before args s = true := hs _ (by decide +kernel)
  have harr : (Cond.arrayOf (.arg 0) .int).before args s = true := hs _ (by decide +kernel)
  have hle : (Cond.le (.length (.arg 0)) (.int 2560)).before args s = true := hs _ (by decide +kernel)
  have hlen : (Cond.isInt (.length (.arg 0))).before args s = true := hq _ (by decide +kernel)
  have hall : (Cond.all (.arg 0) (.isInt (.elem (.arg 0) (.index 0)))).before args s = true := hq _ (by decide +kernel)
  obtain ⟨b, xs, hb, hx⟩ := State.ints_of_pre rfl harr hlen hall
  have hsm : xs.length < 2 ^ 31 := hx.choose_spec.2.2.2
  have hev : (Term.length (.arg 0)).eval args s none [] s = some (.int xs.length.toInt32) := hx.length_eval hb
  have hv := Cond.le_ints hev (show (Term.int 2560).eval args s none [] s = some (.int 2560) from rfl)
  have hd : xs.length.toInt32 ≤ 2560 := by
    simpa [Cond.before, Cond.holds, hv] using hle
  have hN : xs.length ≤ 2560 := (Int32.ofNat_le_ofNat hsm (by decide)).mp (show Int32.ofNat xs.length ≤ Int32.ofNat 2560 from hd)
  exact ⟨b, xs, Cond.one_arg hc (show args[0]? = some (.ref b) from hb), hx, hN, h⟩
theorem lw_comes (l : Launch) (hflags : l.flags = flags0) : Comes l x (Jvm.Cond.code x code maxLocals ret :: tables_1) room_1 (fun tb e args s => Calls_1 tb e args s ∧ rest_1 tb e args s ∧ Pre_1 tb e args s)
    (fun _ _ args s o t => lw_Q args s o t) := by
  intro p e ha hc hk s m args below hf hfit hheap happ hpre
  obtain ⟨b, xs, hP⟩ := lw_pre_spec hpre.2.2 hpre.2.1
  obtain ⟨k, o, h1, h2, h3, hQ⟩ := lw_walk l hflags b xs p e ha hc hk s m args below hf ((Spec.applies_iff_loose hf).mp happ).1 hP trivial
  exact ⟨k, o, h1, h2, h3, hQ⟩
theorem lw_frame {s t : State} {o : Outcome} {args : Array Value} (h : State.butDraws s t lw_cs (fun t1 => Framed s o t1 [] 1200000 5502250)) :
    State.butDraws s t [Jvm.Choice.named "NaN.bits"] (fun t1 => Framed s o t1 (fieldLocs frame_1_writes args s ++ arrayLocs frame_1_arrays args s ++ staticLocs frame_1_statics s) 1200000 5502250) := h
theorem lw_limb (L : Cond) (hL : ∀ (args : Array Value) (s t : State), L.after args s (.returned (some (.int 1))) t = true) :
    ArmFor flags0 classFile x code maxLocals ret World_1 tables_1 room_1 Calls_1 rest_1 Pre_1
      (fun tb e a s o t => postC L tb e a s o t ∧ State.butDraws s t [Jvm.Choice.named "NaN.bits"] (fun t1 => Framed s o t1 (fieldLocs frame_1_writes a s ++ arrayLocs frame_1_arrays a s ++ staticLocs frame_1_statics s) 1200000 5502250)) := by
  intro l hflags _ _ p e ha hc hk s m args below hf hfit hheap happ hpre
  obtain ⟨k, o, h1, h2, h3, rfl, hF⟩ := lw_comes l hflags p e ha hc hk s m args below hf hfit hheap happ hpre
  exact ⟨k, _, h1, h2, h3, hL args s _, lw_frame hF⟩
theorem i_vc : Claimed_1_1 ∧ Claimed_1_2 := ⟨lw_limb limb_1_1 (fun args s t => by simp [limb_1_1, Cond.after, Cond.holds, Cond.value]), lw_limb limb_1_2 (fun args s t => Cond.after_iff.mpr (by
  first | (rw [show limb_1_2 = Cond.eq .result (.int 1) from rfl, Cond.eq_ints (x := 1) (y := 1) rfl rfl]; simp; done) | (simp [limb_1_2, Cond.value, Term.eval]; done)))⟩
