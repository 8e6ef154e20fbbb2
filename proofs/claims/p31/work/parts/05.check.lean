/-! THE TABLES AGREE WITH THE BYTES AND THE WORDS -/
def x_D (sf : List UInt8) (p p2 : Nat) (i : Instr) (len : Nat) : Bool := x_is sf i len && decide (p2 = p + len)
def x_ifI (u : Nat) (off : Int) : Instr := if u = 0 then .ifCond .eq off else if u = 1 then .ifCond .ne off else if u = 2 then .ifCond .lt off else if u = 3 then .ifCond .ge off else if u = 4 then .ifCond .gt off else .ifCond .le off
def x_icI (u : Nat) (off : Int) : Instr := if u = 0 then .if_icmp .eq off else if u = 1 then .if_icmp .ne off else if u = 2 then .if_icmp .lt off else if u = 3 then .if_icmp .ge off else if u = 4 then .if_icmp .gt off else .if_icmp .le off
def x_q (c : Nat) : vw_C := vwCl.getD c (RX0, TX0, 0)
def x_tp (cd : List xI) (t : Nat) : Nat := (x_dec (cd.getD t x_63)).2.2.2.2
noncomputable def x_dr (n : Nat) : List Cond := Nat.rec (motive := fun _ => List Cond) lw_tbl (fun _ r => r.tail) n
noncomputable def x_wd (p : Nat) (w : Cond) : Bool := decide ((x_dr p).head? = some w)
/-- the bytes of a method, as its word in the tables has them -/
noncomputable def x_bw (me : XM) : ByteArray := if me.2.2.2.2.1.2.2 = 8 then code else match (x_dr me.2.2.2.2.2.1.1).head? with
  | some (.code _ b _ _) => b
  | _ => ⟨#[]⟩
noncomputable def x_by (y : Nat) : ByteArray := x_bw (x_mi y)
noncomputable def x_ckL (own : String) (t u : Nat) (f : Nat → Instr) (sf : List UInt8) (p p2 : Nat) : Bool := match xml[u]? with
  | some (pl, o, ix, y) => decide (o = own) && decide (y = t) && x_D sf p p2 (f ix) 3
  | none => false
def x_ckF (own : String) (t u : Nat) (f : Nat → Instr) (sf : List UInt8) (p p2 : Nat) : Bool := match xfl[u]? with
  | some (pl, o, ix, c, j) => decide (o = own) && decide (t = c * 16 + j) && x_D sf p p2 (f ix) 3
  | none => false
noncomputable def x_ckj (own : String) (rt dp lc st rk : Nat) (cd : List xI) (bw : ByteArray) (sf : List UInt8) (i : xI) (p2 : Nat) : Bool := match i with
  | (op, a, t, u, p) =>
    if op = 0 then (if u = 0 then x_D sf p p2 (.iconst a) 1 else if u = 1 then x_D sf p p2 (.bipush a) 2 && decide (-128 ≤ a) && decide (a < 128) else if u = 2 then x_D sf p p2 (.sipush a) 3 && decide (-32768 ≤ a) && decide (a < 32768)
      else (match xcn[u - 3]? with
        | some (pl, o, ix, v, w) => decide (o = own) && decide (v = Int32.ofInt a) && (if w = 1 then x_D sf p p2 (.ldc_w ix) 3 else x_D sf p p2 (.ldc ix) 2)
        | none => false)) && decide (-2147483648 ≤ a) && decide (a < 2147483648)
    else if op = 1 then (if u = 0 then decide (t < 4) && x_D sf p p2 (.iload_n (Fin.ofNat 4 t)) 1 else x_D sf p p2 (.iload t) 2)
    else if op = 2 then (if u = 0 then decide (t < 4) && x_D sf p p2 (.aload_n (Fin.ofNat 4 t)) 1 else x_D sf p p2 (.aload t) 2)
    else if op = 3 then (if u = 0 then decide (t < 4) && x_D sf p p2 (.istore_n (Fin.ofNat 4 t)) 1 else x_D sf p p2 (.istore t) 2)
    else if op = 4 then (if u = 0 then decide (t < 4) && x_D sf p p2 (.astore_n (Fin.ofNat 4 t)) 1 else x_D sf p p2 (.astore t) 2)
    else if op = 5 then x_D sf p p2 (.iinc t a) 3
    else if op = 6 then x_D sf p p2 .iadd 1
    else if op = 7 then x_D sf p p2 .isub 1
    else if op = 8 then x_D sf p p2 .imul 1
    else if op = 9 then x_D sf p p2 .irem 1
    else if op = 10 then x_D sf p p2 .ineg 1
    else if op = 11 then x_D sf p p2 .iand 1
    else if op = 12 then x_D sf p p2 .ior 1
    else if op = 13 then x_D sf p p2 .ishl 1
    else if op = 14 then x_D sf p p2 .ishr 1
    else if op = 15 then x_D sf p p2 (x_ifI u ((x_tp cd t : Int) - p)) 3
    else if op = 16 then x_D sf p p2 (x_icI u ((x_tp cd t : Int) - p)) 3
    else if op = 17 then x_is sf (.goto ((x_tp cd t : Int) - p)) 3
    else if op = 18 then x_D sf p p2 (.ifnull ((x_tp cd t : Int) - p)) 3
    else if op = 19 then x_D sf p p2 (.ifnonnull ((x_tp cd t : Int) - p)) 3
    else if op = 20 then x_D sf p p2 .aconst_null 1
    else if op = 21 then x_D sf p p2 .dup 1
    else if op = 22 then x_D sf p p2 .pop 1
    else if op = 23 then x_D sf p p2 .dup2 1
    else if op = 24 then x_ckF own t u .getfield sf p p2 && decide (xrf (t / 16) (t % 16) = false)
    else if op = 25 then x_ckF own t u .getfield sf p p2 && decide (xrf (t / 16) (t % 16) = true)
    else if op = 26 then x_ckF own t u .putfield sf p p2 && decide (xrf (t / 16) (t % 16) = false) && decide (((x_q (t / 16)).2.1 (t % 16)).2.2.1 = "I") && (decide (((x_q (t / 16)).2.1 (t % 16)).2.2.2 = false) || (decide (st = 2) && decide (((x_q (t / 16)).2.1 (t % 16)).1 = own)))
    else if op = 27 then x_ckF own t u .putfield sf p p2 && decide (xrf (t / 16) (t % 16) = true) && (decide (((x_q (t / 16)).2.1 (t % 16)).2.2.2 = false) || (decide (st = 2) && decide (((x_q (t / 16)).2.1 (t % 16)).1 = own)))
    else if op = 32 then x_ckF own t u .putfield sf p p2 && decide (xrf (t / 16) (t % 16) = false) && decide (((x_q (t / 16)).2.1 (t % 16)).2.2.1 = "Z") && decide (((x_q (t / 16)).2.1 (t % 16)).2.2.2 = false)
    else if op = 28 then x_D sf p p2 .iaload 1
    else if op = 29 then x_D sf p p2 .iastore 1
    else if op = 30 then x_D sf p p2 .aaload 1
    else if op = 31 then x_D sf p p2 .aastore 1
    else if op = 33 then x_D sf p p2 .baload 1
    else if op = 34 then x_D sf p p2 .bastore 1
    else if op = 35 then (match xcl[u]? with
      | some (pl, o, ix, cn) => decide (o = own) && decide (t < 8) && decide (cn = (x_q t).1) && x_D sf p p2 (.new ix) 3
      | none => false)
    else if op = 36 then x_D sf p p2 (.newarray .int) 2
    else if op = 37 then x_D sf p p2 (.newarray .boolean) 2
    else if op = 38 then (match xcl[u]? with
      | some (pl, o, ix, cn) => decide (o = own) && decide (10 ≤ t) && decide (t < 14) && decide (cn = ["WheelStands$Cart", "WheelStands$Stand", "WheelStands$Town", "WheelStands$Wheel"].getD (t - 10) "") && x_D sf p p2 (.anewarray ix) 3
      | none => false)
    else if op = 40 then x_ckL own t u .invokevirtual sf p p2 && decide (x_st t = 0) && decide (x_dp t + 1 ≤ dp) && decide (8 + (x_ml t + 11) + x_lc t ≤ lc)
    else if op = 41 then x_ckL own t u .invokestatic sf p p2 && decide (x_st t = 1) && decide (x_dp t + 1 ≤ dp) && decide (8 + (x_ml t + 11) + x_lc t ≤ lc)
    else if op = 42 then x_ckL own t u .invokespecial sf p p2 && decide (x_st t = 2) && decide (x_dp t + 1 ≤ dp) && decide (8 + (x_ml t + 11) + x_lc t ≤ lc)
    else if op = 56 then x_ckL own t u .invokestatic sf p p2 && decide (t = xprC ∨ t = xprM) && decide (x_st t = 1) && decide (x_dp t + 1 ≤ dp) && decide (8 + (x_ml t + 11) + x_lc t ≤ lc)
    else if op = 43 then x_wd u (.methodLink own t objectInit) && x_D sf p p2 (.invokespecial t) 3 && decide (1 ≤ dp) && decide (40 ≤ lc)
    else if op = 44 then x_wd u (.methodLink own t Lib.Math.max.name) && x_D sf p p2 (.invokestatic t) 3 && decide (1 ≤ dp) && decide (40 ≤ lc)
    else if op = 45 then x_wd u (.methodLink own t Lib.Math.min.name) && x_D sf p p2 (.invokestatic t) 3 && decide (1 ≤ dp) && decide (40 ≤ lc)
    else if op = 46 then x_wd u (.methodLink own t arraycopyName) && x_D sf p p2 (.invokestatic t) 3 && decide (1 ≤ dp) && decide (40 ≤ lc)
    else if op = 47 then (match xsw[u]? with
      | some ((d, lo, hi, offs, len), dt, ts) => decide (decode bw p = .ok (.tableswitch d lo hi offs, len)) && decide ((x_tp cd dt : Int) = p + d) && decide (offs.size = ts.length) && decide ((ts.length : Int) = hi - lo + 1) && (List.range ts.length).all (fun i => decide ((x_tp cd (ts.getD i 0) : Int) = p + offs.getD i 0))
      | none => false)
    else if op = 50 then x_is sf .ireturn 1 && decide (rt = 1)
    else if op = 51 then x_is sf .ireturn 1 && decide (rt = 2)
    else if op = 52 then x_is sf .areturn 1 && decide (3 ≤ rt)
    else if op = 53 then x_is sf .return_ 1 && decide (rt = 0)
    else if op = 54 then x_D sf p p2 .iaload 1 && decide (rk = 8)
    else if op = 55 then x_D sf p p2 .arraylength 1 && decide (rk = 8)
    else false
noncomputable def x_cki (me : XM) (sf : List UInt8) (n : xI) (p2 : Nat) : Bool := x_ckj me.1.cls me.2.2.1 me.2.2.2.1.1 me.2.2.2.1.2.1 me.2.2.2.2.1.2.1 me.2.2.2.2.1.2.2 me.2.2.2.2.2.2 (x_bw me) sf (x_dec n) p2
noncomputable def x_ckl (me : XM) : List UInt8 → List xI → Bool
  | _, [] => true
  | sf, n :: r => x_cki me sf n (x_dec (r.headD x_63)).2.2.2.2 && (r.isEmpty || decide ((x_dec n).2.2.2.2 ≤ (x_dec (r.headD x_63)).2.2.2.2)) && x_ckl me (sf.drop ((x_dec (r.headD x_63)).2.2.2.2 - (x_dec n).2.2.2.2)) r
/-- a method's own words -/
noncomputable def x_ckm (me : XM) : Bool := match me with
  | (nm, ml, rt, _, (np, st, rk), (pc, ps, psel, pin), _) =>
    (match (x_dr pc).head? with
      | some (.code nm2 _ ml2 ret2) => decide (nm2 = nm) && decide (ml2 = ml) && decide (ret2 = x_rty rt)
      | _ => false) && x_wd pin (.initialized nm.cls) && decide (nm.cls = (x_q rk).1) && decide (rk < 8) && decide (rt < 6) && decide (np ≤ ml) && plainName nm.cls
      && decide (nm.cls ≠ "java/lang/invoke/MethodHandle" ∧ nm.cls ≠ "java/lang/invoke/VarHandle")
      && (if st = 1 then x_wd ps (.static nm) && decide ((parseMethodDescriptor nm.desc).map (fun d => d.parameters.length) = some np)
          else decide (1 ≤ np) && x_wd ps (.instanceMethod nm) && decide ((parseMethodDescriptor nm.desc).map (fun d => d.parameters.length) = some (np - 1)) && (if st = 2 then decide (nm.name = "<init>") && decide (rt = 0) else decide (st = 0) && x_wd psel (.selects nm.cls nm nm)))
noncomputable def x_ckA (me : XM) : Bool := x_ckl me (x_bw me).data.toList me.2.2.2.2.2.2 && (me.2.2.2.2.2.2.isEmpty || decide ((x_dec (me.2.2.2.2.2.2.headD x_63)).2.2.2.2 = 0))
theorem x_flok : xfl.all (fun q => match q with | (pl, o, ix, c, j) => decide (c < 8) && decide (j < xnsl c) && decide (j < 16) && x_wd pl (.fieldLink o ix ((x_q c).2.1 j).1 ((x_q c).2.1 j).2.1 ((x_q c).2.1 j).2.2.1)) = true := by decide +kernel
theorem x_mlok : xml.all (fun q => match q with | (pl, o, ix, y) => x_wd pl (.methodLink o ix (x_nm y)) && decide (y < 181)) = true := by decide +kernel
theorem x_clok : xcl.all (fun q => match q with | (pl, o, ix, cn) => x_wd pl (.classLink o ix cn)) = true := by decide +kernel
theorem x_cnok : xcn.all (fun q => match q with | (pl, o, ix, v, _) => x_wd pl (.constant o ix v)) = true := by decide +kernel
theorem x_inok : (List.range 8).all (fun t => x_wd (xpin t) (.instantiable (x_q t).1 (xnsl t)) && x_wd (xpid t) (.initialized (x_q t).1)) = true := by decide +kernel
theorem x_jdk : (x_wd xp_oi (.instanceMethod objectInit) && x_wd xp_oc (.code objectInit ⟨#[0xb1]⟩ 1 none) && x_wd xp_maxs (.static Lib.Math.max.name) && x_wd xp_maxc (.code Lib.Math.max.name Lib.Math.max.code 2 (some .int)) && x_wd xp_mins (.static Lib.Math.min.name) && x_wd xp_minc (.code Lib.Math.min.name Lib.Math.min.code 2 (some .int)) && x_wd xp_mi (.initialized "java/lang/Math") && x_wd xp_si (.initialized "java/lang/System") && x_wd xp_an (.native arraycopyName) && x_wd xp_as (.static arraycopyName) && x_wd xp_ai (.arrayClass .int) && x_wd xp_ab (.arrayClass .boolean)) = true := by decide +kernel
theorem x_aok : (List.range 4).all (fun t => x_wd ([xp_o10, xp_o11, xp_o12, xp_o13].getD t 0) (.arrayOver (.object (["WheelStands$Cart", "WheelStands$Stand", "WheelStands$Town", "WheelStands$Wheel"].getD t "")))) = true := by decide +kernel
def x_ty (c j : Nat) : FieldType := if c = 0 then tyX0 j else if c = 1 then tyX1 j else if c = 2 then tyX2 j else if c = 3 then tyX3 j else if c = 4 then tyX4 j else if c = 5 then tyX5 j else if c = 6 then tyX6 j else tyX7 j
theorem x_layok : (List.range 8).all (fun c => (List.range (xnsl c)).all (fun j => x_wd ((xlay.getD c []).getD j 0) (u_lay (x_q c).1 (x_q c).2.1 j) && goodWord (u_lay (x_q c).1 (x_q c).2.1 j))) = true := by decide +kernel
theorem x_tyok : (List.range 8).all (fun c => decide ((x_q c).2.2 = xnsl c) && (List.range (xnsl c)).all (fun j => decide (parseFieldDescriptor ((x_q c).2.1 j).2.2.1 = some (x_ty c j)) && (if xrf c j = true then (match x_ty c j with | .object _ => true | .array _ => true | _ => false) else if ((x_q c).2.1 j).2.2.1 = "I" then decide (x_ty c j = .int) else decide (x_ty c j = .boolean)))) = true := by decide +kernel
