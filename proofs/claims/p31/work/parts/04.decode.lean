/-! ONE INSTRUCTION BY ITS BYTES: decode, without walking the whole code each time -/
theorem x_u1 {cd : ByteArray} {p : Nat} {b : UInt8} (h : cd.data.toList[p]? = some b) : (Reader.u1 : Decoder Nat).runAt cd p = .ok (b.toNat, p + 1) := by
  have h1 := (List.getElem?_eq_some_iff.mp h).1
  have hp : p < cd.size := by
    rw [Array.length_toList] at h1
    exact h1
  have hb : cd[p] = b := by
    have h2 := (List.getElem?_eq_some_iff.mp h).2
    rw [Array.getElem_toList] at h2
    exact h2
  have e : (Reader.u1 : Decoder Nat).runAt cd p = (if h : p < cd.size then ((do set (p + 1); Pure.pure cd[p].toNat) : Decoder Nat) else throw (HasTruncated.truncated p)).runAt cd p := rfl
  rw [e, dif_pos hp, hb]
  rfl
theorem x_bd {α β : Type} {r : Decoder β} {f : β → Decoder α} {cd : ByteArray} {p q : Nat} {v : β} (h : r.runAt cd p = .ok (v, q)) : (r >>= f).runAt cd p = (f v).runAt cd q := by
  show Except.bind (r.runAt cd p) (fun x => (f x.1).runAt cd x.2) = _
  rw [h]
  rfl
theorem x_mp {α β : Type} {r : Decoder β} {f : β → α} {cd : ByteArray} {p q : Nat} {v : β} (h : r.runAt cd p = .ok (v, q)) : (f <$> r).runAt cd p = .ok (f v, q) := by
  show Except.bind (r.runAt cd p) _ = _
  rw [h]
  rfl
theorem x_u2 {cd : ByteArray} {p : Nat} {b c : UInt8} (h : cd.data.toList[p]? = some b) (h1 : cd.data.toList[p + 1]? = some c) : (Reader.u2 : Decoder Nat).runAt cd p = .ok (b.toNat * 256 + c.toNat, p + 2) := by
  unfold Reader.u2
  rw [x_bd (x_u1 h), x_bd (x_u1 h1)]
  rfl
theorem x_dd {cd : ByteArray} {p q n : Nat} {i : Instr} (h : (Decoder.instr p).runAt cd p = .ok (i, q)) (hq : q = p + n) : decode cd p = .ok (i, n) := by
  subst hq
  unfold decode
  rw [h]
  show Except.ok (i, p + n - p) = _
  rw [Nat.add_sub_cancel_left]
section
variable {cd : ByteArray} {p : Nat} {b0 b1 b2 : UInt8}

set_option maxRecDepth 10000 in
theorem x_o1 (h0 : cd.data.toList[p]? = some b0) (e : b0.toNat = 1) : decode cd p = .ok (.aconst_null, 1) := by
  refine x_dd (q := p + 1) ?_ rfl
  unfold Decoder.instr
  rw [x_bd (x_u1 h0), e]
  rfl

set_option maxRecDepth 10000 in
theorem x_o2 (h0 : cd.data.toList[p]? = some b0) (e : b0.toNat = 2) : decode cd p = .ok (.iconst (-1), 1) := by
  refine x_dd (q := p + 1) ?_ rfl
  unfold Decoder.instr
  rw [x_bd (x_u1 h0), e]
  rfl

set_option maxRecDepth 10000 in
theorem x_o3 (h0 : cd.data.toList[p]? = some b0) (e : b0.toNat = 3) : decode cd p = .ok (.iconst (0), 1) := by
  refine x_dd (q := p + 1) ?_ rfl
  unfold Decoder.instr
  rw [x_bd (x_u1 h0), e]
  rfl

set_option maxRecDepth 10000 in
theorem x_o4 (h0 : cd.data.toList[p]? = some b0) (e : b0.toNat = 4) : decode cd p = .ok (.iconst (1), 1) := by
  refine x_dd (q := p + 1) ?_ rfl
  unfold Decoder.instr
  rw [x_bd (x_u1 h0), e]
  rfl

set_option maxRecDepth 10000 in
theorem x_o5 (h0 : cd.data.toList[p]? = some b0) (e : b0.toNat = 5) : decode cd p = .ok (.iconst (2), 1) := by
  refine x_dd (q := p + 1) ?_ rfl
  unfold Decoder.instr
  rw [x_bd (x_u1 h0), e]
  rfl

set_option maxRecDepth 10000 in
theorem x_o6 (h0 : cd.data.toList[p]? = some b0) (e : b0.toNat = 6) : decode cd p = .ok (.iconst (3), 1) := by
  refine x_dd (q := p + 1) ?_ rfl
  unfold Decoder.instr
  rw [x_bd (x_u1 h0), e]
  rfl

set_option maxRecDepth 10000 in
theorem x_o7 (h0 : cd.data.toList[p]? = some b0) (e : b0.toNat = 7) : decode cd p = .ok (.iconst (4), 1) := by
  refine x_dd (q := p + 1) ?_ rfl
  unfold Decoder.instr
  rw [x_bd (x_u1 h0), e]
  rfl

set_option maxRecDepth 10000 in
theorem x_o8 (h0 : cd.data.toList[p]? = some b0) (e : b0.toNat = 8) : decode cd p = .ok (.iconst (5), 1) := by
  refine x_dd (q := p + 1) ?_ rfl
  unfold Decoder.instr
  rw [x_bd (x_u1 h0), e]
  rfl

set_option maxRecDepth 10000 in
theorem x_o26 (h0 : cd.data.toList[p]? = some b0) (e : b0.toNat = 26) : decode cd p = .ok (.iload_n 0, 1) := by
  refine x_dd (q := p + 1) ?_ rfl
  unfold Decoder.instr
  rw [x_bd (x_u1 h0), e]
  rfl

set_option maxRecDepth 10000 in
theorem x_o27 (h0 : cd.data.toList[p]? = some b0) (e : b0.toNat = 27) : decode cd p = .ok (.iload_n 1, 1) := by
  refine x_dd (q := p + 1) ?_ rfl
  unfold Decoder.instr
  rw [x_bd (x_u1 h0), e]
  rfl

set_option maxRecDepth 10000 in
theorem x_o28 (h0 : cd.data.toList[p]? = some b0) (e : b0.toNat = 28) : decode cd p = .ok (.iload_n 2, 1) := by
  refine x_dd (q := p + 1) ?_ rfl
  unfold Decoder.instr
  rw [x_bd (x_u1 h0), e]
  rfl

set_option maxRecDepth 10000 in
theorem x_o29 (h0 : cd.data.toList[p]? = some b0) (e : b0.toNat = 29) : decode cd p = .ok (.iload_n 3, 1) := by
  refine x_dd (q := p + 1) ?_ rfl
  unfold Decoder.instr
  rw [x_bd (x_u1 h0), e]
  rfl

set_option maxRecDepth 10000 in
theorem x_o42 (h0 : cd.data.toList[p]? = some b0) (e : b0.toNat = 42) : decode cd p = .ok (.aload_n 0, 1) := by
  refine x_dd (q := p + 1) ?_ rfl
  unfold Decoder.instr
  rw [x_bd (x_u1 h0), e]
  rfl

set_option maxRecDepth 10000 in
theorem x_o43 (h0 : cd.data.toList[p]? = some b0) (e : b0.toNat = 43) : decode cd p = .ok (.aload_n 1, 1) := by
  refine x_dd (q := p + 1) ?_ rfl
  unfold Decoder.instr
  rw [x_bd (x_u1 h0), e]
  rfl

set_option maxRecDepth 10000 in
theorem x_o44 (h0 : cd.data.toList[p]? = some b0) (e : b0.toNat = 44) : decode cd p = .ok (.aload_n 2, 1) := by
  refine x_dd (q := p + 1) ?_ rfl
  unfold Decoder.instr
  rw [x_bd (x_u1 h0), e]
  rfl

set_option maxRecDepth 10000 in
theorem x_o45 (h0 : cd.data.toList[p]? = some b0) (e : b0.toNat = 45) : decode cd p = .ok (.aload_n 3, 1) := by
  refine x_dd (q := p + 1) ?_ rfl
  unfold Decoder.instr
  rw [x_bd (x_u1 h0), e]
  rfl

set_option maxRecDepth 10000 in
theorem x_o46 (h0 : cd.data.toList[p]? = some b0) (e : b0.toNat = 46) : decode cd p = .ok (.iaload, 1) := by
  refine x_dd (q := p + 1) ?_ rfl
  unfold Decoder.instr
  rw [x_bd (x_u1 h0), e]
  rfl

set_option maxRecDepth 10000 in
theorem x_o50 (h0 : cd.data.toList[p]? = some b0) (e : b0.toNat = 50) : decode cd p = .ok (.aaload, 1) := by
  refine x_dd (q := p + 1) ?_ rfl
  unfold Decoder.instr
  rw [x_bd (x_u1 h0), e]
  rfl

set_option maxRecDepth 10000 in
theorem x_o51 (h0 : cd.data.toList[p]? = some b0) (e : b0.toNat = 51) : decode cd p = .ok (.baload, 1) := by
  refine x_dd (q := p + 1) ?_ rfl
  unfold Decoder.instr
  rw [x_bd (x_u1 h0), e]
  rfl

set_option maxRecDepth 10000 in
theorem x_o59 (h0 : cd.data.toList[p]? = some b0) (e : b0.toNat = 59) : decode cd p = .ok (.istore_n 0, 1) := by
  refine x_dd (q := p + 1) ?_ rfl
  unfold Decoder.instr
  rw [x_bd (x_u1 h0), e]
  rfl

set_option maxRecDepth 10000 in
theorem x_o60 (h0 : cd.data.toList[p]? = some b0) (e : b0.toNat = 60) : decode cd p = .ok (.istore_n 1, 1) := by
  refine x_dd (q := p + 1) ?_ rfl
  unfold Decoder.instr
  rw [x_bd (x_u1 h0), e]
  rfl

set_option maxRecDepth 10000 in
theorem x_o61 (h0 : cd.data.toList[p]? = some b0) (e : b0.toNat = 61) : decode cd p = .ok (.istore_n 2, 1) := by
  refine x_dd (q := p + 1) ?_ rfl
  unfold Decoder.instr
  rw [x_bd (x_u1 h0), e]
  rfl

set_option maxRecDepth 10000 in
theorem x_o62 (h0 : cd.data.toList[p]? = some b0) (e : b0.toNat = 62) : decode cd p = .ok (.istore_n 3, 1) := by
  refine x_dd (q := p + 1) ?_ rfl
  unfold Decoder.instr
  rw [x_bd (x_u1 h0), e]
  rfl

set_option maxRecDepth 10000 in
theorem x_o75 (h0 : cd.data.toList[p]? = some b0) (e : b0.toNat = 75) : decode cd p = .ok (.astore_n 0, 1) := by
  refine x_dd (q := p + 1) ?_ rfl
  unfold Decoder.instr
  rw [x_bd (x_u1 h0), e]
  rfl

set_option maxRecDepth 10000 in
theorem x_o76 (h0 : cd.data.toList[p]? = some b0) (e : b0.toNat = 76) : decode cd p = .ok (.astore_n 1, 1) := by
  refine x_dd (q := p + 1) ?_ rfl
  unfold Decoder.instr
  rw [x_bd (x_u1 h0), e]
  rfl

set_option maxRecDepth 10000 in
theorem x_o77 (h0 : cd.data.toList[p]? = some b0) (e : b0.toNat = 77) : decode cd p = .ok (.astore_n 2, 1) := by
  refine x_dd (q := p + 1) ?_ rfl
  unfold Decoder.instr
  rw [x_bd (x_u1 h0), e]
  rfl

set_option maxRecDepth 10000 in
theorem x_o78 (h0 : cd.data.toList[p]? = some b0) (e : b0.toNat = 78) : decode cd p = .ok (.astore_n 3, 1) := by
  refine x_dd (q := p + 1) ?_ rfl
  unfold Decoder.instr
  rw [x_bd (x_u1 h0), e]
  rfl

set_option maxRecDepth 10000 in
theorem x_o79 (h0 : cd.data.toList[p]? = some b0) (e : b0.toNat = 79) : decode cd p = .ok (.iastore, 1) := by
  refine x_dd (q := p + 1) ?_ rfl
  unfold Decoder.instr
  rw [x_bd (x_u1 h0), e]
  rfl

set_option maxRecDepth 10000 in
theorem x_o83 (h0 : cd.data.toList[p]? = some b0) (e : b0.toNat = 83) : decode cd p = .ok (.aastore, 1) := by
  refine x_dd (q := p + 1) ?_ rfl
  unfold Decoder.instr
  rw [x_bd (x_u1 h0), e]
  rfl

set_option maxRecDepth 10000 in
theorem x_o84 (h0 : cd.data.toList[p]? = some b0) (e : b0.toNat = 84) : decode cd p = .ok (.bastore, 1) := by
  refine x_dd (q := p + 1) ?_ rfl
  unfold Decoder.instr
  rw [x_bd (x_u1 h0), e]
  rfl

set_option maxRecDepth 10000 in
theorem x_o87 (h0 : cd.data.toList[p]? = some b0) (e : b0.toNat = 87) : decode cd p = .ok (.pop, 1) := by
  refine x_dd (q := p + 1) ?_ rfl
  unfold Decoder.instr
  rw [x_bd (x_u1 h0), e]
  rfl

set_option maxRecDepth 10000 in
theorem x_o89 (h0 : cd.data.toList[p]? = some b0) (e : b0.toNat = 89) : decode cd p = .ok (.dup, 1) := by
  refine x_dd (q := p + 1) ?_ rfl
  unfold Decoder.instr
  rw [x_bd (x_u1 h0), e]
  rfl

set_option maxRecDepth 10000 in
theorem x_o92 (h0 : cd.data.toList[p]? = some b0) (e : b0.toNat = 92) : decode cd p = .ok (.dup2, 1) := by
  refine x_dd (q := p + 1) ?_ rfl
  unfold Decoder.instr
  rw [x_bd (x_u1 h0), e]
  rfl

set_option maxRecDepth 10000 in
theorem x_o96 (h0 : cd.data.toList[p]? = some b0) (e : b0.toNat = 96) : decode cd p = .ok (.iadd, 1) := by
  refine x_dd (q := p + 1) ?_ rfl
  unfold Decoder.instr
  rw [x_bd (x_u1 h0), e]
  rfl

set_option maxRecDepth 10000 in
theorem x_o100 (h0 : cd.data.toList[p]? = some b0) (e : b0.toNat = 100) : decode cd p = .ok (.isub, 1) := by
  refine x_dd (q := p + 1) ?_ rfl
  unfold Decoder.instr
  rw [x_bd (x_u1 h0), e]
  rfl

set_option maxRecDepth 10000 in
theorem x_o104 (h0 : cd.data.toList[p]? = some b0) (e : b0.toNat = 104) : decode cd p = .ok (.imul, 1) := by
  refine x_dd (q := p + 1) ?_ rfl
  unfold Decoder.instr
  rw [x_bd (x_u1 h0), e]
  rfl

set_option maxRecDepth 10000 in
theorem x_o112 (h0 : cd.data.toList[p]? = some b0) (e : b0.toNat = 112) : decode cd p = .ok (.irem, 1) := by
  refine x_dd (q := p + 1) ?_ rfl
  unfold Decoder.instr
  rw [x_bd (x_u1 h0), e]
  rfl

set_option maxRecDepth 10000 in
theorem x_o116 (h0 : cd.data.toList[p]? = some b0) (e : b0.toNat = 116) : decode cd p = .ok (.ineg, 1) := by
  refine x_dd (q := p + 1) ?_ rfl
  unfold Decoder.instr
  rw [x_bd (x_u1 h0), e]
  rfl

set_option maxRecDepth 10000 in
theorem x_o120 (h0 : cd.data.toList[p]? = some b0) (e : b0.toNat = 120) : decode cd p = .ok (.ishl, 1) := by
  refine x_dd (q := p + 1) ?_ rfl
  unfold Decoder.instr
  rw [x_bd (x_u1 h0), e]
  rfl

set_option maxRecDepth 10000 in
theorem x_o122 (h0 : cd.data.toList[p]? = some b0) (e : b0.toNat = 122) : decode cd p = .ok (.ishr, 1) := by
  refine x_dd (q := p + 1) ?_ rfl
  unfold Decoder.instr
  rw [x_bd (x_u1 h0), e]
  rfl

set_option maxRecDepth 10000 in
theorem x_o126 (h0 : cd.data.toList[p]? = some b0) (e : b0.toNat = 126) : decode cd p = .ok (.iand, 1) := by
  refine x_dd (q := p + 1) ?_ rfl
  unfold Decoder.instr
  rw [x_bd (x_u1 h0), e]
  rfl

set_option maxRecDepth 10000 in
theorem x_o128 (h0 : cd.data.toList[p]? = some b0) (e : b0.toNat = 128) : decode cd p = .ok (.ior, 1) := by
  refine x_dd (q := p + 1) ?_ rfl
  unfold Decoder.instr
  rw [x_bd (x_u1 h0), e]
  rfl

set_option maxRecDepth 10000 in
theorem x_o172 (h0 : cd.data.toList[p]? = some b0) (e : b0.toNat = 172) : decode cd p = .ok (.ireturn, 1) := by
  refine x_dd (q := p + 1) ?_ rfl
  unfold Decoder.instr
  rw [x_bd (x_u1 h0), e]
  rfl

set_option maxRecDepth 10000 in
theorem x_o176 (h0 : cd.data.toList[p]? = some b0) (e : b0.toNat = 176) : decode cd p = .ok (.areturn, 1) := by
  refine x_dd (q := p + 1) ?_ rfl
  unfold Decoder.instr
  rw [x_bd (x_u1 h0), e]
  rfl

set_option maxRecDepth 10000 in
theorem x_o177 (h0 : cd.data.toList[p]? = some b0) (e : b0.toNat = 177) : decode cd p = .ok (.return_, 1) := by
  refine x_dd (q := p + 1) ?_ rfl
  unfold Decoder.instr
  rw [x_bd (x_u1 h0), e]
  rfl

set_option maxRecDepth 10000 in
theorem x_o190 (h0 : cd.data.toList[p]? = some b0) (e : b0.toNat = 190) : decode cd p = .ok (.arraylength, 1) := by
  refine x_dd (q := p + 1) ?_ rfl
  unfold Decoder.instr
  rw [x_bd (x_u1 h0), e]
  rfl

set_option maxRecDepth 10000 in
theorem x_o16 (h0 : cd.data.toList[p]? = some b0) (h1 : cd.data.toList[p + 1]? = some b1) (e : b0.toNat = 16) : decode cd p = .ok (.bipush (Reader.signed 8 b1.toNat), 2) := by
  refine x_dd (q := p + 1 + 1) ?_ rfl
  unfold Decoder.instr
  rw [x_bd (x_u1 h0), e]
  exact x_bd (r := Reader.s1) (x_mp (x_u1 h1))

set_option maxRecDepth 10000 in
theorem x_o18 (h0 : cd.data.toList[p]? = some b0) (h1 : cd.data.toList[p + 1]? = some b1) (e : b0.toNat = 18) : decode cd p = .ok (.ldc b1.toNat, 2) := by
  refine x_dd (q := p + 1 + 1) ?_ rfl
  unfold Decoder.instr
  rw [x_bd (x_u1 h0), e]
  exact x_bd (r := Reader.u1) (x_u1 h1)

set_option maxRecDepth 10000 in
theorem x_o21 (h0 : cd.data.toList[p]? = some b0) (h1 : cd.data.toList[p + 1]? = some b1) (e : b0.toNat = 21) : decode cd p = .ok (.iload b1.toNat, 2) := by
  refine x_dd (q := p + 1 + 1) ?_ rfl
  unfold Decoder.instr
  rw [x_bd (x_u1 h0), e]
  exact x_bd (r := Reader.u1) (x_u1 h1)

set_option maxRecDepth 10000 in
theorem x_o25 (h0 : cd.data.toList[p]? = some b0) (h1 : cd.data.toList[p + 1]? = some b1) (e : b0.toNat = 25) : decode cd p = .ok (.aload b1.toNat, 2) := by
  refine x_dd (q := p + 1 + 1) ?_ rfl
  unfold Decoder.instr
  rw [x_bd (x_u1 h0), e]
  exact x_bd (r := Reader.u1) (x_u1 h1)

set_option maxRecDepth 10000 in
theorem x_o54 (h0 : cd.data.toList[p]? = some b0) (h1 : cd.data.toList[p + 1]? = some b1) (e : b0.toNat = 54) : decode cd p = .ok (.istore b1.toNat, 2) := by
  refine x_dd (q := p + 1 + 1) ?_ rfl
  unfold Decoder.instr
  rw [x_bd (x_u1 h0), e]
  exact x_bd (r := Reader.u1) (x_u1 h1)

set_option maxRecDepth 10000 in
theorem x_o58 (h0 : cd.data.toList[p]? = some b0) (h1 : cd.data.toList[p + 1]? = some b1) (e : b0.toNat = 58) : decode cd p = .ok (.astore b1.toNat, 2) := by
  refine x_dd (q := p + 1 + 1) ?_ rfl
  unfold Decoder.instr
  rw [x_bd (x_u1 h0), e]
  exact x_bd (r := Reader.u1) (x_u1 h1)

set_option maxRecDepth 10000 in
theorem x_o17 (h0 : cd.data.toList[p]? = some b0) (h1 : cd.data.toList[p + 1]? = some b1) (h2 : cd.data.toList[p + 1 + 1]? = some b2) (e : b0.toNat = 17) : decode cd p = .ok (.sipush (Reader.signed 16 (b1.toNat * 256 + b2.toNat)), 3) := by
  refine x_dd (q := p + 1 + 2) ?_ rfl
  unfold Decoder.instr
  rw [x_bd (x_u1 h0), e]
  exact x_bd (r := Reader.s2) (x_mp (x_u2 h1 h2))

set_option maxRecDepth 10000 in
theorem x_o19 (h0 : cd.data.toList[p]? = some b0) (h1 : cd.data.toList[p + 1]? = some b1) (h2 : cd.data.toList[p + 1 + 1]? = some b2) (e : b0.toNat = 19) : decode cd p = .ok (.ldc_w (b1.toNat * 256 + b2.toNat), 3) := by
  refine x_dd (q := p + 1 + 2) ?_ rfl
  unfold Decoder.instr
  rw [x_bd (x_u1 h0), e]
  exact x_bd (r := Reader.u2) (x_u2 h1 h2)

set_option maxRecDepth 10000 in
theorem x_o153 (h0 : cd.data.toList[p]? = some b0) (h1 : cd.data.toList[p + 1]? = some b1) (h2 : cd.data.toList[p + 1 + 1]? = some b2) (e : b0.toNat = 153) : decode cd p = .ok (.ifCond .eq (Reader.signed 16 (b1.toNat * 256 + b2.toNat)), 3) := by
  refine x_dd (q := p + 1 + 2) ?_ rfl
  unfold Decoder.instr
  rw [x_bd (x_u1 h0), e]
  exact x_bd (r := Reader.s2) (x_mp (x_u2 h1 h2))

set_option maxRecDepth 10000 in
theorem x_o154 (h0 : cd.data.toList[p]? = some b0) (h1 : cd.data.toList[p + 1]? = some b1) (h2 : cd.data.toList[p + 1 + 1]? = some b2) (e : b0.toNat = 154) : decode cd p = .ok (.ifCond .ne (Reader.signed 16 (b1.toNat * 256 + b2.toNat)), 3) := by
  refine x_dd (q := p + 1 + 2) ?_ rfl
  unfold Decoder.instr
  rw [x_bd (x_u1 h0), e]
  exact x_bd (r := Reader.s2) (x_mp (x_u2 h1 h2))

set_option maxRecDepth 10000 in
theorem x_o155 (h0 : cd.data.toList[p]? = some b0) (h1 : cd.data.toList[p + 1]? = some b1) (h2 : cd.data.toList[p + 1 + 1]? = some b2) (e : b0.toNat = 155) : decode cd p = .ok (.ifCond .lt (Reader.signed 16 (b1.toNat * 256 + b2.toNat)), 3) := by
  refine x_dd (q := p + 1 + 2) ?_ rfl
  unfold Decoder.instr
  rw [x_bd (x_u1 h0), e]
  exact x_bd (r := Reader.s2) (x_mp (x_u2 h1 h2))

set_option maxRecDepth 10000 in
theorem x_o156 (h0 : cd.data.toList[p]? = some b0) (h1 : cd.data.toList[p + 1]? = some b1) (h2 : cd.data.toList[p + 1 + 1]? = some b2) (e : b0.toNat = 156) : decode cd p = .ok (.ifCond .ge (Reader.signed 16 (b1.toNat * 256 + b2.toNat)), 3) := by
  refine x_dd (q := p + 1 + 2) ?_ rfl
  unfold Decoder.instr
  rw [x_bd (x_u1 h0), e]
  exact x_bd (r := Reader.s2) (x_mp (x_u2 h1 h2))

set_option maxRecDepth 10000 in
theorem x_o157 (h0 : cd.data.toList[p]? = some b0) (h1 : cd.data.toList[p + 1]? = some b1) (h2 : cd.data.toList[p + 1 + 1]? = some b2) (e : b0.toNat = 157) : decode cd p = .ok (.ifCond .gt (Reader.signed 16 (b1.toNat * 256 + b2.toNat)), 3) := by
  refine x_dd (q := p + 1 + 2) ?_ rfl
  unfold Decoder.instr
  rw [x_bd (x_u1 h0), e]
  exact x_bd (r := Reader.s2) (x_mp (x_u2 h1 h2))

set_option maxRecDepth 10000 in
theorem x_o158 (h0 : cd.data.toList[p]? = some b0) (h1 : cd.data.toList[p + 1]? = some b1) (h2 : cd.data.toList[p + 1 + 1]? = some b2) (e : b0.toNat = 158) : decode cd p = .ok (.ifCond .le (Reader.signed 16 (b1.toNat * 256 + b2.toNat)), 3) := by
  refine x_dd (q := p + 1 + 2) ?_ rfl
  unfold Decoder.instr
  rw [x_bd (x_u1 h0), e]
  exact x_bd (r := Reader.s2) (x_mp (x_u2 h1 h2))

set_option maxRecDepth 10000 in
theorem x_o159 (h0 : cd.data.toList[p]? = some b0) (h1 : cd.data.toList[p + 1]? = some b1) (h2 : cd.data.toList[p + 1 + 1]? = some b2) (e : b0.toNat = 159) : decode cd p = .ok (.if_icmp .eq (Reader.signed 16 (b1.toNat * 256 + b2.toNat)), 3) := by
  refine x_dd (q := p + 1 + 2) ?_ rfl
  unfold Decoder.instr
  rw [x_bd (x_u1 h0), e]
  exact x_bd (r := Reader.s2) (x_mp (x_u2 h1 h2))

set_option maxRecDepth 10000 in
theorem x_o160 (h0 : cd.data.toList[p]? = some b0) (h1 : cd.data.toList[p + 1]? = some b1) (h2 : cd.data.toList[p + 1 + 1]? = some b2) (e : b0.toNat = 160) : decode cd p = .ok (.if_icmp .ne (Reader.signed 16 (b1.toNat * 256 + b2.toNat)), 3) := by
  refine x_dd (q := p + 1 + 2) ?_ rfl
  unfold Decoder.instr
  rw [x_bd (x_u1 h0), e]
  exact x_bd (r := Reader.s2) (x_mp (x_u2 h1 h2))

set_option maxRecDepth 10000 in
theorem x_o161 (h0 : cd.data.toList[p]? = some b0) (h1 : cd.data.toList[p + 1]? = some b1) (h2 : cd.data.toList[p + 1 + 1]? = some b2) (e : b0.toNat = 161) : decode cd p = .ok (.if_icmp .lt (Reader.signed 16 (b1.toNat * 256 + b2.toNat)), 3) := by
  refine x_dd (q := p + 1 + 2) ?_ rfl
  unfold Decoder.instr
  rw [x_bd (x_u1 h0), e]
  exact x_bd (r := Reader.s2) (x_mp (x_u2 h1 h2))

set_option maxRecDepth 10000 in
theorem x_o162 (h0 : cd.data.toList[p]? = some b0) (h1 : cd.data.toList[p + 1]? = some b1) (h2 : cd.data.toList[p + 1 + 1]? = some b2) (e : b0.toNat = 162) : decode cd p = .ok (.if_icmp .ge (Reader.signed 16 (b1.toNat * 256 + b2.toNat)), 3) := by
  refine x_dd (q := p + 1 + 2) ?_ rfl
  unfold Decoder.instr
  rw [x_bd (x_u1 h0), e]
  exact x_bd (r := Reader.s2) (x_mp (x_u2 h1 h2))

set_option maxRecDepth 10000 in
theorem x_o163 (h0 : cd.data.toList[p]? = some b0) (h1 : cd.data.toList[p + 1]? = some b1) (h2 : cd.data.toList[p + 1 + 1]? = some b2) (e : b0.toNat = 163) : decode cd p = .ok (.if_icmp .gt (Reader.signed 16 (b1.toNat * 256 + b2.toNat)), 3) := by
  refine x_dd (q := p + 1 + 2) ?_ rfl
  unfold Decoder.instr
  rw [x_bd (x_u1 h0), e]
  exact x_bd (r := Reader.s2) (x_mp (x_u2 h1 h2))

set_option maxRecDepth 10000 in
theorem x_o164 (h0 : cd.data.toList[p]? = some b0) (h1 : cd.data.toList[p + 1]? = some b1) (h2 : cd.data.toList[p + 1 + 1]? = some b2) (e : b0.toNat = 164) : decode cd p = .ok (.if_icmp .le (Reader.signed 16 (b1.toNat * 256 + b2.toNat)), 3) := by
  refine x_dd (q := p + 1 + 2) ?_ rfl
  unfold Decoder.instr
  rw [x_bd (x_u1 h0), e]
  exact x_bd (r := Reader.s2) (x_mp (x_u2 h1 h2))

set_option maxRecDepth 10000 in
theorem x_o167 (h0 : cd.data.toList[p]? = some b0) (h1 : cd.data.toList[p + 1]? = some b1) (h2 : cd.data.toList[p + 1 + 1]? = some b2) (e : b0.toNat = 167) : decode cd p = .ok (.goto (Reader.signed 16 (b1.toNat * 256 + b2.toNat)), 3) := by
  refine x_dd (q := p + 1 + 2) ?_ rfl
  unfold Decoder.instr
  rw [x_bd (x_u1 h0), e]
  exact x_bd (r := Reader.s2) (x_mp (x_u2 h1 h2))

set_option maxRecDepth 10000 in
theorem x_o180 (h0 : cd.data.toList[p]? = some b0) (h1 : cd.data.toList[p + 1]? = some b1) (h2 : cd.data.toList[p + 1 + 1]? = some b2) (e : b0.toNat = 180) : decode cd p = .ok (.getfield (b1.toNat * 256 + b2.toNat), 3) := by
  refine x_dd (q := p + 1 + 2) ?_ rfl
  unfold Decoder.instr
  rw [x_bd (x_u1 h0), e]
  exact x_bd (r := Reader.u2) (x_u2 h1 h2)

set_option maxRecDepth 10000 in
theorem x_o181 (h0 : cd.data.toList[p]? = some b0) (h1 : cd.data.toList[p + 1]? = some b1) (h2 : cd.data.toList[p + 1 + 1]? = some b2) (e : b0.toNat = 181) : decode cd p = .ok (.putfield (b1.toNat * 256 + b2.toNat), 3) := by
  refine x_dd (q := p + 1 + 2) ?_ rfl
  unfold Decoder.instr
  rw [x_bd (x_u1 h0), e]
  exact x_bd (r := Reader.u2) (x_u2 h1 h2)

set_option maxRecDepth 10000 in
theorem x_o182 (h0 : cd.data.toList[p]? = some b0) (h1 : cd.data.toList[p + 1]? = some b1) (h2 : cd.data.toList[p + 1 + 1]? = some b2) (e : b0.toNat = 182) : decode cd p = .ok (.invokevirtual (b1.toNat * 256 + b2.toNat), 3) := by
  refine x_dd (q := p + 1 + 2) ?_ rfl
  unfold Decoder.instr
  rw [x_bd (x_u1 h0), e]
  exact x_bd (r := Reader.u2) (x_u2 h1 h2)

set_option maxRecDepth 10000 in
theorem x_o183 (h0 : cd.data.toList[p]? = some b0) (h1 : cd.data.toList[p + 1]? = some b1) (h2 : cd.data.toList[p + 1 + 1]? = some b2) (e : b0.toNat = 183) : decode cd p = .ok (.invokespecial (b1.toNat * 256 + b2.toNat), 3) := by
  refine x_dd (q := p + 1 + 2) ?_ rfl
  unfold Decoder.instr
  rw [x_bd (x_u1 h0), e]
  exact x_bd (r := Reader.u2) (x_u2 h1 h2)

set_option maxRecDepth 10000 in
theorem x_o184 (h0 : cd.data.toList[p]? = some b0) (h1 : cd.data.toList[p + 1]? = some b1) (h2 : cd.data.toList[p + 1 + 1]? = some b2) (e : b0.toNat = 184) : decode cd p = .ok (.invokestatic (b1.toNat * 256 + b2.toNat), 3) := by
  refine x_dd (q := p + 1 + 2) ?_ rfl
  unfold Decoder.instr
  rw [x_bd (x_u1 h0), e]
  exact x_bd (r := Reader.u2) (x_u2 h1 h2)

set_option maxRecDepth 10000 in
theorem x_o187 (h0 : cd.data.toList[p]? = some b0) (h1 : cd.data.toList[p + 1]? = some b1) (h2 : cd.data.toList[p + 1 + 1]? = some b2) (e : b0.toNat = 187) : decode cd p = .ok (.new (b1.toNat * 256 + b2.toNat), 3) := by
  refine x_dd (q := p + 1 + 2) ?_ rfl
  unfold Decoder.instr
  rw [x_bd (x_u1 h0), e]
  exact x_bd (r := Reader.u2) (x_u2 h1 h2)

set_option maxRecDepth 10000 in
theorem x_o189 (h0 : cd.data.toList[p]? = some b0) (h1 : cd.data.toList[p + 1]? = some b1) (h2 : cd.data.toList[p + 1 + 1]? = some b2) (e : b0.toNat = 189) : decode cd p = .ok (.anewarray (b1.toNat * 256 + b2.toNat), 3) := by
  refine x_dd (q := p + 1 + 2) ?_ rfl
  unfold Decoder.instr
  rw [x_bd (x_u1 h0), e]
  exact x_bd (r := Reader.u2) (x_u2 h1 h2)

set_option maxRecDepth 10000 in
theorem x_o198 (h0 : cd.data.toList[p]? = some b0) (h1 : cd.data.toList[p + 1]? = some b1) (h2 : cd.data.toList[p + 1 + 1]? = some b2) (e : b0.toNat = 198) : decode cd p = .ok (.ifnull (Reader.signed 16 (b1.toNat * 256 + b2.toNat)), 3) := by
  refine x_dd (q := p + 1 + 2) ?_ rfl
  unfold Decoder.instr
  rw [x_bd (x_u1 h0), e]
  exact x_bd (r := Reader.s2) (x_mp (x_u2 h1 h2))

set_option maxRecDepth 10000 in
theorem x_o199 (h0 : cd.data.toList[p]? = some b0) (h1 : cd.data.toList[p + 1]? = some b1) (h2 : cd.data.toList[p + 1 + 1]? = some b2) (e : b0.toNat = 199) : decode cd p = .ok (.ifnonnull (Reader.signed 16 (b1.toNat * 256 + b2.toNat)), 3) := by
  refine x_dd (q := p + 1 + 2) ?_ rfl
  unfold Decoder.instr
  rw [x_bd (x_u1 h0), e]
  exact x_bd (r := Reader.s2) (x_mp (x_u2 h1 h2))

set_option maxRecDepth 10000 in
theorem x_o132 (h0 : cd.data.toList[p]? = some b0) (h1 : cd.data.toList[p + 1]? = some b1) (h2 : cd.data.toList[p + 1 + 1]? = some b2) (e : b0.toNat = 132) : decode cd p = .ok (.iinc b1.toNat (Reader.signed 8 b2.toNat), 3) := by
  refine x_dd (q := p + 1 + 2) ?_ rfl
  unfold Decoder.instr
  rw [x_bd (x_u1 h0), e]
  refine (x_bd (r := Reader.u1) (x_u1 h1)).trans ?_
  exact x_bd (r := Reader.s1) (x_mp (x_u1 h2))
set_option maxRecDepth 10000 in
theorem x_o188a (h0 : cd.data.toList[p]? = some b0) (h1 : cd.data.toList[p + 1]? = some b1) (e : b0.toNat = 188) (e1 : b1.toNat = 10) : decode cd p = .ok (.newarray .int, 2) := by
  refine x_dd (q := p + 1 + 1) ?_ rfl
  unfold Decoder.instr
  rw [x_bd (x_u1 h0), e]
  show (Decoder.newarray p).runAt cd (p + 1) = _
  unfold Decoder.newarray
  rw [x_bd (x_u1 h1), e1]
  rfl
set_option maxRecDepth 10000 in
theorem x_o188b (h0 : cd.data.toList[p]? = some b0) (h1 : cd.data.toList[p + 1]? = some b1) (e : b0.toNat = 188) (e1 : b1.toNat = 4) : decode cd p = .ok (.newarray .boolean, 2) := by
  refine x_dd (q := p + 1 + 1) ?_ rfl
  unfold Decoder.instr
  rw [x_bd (x_u1 h0), e]
  show (Decoder.newarray p).runAt cd (p + 1) = _
  unfold Decoder.newarray
  rw [x_bd (x_u1 h1), e1]
  rfl
end

def x_d0 (n : Nat) : Option Instr := if n = 1 then some (.aconst_null) else if n = 2 then some (.iconst (-1)) else if n = 3 then some (.iconst (0)) else if n = 4 then some (.iconst (1)) else if n = 5 then some (.iconst (2)) else if n = 6 then some (.iconst (3)) else if n = 7 then some (.iconst (4)) else if n = 8 then some (.iconst (5)) else if n = 26 then some (.iload_n 0) else if n = 27 then some (.iload_n 1) else if n = 28 then some (.iload_n 2) else if n = 29 then some (.iload_n 3) else if n = 42 then some (.aload_n 0) else if n = 43 then some (.aload_n 1) else if n = 44 then some (.aload_n 2) else if n = 45 then some (.aload_n 3) else if n = 46 then some (.iaload) else if n = 50 then some (.aaload) else if n = 51 then some (.baload) else if n = 59 then some (.istore_n 0) else if n = 60 then some (.istore_n 1) else if n = 61 then some (.istore_n 2) else if n = 62 then some (.istore_n 3) else if n = 75 then some (.astore_n 0) else if n = 76 then some (.astore_n 1) else if n = 77 then some (.astore_n 2) else if n = 78 then some (.astore_n 3) else if n = 79 then some (.iastore) else if n = 83 then some (.aastore) else if n = 84 then some (.bastore) else if n = 87 then some (.pop) else if n = 89 then some (.dup) else if n = 92 then some (.dup2) else if n = 96 then some (.iadd) else if n = 100 then some (.isub) else if n = 104 then some (.imul) else if n = 112 then some (.irem) else if n = 116 then some (.ineg) else if n = 120 then some (.ishl) else if n = 122 then some (.ishr) else if n = 126 then some (.iand) else if n = 128 then some (.ior) else if n = 172 then some (.ireturn) else if n = 176 then some (.areturn) else if n = 177 then some (.return_) else if n = 190 then some (.arraylength) else none
def x_d1 (n a : Nat) : Option Instr := if n = 16 then some (.bipush (Reader.signed 8 a)) else if n = 18 then some (.ldc a) else if n = 21 then some (.iload a) else if n = 25 then some (.aload a) else if n = 54 then some (.istore a) else if n = 58 then some (.astore a) else if n = 188 then (if a = 10 then some (.newarray .int) else if a = 4 then some (.newarray .boolean) else none) else none
def x_d2 (n a b : Nat) : Option Instr := if n = 17 then some (.sipush (Reader.signed 16 (a * 256 + b))) else if n = 19 then some (.ldc_w (a * 256 + b)) else if n = 153 then some (.ifCond .eq (Reader.signed 16 (a * 256 + b))) else if n = 154 then some (.ifCond .ne (Reader.signed 16 (a * 256 + b))) else if n = 155 then some (.ifCond .lt (Reader.signed 16 (a * 256 + b))) else if n = 156 then some (.ifCond .ge (Reader.signed 16 (a * 256 + b))) else if n = 157 then some (.ifCond .gt (Reader.signed 16 (a * 256 + b))) else if n = 158 then some (.ifCond .le (Reader.signed 16 (a * 256 + b))) else if n = 159 then some (.if_icmp .eq (Reader.signed 16 (a * 256 + b))) else if n = 160 then some (.if_icmp .ne (Reader.signed 16 (a * 256 + b))) else if n = 161 then some (.if_icmp .lt (Reader.signed 16 (a * 256 + b))) else if n = 162 then some (.if_icmp .ge (Reader.signed 16 (a * 256 + b))) else if n = 163 then some (.if_icmp .gt (Reader.signed 16 (a * 256 + b))) else if n = 164 then some (.if_icmp .le (Reader.signed 16 (a * 256 + b))) else if n = 167 then some (.goto (Reader.signed 16 (a * 256 + b))) else if n = 180 then some (.getfield (a * 256 + b)) else if n = 181 then some (.putfield (a * 256 + b)) else if n = 182 then some (.invokevirtual (a * 256 + b)) else if n = 183 then some (.invokespecial (a * 256 + b)) else if n = 184 then some (.invokestatic (a * 256 + b)) else if n = 187 then some (.new (a * 256 + b)) else if n = 189 then some (.anewarray (a * 256 + b)) else if n = 198 then some (.ifnull (Reader.signed 16 (a * 256 + b))) else if n = 199 then some (.ifnonnull (Reader.signed 16 (a * 256 + b))) else if n = 132 then some (.iinc a (Reader.signed 8 b)) else none

/-- is it instruction i, of len bytes, at the head of these bytes -/
def x_is (l : List UInt8) (i : Instr) (len : Nat) : Bool := match len, l with
  | 1, a :: _ => decide (x_d0 a.toNat = some i)
  | 2, a :: b :: _ => decide (x_d1 a.toNat b.toNat = some i)
  | 3, a :: b :: c :: _ => decide (x_d2 a.toNat b.toNat c.toNat = some i)
  | _, _ => false

theorem x_d0_ok {cd : ByteArray} {p : Nat} {b0 : UInt8} {i : Instr} (h0 : cd.data.toList[p]? = some b0) (h : x_d0 b0.toNat = some i) : decode cd p = .ok (i, 1) := by
  by_cases q1 : b0.toNat = 1
  · rw [q1] at h
    cases (show some _ = some i from h)
    exact x_o1 h0 q1
  by_cases q2 : b0.toNat = 2
  · rw [q2] at h
    cases (show some _ = some i from h)
    exact x_o2 h0 q2
  by_cases q3 : b0.toNat = 3
  · rw [q3] at h
    cases (show some _ = some i from h)
    exact x_o3 h0 q3
  by_cases q4 : b0.toNat = 4
  · rw [q4] at h
    cases (show some _ = some i from h)
    exact x_o4 h0 q4
  by_cases q5 : b0.toNat = 5
  · rw [q5] at h
    cases (show some _ = some i from h)
    exact x_o5 h0 q5
  by_cases q6 : b0.toNat = 6
  · rw [q6] at h
    cases (show some _ = some i from h)
    exact x_o6 h0 q6
  by_cases q7 : b0.toNat = 7
  · rw [q7] at h
    cases (show some _ = some i from h)
    exact x_o7 h0 q7
  by_cases q8 : b0.toNat = 8
  · rw [q8] at h
    cases (show some _ = some i from h)
    exact x_o8 h0 q8
  by_cases q26 : b0.toNat = 26
  · rw [q26] at h
    cases (show some _ = some i from h)
    exact x_o26 h0 q26
  by_cases q27 : b0.toNat = 27
  · rw [q27] at h
    cases (show some _ = some i from h)
    exact x_o27 h0 q27
  by_cases q28 : b0.toNat = 28
  · rw [q28] at h
    cases (show some _ = some i from h)
    exact x_o28 h0 q28
  by_cases q29 : b0.toNat = 29
  · rw [q29] at h
    cases (show some _ = some i from h)
    exact x_o29 h0 q29
  by_cases q42 : b0.toNat = 42
  · rw [q42] at h
    cases (show some _ = some i from h)
    exact x_o42 h0 q42
  by_cases q43 : b0.toNat = 43
  · rw [q43] at h
    cases (show some _ = some i from h)
    exact x_o43 h0 q43
  by_cases q44 : b0.toNat = 44
  · rw [q44] at h
    cases (show some _ = some i from h)
    exact x_o44 h0 q44
  by_cases q45 : b0.toNat = 45
  · rw [q45] at h
    cases (show some _ = some i from h)
    exact x_o45 h0 q45
  by_cases q46 : b0.toNat = 46
  · rw [q46] at h
    cases (show some _ = some i from h)
    exact x_o46 h0 q46
  by_cases q50 : b0.toNat = 50
  · rw [q50] at h
    cases (show some _ = some i from h)
    exact x_o50 h0 q50
  by_cases q51 : b0.toNat = 51
  · rw [q51] at h
    cases (show some _ = some i from h)
    exact x_o51 h0 q51
  by_cases q59 : b0.toNat = 59
  · rw [q59] at h
    cases (show some _ = some i from h)
    exact x_o59 h0 q59
  by_cases q60 : b0.toNat = 60
  · rw [q60] at h
    cases (show some _ = some i from h)
    exact x_o60 h0 q60
  by_cases q61 : b0.toNat = 61
  · rw [q61] at h
    cases (show some _ = some i from h)
    exact x_o61 h0 q61
  by_cases q62 : b0.toNat = 62
  · rw [q62] at h
    cases (show some _ = some i from h)
    exact x_o62 h0 q62
  by_cases q75 : b0.toNat = 75
  · rw [q75] at h
    cases (show some _ = some i from h)
    exact x_o75 h0 q75
  by_cases q76 : b0.toNat = 76
  · rw [q76] at h
    cases (show some _ = some i from h)
    exact x_o76 h0 q76
  by_cases q77 : b0.toNat = 77
  · rw [q77] at h
    cases (show some _ = some i from h)
    exact x_o77 h0 q77
  by_cases q78 : b0.toNat = 78
  · rw [q78] at h
    cases (show some _ = some i from h)
    exact x_o78 h0 q78
  by_cases q79 : b0.toNat = 79
  · rw [q79] at h
    cases (show some _ = some i from h)
    exact x_o79 h0 q79
  by_cases q83 : b0.toNat = 83
  · rw [q83] at h
    cases (show some _ = some i from h)
    exact x_o83 h0 q83
  by_cases q84 : b0.toNat = 84
  · rw [q84] at h
    cases (show some _ = some i from h)
    exact x_o84 h0 q84
  by_cases q87 : b0.toNat = 87
  · rw [q87] at h
    cases (show some _ = some i from h)
    exact x_o87 h0 q87
  by_cases q89 : b0.toNat = 89
  · rw [q89] at h
    cases (show some _ = some i from h)
    exact x_o89 h0 q89
  by_cases q92 : b0.toNat = 92
  · rw [q92] at h
    cases (show some _ = some i from h)
    exact x_o92 h0 q92
  by_cases q96 : b0.toNat = 96
  · rw [q96] at h
    cases (show some _ = some i from h)
    exact x_o96 h0 q96
  by_cases q100 : b0.toNat = 100
  · rw [q100] at h
    cases (show some _ = some i from h)
    exact x_o100 h0 q100
  by_cases q104 : b0.toNat = 104
  · rw [q104] at h
    cases (show some _ = some i from h)
    exact x_o104 h0 q104
  by_cases q112 : b0.toNat = 112
  · rw [q112] at h
    cases (show some _ = some i from h)
    exact x_o112 h0 q112
  by_cases q116 : b0.toNat = 116
  · rw [q116] at h
    cases (show some _ = some i from h)
    exact x_o116 h0 q116
  by_cases q120 : b0.toNat = 120
  · rw [q120] at h
    cases (show some _ = some i from h)
    exact x_o120 h0 q120
  by_cases q122 : b0.toNat = 122
  · rw [q122] at h
    cases (show some _ = some i from h)
    exact x_o122 h0 q122
  by_cases q126 : b0.toNat = 126
  · rw [q126] at h
    cases (show some _ = some i from h)
    exact x_o126 h0 q126
  by_cases q128 : b0.toNat = 128
  · rw [q128] at h
    cases (show some _ = some i from h)
    exact x_o128 h0 q128
  by_cases q172 : b0.toNat = 172
  · rw [q172] at h
    cases (show some _ = some i from h)
    exact x_o172 h0 q172
  by_cases q176 : b0.toNat = 176
  · rw [q176] at h
    cases (show some _ = some i from h)
    exact x_o176 h0 q176
  by_cases q177 : b0.toNat = 177
  · rw [q177] at h
    cases (show some _ = some i from h)
    exact x_o177 h0 q177
  by_cases q190 : b0.toNat = 190
  · rw [q190] at h
    cases (show some _ = some i from h)
    exact x_o190 h0 q190
  simp only [x_d0, if_neg q1, if_neg q2, if_neg q3, if_neg q4, if_neg q5, if_neg q6, if_neg q7, if_neg q8, if_neg q26, if_neg q27, if_neg q28, if_neg q29, if_neg q42, if_neg q43, if_neg q44, if_neg q45, if_neg q46, if_neg q50, if_neg q51, if_neg q59, if_neg q60, if_neg q61, if_neg q62, if_neg q75, if_neg q76, if_neg q77, if_neg q78, if_neg q79, if_neg q83, if_neg q84, if_neg q87, if_neg q89, if_neg q92, if_neg q96, if_neg q100, if_neg q104, if_neg q112, if_neg q116, if_neg q120, if_neg q122, if_neg q126, if_neg q128, if_neg q172, if_neg q176, if_neg q177, if_neg q190] at h
  cases h

theorem x_d1_ok {cd : ByteArray} {p : Nat} {b0 b1 : UInt8} {i : Instr} (h0 : cd.data.toList[p]? = some b0) (h1 : cd.data.toList[p + 1]? = some b1) (h : x_d1 b0.toNat b1.toNat = some i) : decode cd p = .ok (i, 2) := by
  by_cases q16 : b0.toNat = 16
  · rw [q16] at h
    cases (show some _ = some i from h)
    exact x_o16 h0 h1 q16
  by_cases q18 : b0.toNat = 18
  · rw [q18] at h
    cases (show some _ = some i from h)
    exact x_o18 h0 h1 q18
  by_cases q21 : b0.toNat = 21
  · rw [q21] at h
    cases (show some _ = some i from h)
    exact x_o21 h0 h1 q21
  by_cases q25 : b0.toNat = 25
  · rw [q25] at h
    cases (show some _ = some i from h)
    exact x_o25 h0 h1 q25
  by_cases q54 : b0.toNat = 54
  · rw [q54] at h
    cases (show some _ = some i from h)
    exact x_o54 h0 h1 q54
  by_cases q58 : b0.toNat = 58
  · rw [q58] at h
    cases (show some _ = some i from h)
    exact x_o58 h0 h1 q58
  by_cases q188 : b0.toNat = 188
  · by_cases r10 : b1.toNat = 10
    · rw [q188, r10] at h
      cases (show some _ = some i from h)
      exact x_o188a h0 h1 q188 r10
    · by_cases r4 : b1.toNat = 4
      · rw [q188, r4] at h
        cases (show some _ = some i from h)
        exact x_o188b h0 h1 q188 r4
      · simp only [x_d1, if_neg q16, if_neg q18, if_neg q21, if_neg q25, if_neg q54, if_neg q58, if_pos q188, if_neg r10, if_neg r4] at h
        cases h
  simp only [x_d1, if_neg q16, if_neg q18, if_neg q21, if_neg q25, if_neg q54, if_neg q58, if_neg q188] at h
  cases h

theorem x_d2_ok {cd : ByteArray} {p : Nat} {b0 b1 b2 : UInt8} {i : Instr} (h0 : cd.data.toList[p]? = some b0) (h1 : cd.data.toList[p + 1]? = some b1) (h2 : cd.data.toList[p + 1 + 1]? = some b2) (h : x_d2 b0.toNat b1.toNat b2.toNat = some i) : decode cd p = .ok (i, 3) := by
  by_cases q17 : b0.toNat = 17
  · rw [q17] at h
    cases (show some _ = some i from h)
    exact x_o17 h0 h1 h2 q17
  by_cases q19 : b0.toNat = 19
  · rw [q19] at h
    cases (show some _ = some i from h)
    exact x_o19 h0 h1 h2 q19
  by_cases q132 : b0.toNat = 132
  · rw [q132] at h
    cases (show some _ = some i from h)
    exact x_o132 h0 h1 h2 q132
  by_cases q153 : b0.toNat = 153
  · rw [q153] at h
    cases (show some _ = some i from h)
    exact x_o153 h0 h1 h2 q153
  by_cases q154 : b0.toNat = 154
  · rw [q154] at h
    cases (show some _ = some i from h)
    exact x_o154 h0 h1 h2 q154
  by_cases q155 : b0.toNat = 155
  · rw [q155] at h
    cases (show some _ = some i from h)
    exact x_o155 h0 h1 h2 q155
  by_cases q156 : b0.toNat = 156
  · rw [q156] at h
    cases (show some _ = some i from h)
    exact x_o156 h0 h1 h2 q156
  by_cases q157 : b0.toNat = 157
  · rw [q157] at h
    cases (show some _ = some i from h)
    exact x_o157 h0 h1 h2 q157
  by_cases q158 : b0.toNat = 158
  · rw [q158] at h
    cases (show some _ = some i from h)
    exact x_o158 h0 h1 h2 q158
  by_cases q159 : b0.toNat = 159
  · rw [q159] at h
    cases (show some _ = some i from h)
    exact x_o159 h0 h1 h2 q159
  by_cases q160 : b0.toNat = 160
  · rw [q160] at h
    cases (show some _ = some i from h)
    exact x_o160 h0 h1 h2 q160
  by_cases q161 : b0.toNat = 161
  · rw [q161] at h
    cases (show some _ = some i from h)
    exact x_o161 h0 h1 h2 q161
  by_cases q162 : b0.toNat = 162
  · rw [q162] at h
    cases (show some _ = some i from h)
    exact x_o162 h0 h1 h2 q162
  by_cases q163 : b0.toNat = 163
  · rw [q163] at h
    cases (show some _ = some i from h)
    exact x_o163 h0 h1 h2 q163
  by_cases q164 : b0.toNat = 164
  · rw [q164] at h
    cases (show some _ = some i from h)
    exact x_o164 h0 h1 h2 q164
  by_cases q167 : b0.toNat = 167
  · rw [q167] at h
    cases (show some _ = some i from h)
    exact x_o167 h0 h1 h2 q167
  by_cases q180 : b0.toNat = 180
  · rw [q180] at h
    cases (show some _ = some i from h)
    exact x_o180 h0 h1 h2 q180
  by_cases q181 : b0.toNat = 181
  · rw [q181] at h
    cases (show some _ = some i from h)
    exact x_o181 h0 h1 h2 q181
  by_cases q182 : b0.toNat = 182
  · rw [q182] at h
    cases (show some _ = some i from h)
    exact x_o182 h0 h1 h2 q182
  by_cases q183 : b0.toNat = 183
  · rw [q183] at h
    cases (show some _ = some i from h)
    exact x_o183 h0 h1 h2 q183
  by_cases q184 : b0.toNat = 184
  · rw [q184] at h
    cases (show some _ = some i from h)
    exact x_o184 h0 h1 h2 q184
  by_cases q187 : b0.toNat = 187
  · rw [q187] at h
    cases (show some _ = some i from h)
    exact x_o187 h0 h1 h2 q187
  by_cases q189 : b0.toNat = 189
  · rw [q189] at h
    cases (show some _ = some i from h)
    exact x_o189 h0 h1 h2 q189
  by_cases q198 : b0.toNat = 198
  · rw [q198] at h
    cases (show some _ = some i from h)
    exact x_o198 h0 h1 h2 q198
  by_cases q199 : b0.toNat = 199
  · rw [q199] at h
    cases (show some _ = some i from h)
    exact x_o199 h0 h1 h2 q199
  simp only [x_d2, if_neg q17, if_neg q19, if_neg q132, if_neg q153, if_neg q154, if_neg q155, if_neg q156, if_neg q157, if_neg q158, if_neg q159, if_neg q160, if_neg q161, if_neg q162, if_neg q163, if_neg q164, if_neg q167, if_neg q180, if_neg q181, if_neg q182, if_neg q183, if_neg q184, if_neg q187, if_neg q189, if_neg q198, if_neg q199] at h
  cases h

theorem x_is_ok {cd : ByteArray} {p len : Nat} {i : Instr} (h : x_is (cd.data.toList.drop p) i len = true) : decode cd p = .ok (i, len) := by
  unfold x_is at h
  split at h
  · rename_i a r hl
    refine x_d0_ok (b0 := a) ?_ (of_decide_eq_true h)
    have := congrArg (fun l => l[0]?) hl
    simpa [List.getElem?_drop] using this
  · rename_i a b r hl
    refine x_d1_ok (b0 := a) (b1 := b) ?_ ?_ (of_decide_eq_true h)
    · have := congrArg (fun l => l[0]?) hl
      simpa [List.getElem?_drop] using this
    · have := congrArg (fun l => l[1]?) hl
      simpa [List.getElem?_drop] using this
  · rename_i a b c r hl
    refine x_d2_ok (b0 := a) (b1 := b) (b2 := c) ?_ ?_ ?_ (of_decide_eq_true h)
    · have := congrArg (fun l => l[0]?) hl
      simpa [List.getElem?_drop] using this
    · have := congrArg (fun l => l[1]?) hl
      simpa [List.getElem?_drop] using this
    · have := congrArg (fun l => l[2]?) hl
      simpa [List.getElem?_drop, Nat.add_assoc] using this
  · cases h
