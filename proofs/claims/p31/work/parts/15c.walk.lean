/-! THE WALKS OF THE TWO METHODS OVER FLOATS AND LONGS -/
section
variable {p : Program} {l : Launch} {e : Env} {R : Room} {s : State} {m : MethodId} {args : Array Value} {below : List Frame} {meth : Method} {c : Code} {H : Heap} {locs : List Loc} {cells slots : Nat} {Q : State → Prop}
theorem p_ldcwf {cc : ByteArray} {pc : Nat} {ls : Array Slot} {rest : List Value} (hexec : p.tables.exec = Jvm.exec) (hb : c.code = cc) {own : String} {index : Nat} {v : UInt32} (hown : s.vm.findClass own = some m.cls) (hconst : (Jvm.Cond.constantFloat own index v).before args s = true) (hdg : decode cc pc = .ok (.ldc_w index, 3)) (k : W p l e R s m args below meth c H locs cells slots Q (F0 m (pc + 3) ls (.float v :: rest))) : W p l e R s m args below meth c H locs cells slots Q (F0 m pc ls rest) := by
  intro T hT X
  obtain ⟨t, a, b⟩ := k T hT X
  refine ⟨t, ?_, b⟩
  obtain ⟨kk, cf, hk, hcf, hcp⟩ := Cond.constantFloat_spec hown hconst
  obtain ⟨k', hk', he⟩ := X.warmed.alike.2.2 _ _ hk
  jvm_step X.here [hexec, hb, hdg, ldc_w.wp_float (s := T) (f := F0 m pc ls rest) X.here.top hk' (by rw [he]; exact hcf) hcp]
  exact a
theorem p_C_loop {v : Int} {x ee : Int32} {E F : Nat} (hx : p.tables.exec = Jvm.exec) (hb : c.code = prog_1_method_35_code) (hown : s.vm.findClass "WheelStands" = some m.cls) (hk256 : (Jvm.Cond.constant "WheelStands" 256 (-2147483648)).before args s = true) (hk257 : (Jvm.Cond.constant "WheelStands" 257 (1065353216)).before args s = true) (hk258 : (Jvm.Cond.constant "WheelStands" 258 (8388607)).before args s = true) (hk259 : (Jvm.Cond.constant "WheelStands" 259 (8388608)).before args s = true) (hk260 : (Jvm.Cond.constantFloat "WheelStands" 260 1056964608).before args s = true) (hk261 : (Jvm.Cond.constantFloat "WheelStands" 261 1148846080).before args s = true) (hE : 100 ≤ E ∧ E ≤ 127) (hF : F < 8388608) (hv : x_thou v = x_th2 E F) (fin : ∀ (w : Int32) (pc : Nat) (ls : Array Slot), decode prog_1_method_35_code pc = .ok (.ireturn, 1) → w = Int32.ofInt (x_thou v) → W p l e R s m args below meth c H locs cells slots Q (F0 m pc ls [.int w])) : ∀ (d : Nat) (ls : Array Slot), E + d ≤ 150 → lv_has ls 4 [(3, .int (Int32.ofNat (150 - d))), (2, .float (UInt32.ofNat ((E + d) * 8388608 + F))), (1, .int ee), (0, .int x)] → W p l e R s m args below meth c H locs cells slots Q (F0 m 48 ls []) := by
  intro d
  induction d with
  | zero =>
    intro ls hd hl
    refine lv_iload_n hx hb (show decode prog_1_method_35_code 48 = .ok (.iload_n 3, 1) by decide +kernel) rfl (lv_at hl 0 rfl) ?_
    refine lv_sipush hx hb (show decode prog_1_method_35_code 49 = .ok (.sipush 150, 3) by decide +kernel) (by decide : _ = Int32.ofNat 150) ?_
    refine lv_icmp_ge (tgt := 67) hx hb (show decode prog_1_method_35_code 52 = .ok (.if_icmp .ge 15, 3) by decide +kernel) (by decide) (fun _ => ?_) (fun q => absurd ((p_le (by omega) (by omega)).mpr (by omega)) q)
    refine lv_fload_n hx hb (show decode prog_1_method_35_code 67 = .ok (.fload_n 2, 1) by decide +kernel) rfl (lv_at hl 1 rfl) ?_
    refine p_ldcwf hx hb hown hk261 (show decode prog_1_method_35_code 68 = .ok (.ldc_w 261, 3) by decide +kernel) ?_
    obtain ⟨t1, G, H2, hG, hH2, t2⟩ := fp_thou hE hF
    have hn : vf_n32 (FP.fmul (UInt32.ofNat ((E + 0) * 8388608 + F)) 1148846080) := by
      show vf_n32 (FP.Core.fmul (UInt32.ofNat ((E + 0) * 8388608 + F)) 1148846080)
      rw [Nat.add_zero, t2]; exact fp_n32 hG hH2
    refine lv_fmul hx hb (show decode prog_1_method_35_code 71 = .ok (.fmul, 1) by decide +kernel) hn ?_
    refine lv_f2i hx hb (show decode prog_1_method_35_code 72 = .ok (.f2i, 1) by decide +kernel) ?_
    refine fin _ 73 ls (by decide +kernel) ?_
    rw [hv]
    exact t1
  | succ d ih =>
    intro ls hd hl
    refine lv_iload_n hx hb (show decode prog_1_method_35_code 48 = .ok (.iload_n 3, 1) by decide +kernel) rfl (lv_at hl 0 rfl) ?_
    refine lv_sipush hx hb (show decode prog_1_method_35_code 49 = .ok (.sipush 150, 3) by decide +kernel) (by decide : _ = Int32.ofNat 150) ?_
    refine lv_icmp_ge (tgt := 67) hx hb (show decode prog_1_method_35_code 52 = .ok (.if_icmp .ge 15, 3) by decide +kernel) (by decide) (fun q => absurd ((p_le (by omega) (by omega)).mp q) (by omega)) (fun _ => ?_)
    refine lv_fload_n hx hb (show decode prog_1_method_35_code 55 = .ok (.fload_n 2, 1) by decide +kernel) rfl (lv_at hl 1 rfl) ?_
    refine p_ldcwf hx hb hown hk260 (show decode prog_1_method_35_code 56 = .ok (.ldc_w 260, 3) by decide +kernel) ?_
    have t2 : FP.fmul (UInt32.ofNat ((E + (d + 1)) * 8388608 + F)) 1056964608 = UInt32.ofNat ((E + d) * 8388608 + F) := by
      have := fp_half (E := E + (d + 1)) (F := F) ⟨by omega, by omega⟩ hF
      rwa [show E + (d + 1) - 1 = E + d by omega] at this
    have hn : vf_n32 (FP.fmul (UInt32.ofNat ((E + (d + 1)) * 8388608 + F)) 1056964608) := by
      rw [t2]; exact fp_n32 (by omega) hF
    refine lv_fmul hx hb (show decode prog_1_method_35_code 59 = .ok (.fmul, 1) by decide +kernel) hn ?_
    rw [t2]
    refine lv_fstore_n hx hb (show decode prog_1_method_35_code 60 = .ok (.fstore_n 2, 1) by decide +kernel) rfl hl (by decide) (lv' := [(2, .float (UInt32.ofNat ((E + d) * 8388608 + F))), (3, .int (Int32.ofNat (150 - (d + 1)))), (1, .int ee), (0, .int x)]) rfl (fun ls hl => ?_)
    refine lv_iinc (k := 1) (v := Int32.ofNat (150 - d)) hx hb (show decode prog_1_method_35_code 61 = .ok (.iinc 3 1, 3) by decide +kernel) hl rfl ?_ (by decide) (lv' := [(3, .int (Int32.ofNat (150 - d))), (2, .float (UInt32.ofNat ((E + d) * 8388608 + F))), (1, .int ee), (0, .int x)]) rfl (fun ls hl => ?_)
    · rw [← Int32.toInt_inj, Int32.toInt_add, p_nn (by omega), p_nn (by omega), show (Int32.ofInt 1).toInt = 1 by decide, Int.bmod_eq_of_le (by omega) (by omega)]
      omega
    refine lv_goto (tgt := 48) hx hb (show decode prog_1_method_35_code 64 = .ok (.goto (-16), 3) by decide +kernel) (by decide) ?_
    exact ih ls (by omega) hl
theorem p_C {v : Int} (hv : x_in32 v) (hx : p.tables.exec = Jvm.exec) (hb : c.code = prog_1_method_35_code) (hown : s.vm.findClass "WheelStands" = some m.cls) (hk256 : (Jvm.Cond.constant "WheelStands" 256 (-2147483648)).before args s = true) (hk257 : (Jvm.Cond.constant "WheelStands" 257 (1065353216)).before args s = true) (hk258 : (Jvm.Cond.constant "WheelStands" 258 (8388607)).before args s = true) (hk259 : (Jvm.Cond.constant "WheelStands" 259 (8388608)).before args s = true) (hk260 : (Jvm.Cond.constantFloat "WheelStands" 260 1056964608).before args s = true) (hk261 : (Jvm.Cond.constantFloat "WheelStands" 261 1148846080).before args s = true) (fin : ∀ (w : Int32) (pc : Nat) (ls : Array Slot), decode prog_1_method_35_code pc = .ok (.ireturn, 1) → w = Int32.ofInt (x_thou v) → W p l e R s m args below meth c H locs cells slots Q (F0 m pc ls [.int w])) {ls : Array Slot} (hl : lv_has ls 4 [(0, .int (Int32.ofInt v))]) : W p l e R s m args below meth c H locs cells slots Q (F0 m 0 ls []) := by
  unfold x_in32 at hv
  have tv : (Int32.ofInt v).toInt = v := Int32.toInt_ofInt_of_le (by omega) (by omega)
  refine lv_iload_n hx hb (show decode prog_1_method_35_code 0 = .ok (.iload_n 0, 1) by decide +kernel) rfl (lv_at hl 0 rfl) ?_
  refine lv_ldcw hx hb hown hk256 (show decode prog_1_method_35_code 1 = .ok (.ldc_w 256, 3) by decide +kernel) ?_
  refine lv_icmp_ne (tgt := 9) hx hb (show decode prog_1_method_35_code 4 = .ok (.if_icmp .ne 5, 3) by decide +kernel) (by decide) (fun c0 => ?_) (fun c0 => ?_)
  rotate_left
  · have e0 : v = -2147483648 := by rw [← tv, c0]; decide
    refine lv_iconst (v := 0) hx hb (show decode prog_1_method_35_code 7 = .ok (.iconst 0, 1) by decide +kernel) (by decide) ?_
    refine fin _ 8 ls (by decide +kernel) ?_
    rw [e0]; decide
  · have n0 : ¬ v = -2147483648 := fun q => c0 (by rw [q]; decide)
    refine lv_iload_n hx hb (show decode prog_1_method_35_code 9 = .ok (.iload_n 0, 1) by decide +kernel) rfl (lv_at hl 0 rfl) ?_
    refine lv_if_lt (tgt := 20) hx hb (show decode prog_1_method_35_code 10 = .ok (.ifCond .lt 10, 3) by decide +kernel) (by decide) (fun c1 => ?_) (fun c1 => ?_)
    · have h1 : v < 0 := by
        have := Int32.lt_iff_toInt_lt.mp c1
        rw [tv, show (0 : Int32).toInt = 0 by decide] at this
        exact this
      refine lv_iconst (v := -1) hx hb (show decode prog_1_method_35_code 20 = .ok (.iconst (-1), 1) by decide +kernel) (by decide) ?_
      refine fin _ 21 ls (by decide +kernel) ?_
      unfold x_thou
      rw [if_pos h1, if_neg n0]; decide
    · have h1 : 0 ≤ v := by
        have : ¬ (Int32.ofInt v).toInt < (0 : Int32).toInt := fun q => c1 (Int32.lt_iff_toInt_lt.mpr q)
        rw [tv, show (0 : Int32).toInt = 0 by decide] at this
        omega
      refine lv_iload_n hx hb (show decode prog_1_method_35_code 13 = .ok (.iload_n 0, 1) by decide +kernel) rfl (lv_at hl 0 rfl) ?_
      refine lv_ldcw hx hb hown hk257 (show decode prog_1_method_35_code 14 = .ok (.ldc_w 257, 3) by decide +kernel) ?_
      refine lv_icmp_le (tgt := 22) hx hb (show decode prog_1_method_35_code 17 = .ok (.if_icmp .le 5, 3) by decide +kernel) (by decide) (fun c2 => ?_) (fun c2 => ?_)
      rotate_left
      · have h2 : 1065353216 < v := by
          have : ¬ (Int32.ofInt v).toInt ≤ (1065353216 : Int32).toInt := fun q => c2 (Int32.le_iff_toInt_le.mpr q)
          rw [tv, show (1065353216 : Int32).toInt = 1065353216 by decide] at this
          omega
        refine lv_iconst (v := -1) hx hb (show decode prog_1_method_35_code 20 = .ok (.iconst (-1), 1) by decide +kernel) (by decide) ?_
        refine fin _ 21 ls (by decide +kernel) ?_
        unfold x_thou
        rw [if_neg (by omega), if_pos (by omega)]; decide
      · have h2 : v ≤ 1065353216 := by
          have := Int32.le_iff_toInt_le.mp c2
          rw [tv, show (1065353216 : Int32).toInt = 1065353216 by decide] at this
          exact this
        obtain ⟨n, rfl⟩ : ∃ n : Nat, v = n := ⟨v.toNat, by omega⟩
        have ex : Int32.ofInt (n : Int) = Int32.ofNat n := by rw [p_on (by omega)]; rfl
        rw [ex] at hl tv
        refine lv_iload_n hx hb (show decode prog_1_method_35_code 22 = .ok (.iload_n 0, 1) by decide +kernel) rfl (lv_at hl 0 rfl) ?_
        refine lv_bipush hx hb (show decode prog_1_method_35_code 23 = .ok (.bipush 23, 2) by decide +kernel) (by decide : _ = Int32.ofNat 23) ?_
        refine lv_iushr (v := Int32.ofNat (n / 8388608)) hx hb (show decode prog_1_method_35_code 25 = .ok (.iushr, 1) by decide +kernel) (pk_ushrN (n := n) (by omega) (Int32.ofNat 23) 23 (by decide)) ?_
        refine lv_istore_n hx hb (show decode prog_1_method_35_code 26 = .ok (.istore_n 1, 1) by decide +kernel) rfl hl (by decide) (lv' := [(1, .int (Int32.ofNat (n / 8388608))), (0, .int (Int32.ofNat n))]) rfl (fun ls hl => ?_)
        refine lv_iload_n hx hb (show decode prog_1_method_35_code 27 = .ok (.iload_n 1, 1) by decide +kernel) rfl (lv_at hl 0 rfl) ?_
        refine lv_bipush hx hb (show decode prog_1_method_35_code 28 = .ok (.bipush 100, 2) by decide +kernel) (by decide : _ = Int32.ofNat 100) ?_
        refine lv_icmp_ge (tgt := 35) hx hb (show decode prog_1_method_35_code 30 = .ok (.if_icmp .ge 5, 3) by decide +kernel) (by decide) (fun c3 => ?_) (fun c3 => ?_)
        rotate_left
        · have h3 : n / 8388608 < 100 := by
            have : ¬ 100 ≤ n / 8388608 := fun q => c3 ((p_le (by omega) (by omega)).mpr q)
            omega
          refine lv_iconst (v := 0) hx hb (show decode prog_1_method_35_code 33 = .ok (.iconst 0, 1) by decide +kernel) (by decide) ?_
          refine fin _ 34 ls (by decide +kernel) ?_
          unfold x_thou
          rw [if_neg (by omega), if_neg (by omega), if_pos (by omega)]; decide
        · have h3 : 100 ≤ n / 8388608 := (p_le (by omega) (by omega)).mp c3
          refine lv_iload_n hx hb (show decode prog_1_method_35_code 35 = .ok (.iload_n 0, 1) by decide +kernel) rfl (lv_at hl 1 rfl) ?_
          refine lv_ldcw hx hb hown hk258 (show decode prog_1_method_35_code 36 = .ok (.ldc_w 258, 3) by decide +kernel) ?_
          refine lv_iand hx hb (show decode prog_1_method_35_code 39 = .ok (.iand, 1) by decide +kernel) ?_
          have em : Int32.ofNat n &&& 8388607 = Int32.ofNat (n % 8388608) := by
            have := p_msk (Int32.ofNat n) 23 (by omega)
            rw [tv] at this
            exact this
          rw [em]
          refine lv_ldcw hx hb hown hk259 (show decode prog_1_method_35_code 40 = .ok (.ldc_w 259, 3) by decide +kernel) ?_
          refine lv_ior hx hb (show decode prog_1_method_35_code 43 = .ok (.ior, 1) by decide +kernel) ?_
          rw [p_or (Nat.mod_lt _ (by omega))]
          refine lv_i2f hx hb (show decode prog_1_method_35_code 44 = .ok (.i2f, 1) by decide +kernel) ?_
          have ei : FP.i2f (Int32.ofNat (8388608 + n % 8388608)) = UInt32.ofNat ((n / 8388608 + (150 - n / 8388608)) * 8388608 + n % 8388608) := by
            show FP.Core.i2f _ = _
            rw [fp_i2f ⟨by omega, by omega⟩, show 8388608 + n % 8388608 - 8388608 = n % 8388608 by omega, show n / 8388608 + (150 - n / 8388608) = 150 by omega]
          rw [ei]
          refine lv_fstore_n hx hb (show decode prog_1_method_35_code 45 = .ok (.fstore_n 2, 1) by decide +kernel) rfl hl (by decide) (lv' := [(2, .float (UInt32.ofNat ((n / 8388608 + (150 - n / 8388608)) * 8388608 + n % 8388608))), (1, .int (Int32.ofNat (n / 8388608))), (0, .int (Int32.ofNat n))]) rfl (fun ls hl => ?_)
          refine lv_iload_n hx hb (show decode prog_1_method_35_code 46 = .ok (.iload_n 1, 1) by decide +kernel) rfl (lv_at hl 1 rfl) ?_
          refine lv_istore_n hx hb (show decode prog_1_method_35_code 47 = .ok (.istore_n 3, 1) by decide +kernel) rfl hl (by decide) (lv' := [(3, .int (Int32.ofNat (n / 8388608))), (2, .float (UInt32.ofNat ((n / 8388608 + (150 - n / 8388608)) * 8388608 + n % 8388608))), (1, .int (Int32.ofNat (n / 8388608))), (0, .int (Int32.ofNat n))]) rfl (fun ls hl => ?_)
          refine p_C_loop (v := n) (x := Int32.ofNat n) (ee := Int32.ofNat (n / 8388608)) (E := n / 8388608) (F := n % 8388608) hx hb hown hk256 hk257 hk258 hk259 hk260 hk261 ⟨h3, by omega⟩ (Nat.mod_lt _ (by omega)) ?_ fin (150 - n / 8388608) ls (by omega) ?_
          · unfold x_thou
            rw [if_neg (by omega), if_neg (by omega), if_neg (by omega)]
            rfl
          · rw [show 150 - (150 - n / 8388608) = n / 8388608 by omega]
            exact hl
theorem p_M_tail {v : Int} {x z : Int32} {E F : Nat} {K d : Nat} {ws : List (Nat × Value)} (hx : p.tables.exec = Jvm.exec) (hb : c.code = prog_9_method_29_code) (hown : s.vm.findClass "WheelStandsModel" = some m.cls) (hk81 : (Jvm.Cond.constant "WheelStandsModel" 81 (8388607)).before args s = true) (hk82 : (Jvm.Cond.constantLong "WheelStandsModel" 82 8388608).before args s = true) (hk84 : (Jvm.Cond.constantLong "WheelStandsModel" 84 1000).before args s = true) (hk86 : (Jvm.Cond.constantLong "WheelStandsModel" 86 16777216).before args s = true) (hE : 100 ≤ E ∧ E ≤ 127) (hd : d = 9 ∨ d = 10) (hK : K < 16777217) (hv : x_thou v = ((K * 2 ^ d / 2 ^ (150 - E) : Nat) : Int)) (fin : ∀ (w : Int32) (pc : Nat) (ls : Array Slot), decode prog_9_method_29_code pc = .ok (.ireturn, 1) → w = Int32.ofInt (x_thou v) → W p l e R s m args below meth c H locs cells slots Q (F0 m pc ls [.int w])) (ls : Array Slot) (h7 : ls[7]? = some (.val (.long (Int64.ofNat K)))) (h6 : ls[6]? = some (.val (.int (Int32.ofNat d)))) (h1 : ls[1]? = some (.val (.int (Int32.ofNat E)))) : W p l e R s m args below meth c H locs cells slots Q (F0 m 165 ls []) := by
  have hp : K * 2 ^ d < 20000000000 := by
    rcases hd with rfl | rfl
    · show K * 512 < _; omega
    · show K * 1024 < _; omega
  have hq : K * 2 ^ d / 2 ^ (150 - E) ≤ K * 2 ^ d / 2 ^ 23 := Nat.div_le_div_left (Nat.pow_le_pow_right (by decide) (by omega)) (by decide)
  have hr : K * 2 ^ d / 2 ^ 23 < 2400 := by
    show _ / 8388608 < _
    omega
  refine lv_lload hx hb (show decode prog_9_method_29_code 165 = .ok (.lload 7, 2) by decide +kernel) h7 ?_
  refine lv_iload hx hb (show decode prog_9_method_29_code 167 = .ok (.iload 6, 2) by decide +kernel) h6 ?_
  refine lv_lshl (v := Int64.ofNat (K * 2 ^ d)) hx hb (show decode prog_9_method_29_code 169 = .ok (.lshl, 1) by decide +kernel) (p_shl K (by omega)) ?_
  refine lv_sipush hx hb (show decode prog_9_method_29_code 170 = .ok (.sipush 150, 3) by decide +kernel) (by decide : _ = Int32.ofNat 150) ?_
  refine lv_iload_n hx hb (show decode prog_9_method_29_code 173 = .ok (.iload_n 1, 1) by decide +kernel) rfl h1 ?_
  refine lv_isub hx hb (show decode prog_9_method_29_code 174 = .ok (.isub, 1) by decide +kernel) ?_
  have es : Int32.ofNat 150 - Int32.ofNat E = Int32.ofNat (150 - E) := by
    rw [← Int32.toInt_inj, Int32.toInt_sub, p_nn (by omega), p_nn (by omega), p_nn (by omega), Int.bmod_eq_of_le (by omega) (by omega)]
    omega
  rw [es]
  refine lv_lshr (v := Int64.ofNat (K * 2 ^ d / 2 ^ (150 - E))) hx hb (show decode prog_9_method_29_code 175 = .ok (.lshr, 1) by decide +kernel) (p_shr (by omega) (by omega)) ?_
  refine lv_l2i (v := Int32.ofNat (K * 2 ^ d / 2 ^ (150 - E))) hx hb (show decode prog_9_method_29_code 176 = .ok (.l2i, 1) by decide +kernel) (p_l2i (by omega)) ?_
  refine fin _ 177 ls (by decide +kernel) ?_
  rw [hv]
  have hX : K * 2 ^ d / 2 ^ (150 - E) < 2400 := Nat.lt_of_le_of_lt hq hr
  generalize K * 2 ^ d / 2 ^ (150 - E) = X at hX ⊢
  rw [p_on (by omega)]
  rfl
theorem p_cmp0 (a b : Int64) : lg_cmp a b = 0 ↔ a = b := by
  unfold lg_cmp
  by_cases h1 : a > b
  · rw [if_pos h1]
    refine ⟨fun q => absurd q (by decide), fun q => ?_⟩
    subst q
    exact absurd (Int64.lt_iff_toInt_lt.mp h1) (by omega)
  · rw [if_neg h1]
    by_cases h2 : a = b
    · rw [if_pos h2]; exact ⟨fun _ => h2, fun _ => rfl⟩
    · rw [if_neg h2]; exact ⟨fun q => absurd q (by decide), fun q => absurd q h2⟩
theorem p_M_95 {v : Int} {x z : Int32} {E F : Nat} {d : Nat} (hx : p.tables.exec = Jvm.exec) (hb : c.code = prog_9_method_29_code) (hown : s.vm.findClass "WheelStandsModel" = some m.cls) (hk81 : (Jvm.Cond.constant "WheelStandsModel" 81 (8388607)).before args s = true) (hk82 : (Jvm.Cond.constantLong "WheelStandsModel" 82 8388608).before args s = true) (hk84 : (Jvm.Cond.constantLong "WheelStandsModel" 84 1000).before args s = true) (hk86 : (Jvm.Cond.constantLong "WheelStandsModel" 86 16777216).before args s = true) (hE : 100 ≤ E ∧ E ≤ 127) (hF : F < 8388608) (hd : d = 9 ∧ ((8388608 + F) * 1000) < 8589934592 ∨ d = 10 ∧ 8589934592 ≤ ((8388608 + F) * 1000)) (hv : x_thou v = x_th2 E F) (fin : ∀ (w : Int32) (pc : Nat) (ls : Array Slot), decode prog_9_method_29_code pc = .ok (.ireturn, 1) → w = Int32.ofInt (x_thou v) → W p l e R s m args below meth c H locs cells slots Q (F0 m pc ls [.int w])) (ls : Array Slot) (hl : lv_has ls 13 [(6, .int (Int32.ofNat d)), (4, .long (Int64.ofNat ((8388608 + F) * 1000))), (3, .int z), (2, .int (Int32.ofNat F)), (1, .int (Int32.ofNat E)), (0, .int x)]) : W p l e R s m args below meth c H locs cells slots Q (F0 m 95 ls []) := by
  have hd64 : d < 64 := by omega
  obtain ⟨D, hD⟩ : ∃ D, D = 2 ^ d := ⟨_, rfl⟩
  have hDv : D = 512 ∧ d = 9 ∧ (8388608 + F) * 1000 < 8589934592 ∨ D = 1024 ∧ d = 10 ∧ 8589934592 ≤ (8388608 + F) * 1000 := by
    rcases hd with ⟨rfl, h⟩ | ⟨rfl, h⟩
    · exact Or.inl ⟨hD, rfl, h⟩
    · exact Or.inr ⟨hD, rfl, h⟩
  have th := fp_th hE hF hDv
  have kk := fp_K (D := D) hF (by omega)
  have hPr : (8388608 + F) * 1000 < 16777216000 := by omega
  revert hl th kk
  generalize (8388608 + F) * 1000 = P at hPr hDv ⊢
  intro hl th kk
  have tail : ∀ (K : Nat) (ls : Array Slot), K = FP.Core.nearest P D → ls[7]? = some (.val (.long (Int64.ofNat K))) → ls[6]? = some (.val (.int (Int32.ofNat d))) → ls[1]? = some (.val (.int (Int32.ofNat E))) → W p l e R s m args below meth c H locs cells slots Q (F0 m 165 ls []) := fun K ls hK g7 g6 g1 => by
    refine p_M_tail (v := v) (x := x) (z := z) (F := F) (ws := []) hx hb hown hk81 hk82 hk84 hk86 hE (by omega) (by omega) ?_ fin ls g7 g6 g1
    rw [hv, th, ← hK, show 150 - E = (150 - d - E) + d by omega, Nat.pow_add, Nat.mul_div_mul_right _ _ (Nat.two_pow_pos d)]
  have hdiv : P / 2 ^ d = P / D := by rw [hD]
  have hmod : P - P / D * D = P % D := by
    have := Nat.div_add_mod P D
    rw [Nat.mul_comm] at this
    omega
  have hDpos : 0 < D := by omega
  have hml : P % D < D := Nat.mod_lt _ hDpos
  have hle : P / D * D ≤ P := Nat.div_mul_le_self _ _
  have hdl : P / D ≤ P := Nat.div_le_self _ _
  refine lv_lload hx hb (show decode prog_9_method_29_code 95 = .ok (.lload 4, 2) by decide +kernel) (lv_at hl 1 rfl) ?_
  refine lv_iload hx hb (show decode prog_9_method_29_code 97 = .ok (.iload 6, 2) by decide +kernel) (lv_at hl 0 rfl) ?_
  refine lv_lshr (v := Int64.ofNat (P / D)) hx hb (show decode prog_9_method_29_code 99 = .ok (.lshr, 1) by decide +kernel) ((p_shr hd64 (by omega)).trans (by rw [hdiv])) ?_
  refine lv_lstore hx hb (show decode prog_9_method_29_code 100 = .ok (.lstore 7, 2) by decide +kernel) hl (by decide) (lv' := [(7, .long (Int64.ofNat (P / D))), (6, .int (Int32.ofNat d)), (4, .long (Int64.ofNat P)), (3, .int z), (2, .int (Int32.ofNat F)), (1, .int (Int32.ofNat E)), (0, .int x)]) rfl (fun ls hl => ?_)
  refine lv_lload hx hb (show decode prog_9_method_29_code 102 = .ok (.lload 4, 2) by decide +kernel) (lv_at hl 2 rfl) ?_
  refine lv_lload hx hb (show decode prog_9_method_29_code 104 = .ok (.lload 7, 2) by decide +kernel) (lv_at hl 0 rfl) ?_
  refine lv_iload hx hb (show decode prog_9_method_29_code 106 = .ok (.iload 6, 2) by decide +kernel) (lv_at hl 1 rfl) ?_
  refine lv_lshl (v := Int64.ofNat (P / D * D)) hx hb (show decode prog_9_method_29_code 108 = .ok (.lshl, 1) by decide +kernel) ((p_shl _ hd64).trans (by rw [← hD])) ?_
  refine lv_lsub hx hb (show decode prog_9_method_29_code 109 = .ok (.lsub, 1) by decide +kernel) ?_
  rw [p_lsub hle (by omega), hmod]
  refine lv_lstore hx hb (show decode prog_9_method_29_code 110 = .ok (.lstore 9, 2) by decide +kernel) hl (by decide) (lv' := [(9, .long (Int64.ofNat (P % D))), (7, .long (Int64.ofNat (P / D))), (6, .int (Int32.ofNat d)), (4, .long (Int64.ofNat P)), (3, .int z), (2, .int (Int32.ofNat F)), (1, .int (Int32.ofNat E)), (0, .int x)]) rfl (fun ls hl => ?_)
  refine lv_iload hx hb (show decode prog_9_method_29_code 112 = .ok (.iload 6, 2) by decide +kernel) (lv_at hl 2 rfl) ?_
  refine lv_if_le (tgt := 126) hx hb (show decode prog_9_method_29_code 114 = .ok (.ifCond .le 12, 3) by decide +kernel) (by decide) (fun q => absurd ((p_le (b := 0) (by omega) (by omega)).mp q) (by omega)) (fun _ => ?_)
  refine lv_lconst (v := Int64.ofNat 1) hx hb (show decode prog_9_method_29_code 117 = .ok (.lconst 1, 1) by decide +kernel) (by decide) ?_
  refine lv_iload hx hb (show decode prog_9_method_29_code 118 = .ok (.iload 6, 2) by decide +kernel) (lv_at hl 2 rfl) ?_
  refine lv_iconst (v := Int32.ofNat 1) hx hb (show decode prog_9_method_29_code 120 = .ok (.iconst 1, 1) by decide +kernel) (by decide) ?_
  refine lv_isub hx hb (show decode prog_9_method_29_code 121 = .ok (.isub, 1) by decide +kernel) ?_
  have es : Int32.ofNat d - Int32.ofNat 1 = Int32.ofNat (d - 1) := by
    rw [← Int32.toInt_inj, Int32.toInt_sub, p_nn (by omega), p_nn (by omega), p_nn (by omega), Int.bmod_eq_of_le (by omega) (by omega)]
    omega
  rw [es]
  have hh : 1 * 2 ^ (d - 1) = D / 2 := by
    rcases hDv with ⟨rfl, rfl, h⟩ | ⟨rfl, rfl, h⟩ <;> rfl
  refine lv_lshl (v := Int64.ofNat (D / 2)) hx hb (show decode prog_9_method_29_code 122 = .ok (.lshl, 1) by decide +kernel) ((p_shl 1 (by omega)).trans (by rw [hh])) ?_
  refine lv_goto (tgt := 127) hx hb (show decode prog_9_method_29_code 123 = .ok (.goto 4, 3) by decide +kernel) (by decide) ?_
  refine lv_lstore hx hb (show decode prog_9_method_29_code 127 = .ok (.lstore 11, 2) by decide +kernel) hl (by decide) (lv' := [(11, .long (Int64.ofNat (D / 2))), (9, .long (Int64.ofNat (P % D))), (7, .long (Int64.ofNat (P / D))), (6, .int (Int32.ofNat d)), (4, .long (Int64.ofNat P)), (3, .int z), (2, .int (Int32.ofNat F)), (1, .int (Int32.ofNat E)), (0, .int x)]) rfl (fun ls hl => ?_)
  refine lv_iload hx hb (show decode prog_9_method_29_code 129 = .ok (.iload 6, 2) by decide +kernel) (lv_at hl 3 rfl) ?_
  refine lv_if_le (tgt := 165) hx hb (show decode prog_9_method_29_code 131 = .ok (.ifCond .le 34, 3) by decide +kernel) (by decide) (fun q => absurd ((p_le (b := 0) (by omega) (by omega)).mp q) (by omega)) (fun _ => ?_)
  have h2D : D / 2 * 2 = D := by omega
  -- one more
  have up : FP.Core.nearest P D = P / D + 1 → W p l e R s m args below meth c H locs cells slots Q (F0 m 159 ls []) := fun hK => by
    refine lv_lload hx hb (show decode prog_9_method_29_code 159 = .ok (.lload 7, 2) by decide +kernel) (lv_at hl 2 rfl) ?_
    refine lv_lconst (v := Int64.ofNat 1) hx hb (show decode prog_9_method_29_code 161 = .ok (.lconst 1, 1) by decide +kernel) (by decide) ?_
    refine lv_ladd hx hb (show decode prog_9_method_29_code 162 = .ok (.ladd, 1) by decide +kernel) ?_
    rw [p_ladd (by omega) (by omega)]
    refine lv_lstore hx hb (show decode prog_9_method_29_code 163 = .ok (.lstore 7, 2) by decide +kernel) hl (by decide) (lv' := [(7, .long (Int64.ofNat (P / D + 1))), (11, .long (Int64.ofNat (D / 2))), (9, .long (Int64.ofNat (P % D))), (6, .int (Int32.ofNat d)), (4, .long (Int64.ofNat P)), (3, .int z), (2, .int (Int32.ofNat F)), (1, .int (Int32.ofNat E)), (0, .int x)]) rfl (fun ls hl => ?_)
    exact tail _ ls hK.symm (lv_at hl 0 rfl) (lv_at hl 3 rfl) (lv_at hl 7 rfl)
  have same : FP.Core.nearest P D = P / D → W p l e R s m args below meth c H locs cells slots Q (F0 m 165 ls []) := fun hK =>
    tail _ ls hK.symm (lv_at hl 2 rfl) (lv_at hl 3 rfl) (lv_at hl 7 rfl)
  have nr : FP.Core.nearest P D = if 2 * (P % D) < D then P / D else if D < 2 * (P % D) then P / D + 1 else P / D + P / D % 2 := rfl
  refine lv_lload hx hb (show decode prog_9_method_29_code 134 = .ok (.lload 9, 2) by decide +kernel) (lv_at hl 1 rfl) ?_
  refine lv_lload hx hb (show decode prog_9_method_29_code 136 = .ok (.lload 11, 2) by decide +kernel) (lv_at hl 0 rfl) ?_
  refine W.lcmp hx hb (show decode prog_9_method_29_code 138 = .ok (.lcmp, 1) by decide +kernel) ?_
  refine lv_if_gt (tgt := 159) hx hb (show decode prog_9_method_29_code 139 = .ok (.ifCond .gt 20, 3) by decide +kernel) (by decide) (fun q => ?_) (fun q => ?_)
  · have g : D / 2 < P % D := (p_lLT (by omega) (by omega)).mp ((lg_cmp_gt _ _).mp q)
    exact up (by rw [nr, if_neg (by omega), if_pos (by omega)])
  · have g : ¬ D / 2 < P % D := fun w => q ((lg_cmp_gt _ _).mpr ((p_lLT (by omega) (by omega)).mpr w))
    refine lv_lload hx hb (show decode prog_9_method_29_code 142 = .ok (.lload 9, 2) by decide +kernel) (lv_at hl 1 rfl) ?_
    refine lv_lload hx hb (show decode prog_9_method_29_code 144 = .ok (.lload 11, 2) by decide +kernel) (lv_at hl 0 rfl) ?_
    refine W.lcmp hx hb (show decode prog_9_method_29_code 146 = .ok (.lcmp, 1) by decide +kernel) ?_
    refine lv_if_ne (tgt := 165) hx hb (show decode prog_9_method_29_code 147 = .ok (.ifCond .ne 18, 3) by decide +kernel) (by decide) (fun q2 => ?_) (fun q2 => ?_)
    · have g2 : ¬ P % D = D / 2 := fun w => q2 ((p_cmp0 _ _).mpr ((p_lEQ (by omega) (by omega)).mpr w))
      exact same (by rw [nr, if_pos (by omega)])
    · have g2 : P % D = D / 2 := (p_lEQ (by omega) (by omega)).mp ((p_cmp0 _ _).mp q2)
      refine lv_lload hx hb (show decode prog_9_method_29_code 150 = .ok (.lload 7, 2) by decide +kernel) (lv_at hl 2 rfl) ?_
      refine lv_lconst (v := 1) hx hb (show decode prog_9_method_29_code 152 = .ok (.lconst 1, 1) by decide +kernel) (by decide) ?_
      refine lv_land hx hb (show decode prog_9_method_29_code 153 = .ok (.land, 1) by decide +kernel) ?_
      rw [p_land1 (by omega)]
      refine lv_lconst (v := Int64.ofNat 1) hx hb (show decode prog_9_method_29_code 154 = .ok (.lconst 1, 1) by decide +kernel) (by decide) ?_
      refine W.lcmp hx hb (show decode prog_9_method_29_code 155 = .ok (.lcmp, 1) by decide +kernel) ?_
      refine lv_if_ne (tgt := 165) hx hb (show decode prog_9_method_29_code 156 = .ok (.ifCond .ne 9, 3) by decide +kernel) (by decide) (fun q3 => ?_) (fun q3 => ?_)
      · have g3 : ¬ P / D % 2 = 1 := fun w => q3 ((p_cmp0 _ _).mpr ((p_lEQ (by omega) (by omega)).mpr w))
        exact same (by rw [nr, if_neg (by omega), if_neg (by omega)]; omega)
      · have g3 : P / D % 2 = 1 := (p_lEQ (by omega) (by omega)).mp ((p_cmp0 _ _).mp q3)
        exact up (by rw [nr, if_neg (by omega), if_neg (by omega)]; omega)
theorem p_M_77 {v : Int} {x z : Int32} {E F : Nat} (hx : p.tables.exec = Jvm.exec) (hb : c.code = prog_9_method_29_code) (hown : s.vm.findClass "WheelStandsModel" = some m.cls) (hk81 : (Jvm.Cond.constant "WheelStandsModel" 81 (8388607)).before args s = true) (hk82 : (Jvm.Cond.constantLong "WheelStandsModel" 82 8388608).before args s = true) (hk84 : (Jvm.Cond.constantLong "WheelStandsModel" 84 1000).before args s = true) (hk86 : (Jvm.Cond.constantLong "WheelStandsModel" 86 16777216).before args s = true) (hE : 100 ≤ E ∧ E ≤ 127) (hF : F < 8388608) (hv : x_thou v = x_th2 E F) (fin : ∀ (w : Int32) (pc : Nat) (ls : Array Slot), decode prog_9_method_29_code pc = .ok (.ireturn, 1) → w = Int32.ofInt (x_thou v) → W p l e R s m args below meth c H locs cells slots Q (F0 m pc ls [.int w])) : ∀ (k d : Nat) (ls : Array Slot), d + k = 10 → lv_has ls 13 [(6, .int (Int32.ofNat d)), (4, .long (Int64.ofNat ((8388608 + F) * 1000))), (3, .int z), (2, .int (Int32.ofNat F)), (1, .int (Int32.ofNat E)), (0, .int x)] → (d = 10 → 8589934592 ≤ ((8388608 + F) * 1000)) → W p l e R s m args below meth c H locs cells slots Q (F0 m 77 ls []) := by
  intro k
  induction k with
  | zero =>
    intro d ls hd hl h10
    have hd : d = 10 := by omega
    subst hd
    have h10 := h10 rfl
    refine lv_lload hx hb (show decode prog_9_method_29_code 77 = .ok (.lload 4, 2) by decide +kernel) (lv_at hl 1 rfl) ?_
    refine lv_iload hx hb (show decode prog_9_method_29_code 79 = .ok (.iload 6, 2) by decide +kernel) (lv_at hl 0 rfl) ?_
    refine lv_lshr (v := Int64.ofNat (((8388608 + F) * 1000) / 1024)) hx hb (show decode prog_9_method_29_code 81 = .ok (.lshr, 1) by decide +kernel) (p_shr (by omega) (by omega)) ?_
    refine lv_ldc2 hx hb hown hk86 (show decode prog_9_method_29_code 82 = .ok (.ldc2_w 86, 3) by decide +kernel) ?_
    refine W.lcmp hx hb (show decode prog_9_method_29_code 85 = .ok (.lcmp, 1) by decide +kernel) ?_
    refine lv_if_lt (tgt := 95) hx hb (show decode prog_9_method_29_code 86 = .ok (.ifCond .lt 9, 3) by decide +kernel) (by decide) (fun _ => ?_) (fun q => absurd ((lg_cmp_lt _ _).mpr ((p_lLT (b := 16777216) (by omega) (by omega)).mpr (by omega))) q)
    exact p_M_95 hx hb hown hk81 hk82 hk84 hk86 hE hF (Or.inr ⟨rfl, h10⟩) hv fin ls hl
  | succ k ih =>
    intro d ls hd hl h10
    have hp : 2 ^ d ≤ 2 ^ 9 := Nat.pow_le_pow_right (by decide) (by omega)
    have hp : 2 ^ d ≤ 512 := hp
    have hpos : 0 < 2 ^ d := Nat.two_pow_pos d
    have hdl : ((8388608 + F) * 1000) / 2 ^ d ≤ ((8388608 + F) * 1000) := Nat.div_le_self _ _
    refine lv_lload hx hb (show decode prog_9_method_29_code 77 = .ok (.lload 4, 2) by decide +kernel) (lv_at hl 1 rfl) ?_
    refine lv_iload hx hb (show decode prog_9_method_29_code 79 = .ok (.iload 6, 2) by decide +kernel) (lv_at hl 0 rfl) ?_
    refine lv_lshr (v := Int64.ofNat (((8388608 + F) * 1000) / 2 ^ d)) hx hb (show decode prog_9_method_29_code 81 = .ok (.lshr, 1) by decide +kernel) (p_shr (by omega) (by omega)) ?_
    refine lv_ldc2 hx hb hown hk86 (show decode prog_9_method_29_code 82 = .ok (.ldc2_w 86, 3) by decide +kernel) ?_
    refine W.lcmp hx hb (show decode prog_9_method_29_code 85 = .ok (.lcmp, 1) by decide +kernel) ?_
    refine lv_if_lt (tgt := 95) hx hb (show decode prog_9_method_29_code 86 = .ok (.ifCond .lt 9, 3) by decide +kernel) (by decide) (fun q => ?_) (fun q => ?_)
    · have g : ((8388608 + F) * 1000) / 2 ^ d < 16777216 := (p_lLT (b := 16777216) (by omega) (by omega)).mp ((lg_cmp_lt _ _).mp q)
      have hd9 : d = 9 := by
        apply Classical.byContradiction
        intro hne
        have h8 : 2 ^ d ≤ 2 ^ 8 := Nat.pow_le_pow_right (by decide) (by omega)
        have h8 : 2 ^ d ≤ 256 := h8
        have := Nat.div_le_div_left h8 hpos (a := ((8388608 + F) * 1000))
        omega
      subst hd9
      have g : ((8388608 + F) * 1000) / 512 < 16777216 := g
      exact p_M_95 hx hb hown hk81 hk82 hk84 hk86 hE hF (Or.inl ⟨rfl, by omega⟩) hv fin ls hl
    · have g : ¬ ((8388608 + F) * 1000) / 2 ^ d < 16777216 := fun w => q ((lg_cmp_lt _ _).mpr ((p_lLT (b := 16777216) (by omega) (by omega)).mpr w))
      refine lv_iinc (k := 0) (v := Int32.ofNat (d + 1)) hx hb (show decode prog_9_method_29_code 89 = .ok (.iinc 6 1, 3) by decide +kernel) hl rfl ?_ (by decide) (lv' := [(6, .int (Int32.ofNat (d + 1))), (4, .long (Int64.ofNat ((8388608 + F) * 1000))), (3, .int z), (2, .int (Int32.ofNat F)), (1, .int (Int32.ofNat E)), (0, .int x)]) rfl (fun ls hl => ?_)
      · rw [← Int32.toInt_inj, Int32.toInt_add, p_nn (by omega), p_nn (by omega), show (Int32.ofInt 1).toInt = 1 by decide, Int.bmod_eq_of_le (by omega) (by omega)]
        omega
      refine lv_goto (tgt := 77) hx hb (show decode prog_9_method_29_code 92 = .ok (.goto (-15), 3) by decide +kernel) (by decide) ?_
      refine ih (d + 1) ls (by omega) hl (fun h => ?_)
      have hd9 : d = 9 := by omega
      subst hd9
      have g : ¬ ((8388608 + F) * 1000) / 512 < 16777216 := g
      omega
theorem p_M_54 {v : Int} {x z : Int32} {E F : Nat} (hx : p.tables.exec = Jvm.exec) (hb : c.code = prog_9_method_29_code) (hown : s.vm.findClass "WheelStandsModel" = some m.cls) (hk81 : (Jvm.Cond.constant "WheelStandsModel" 81 (8388607)).before args s = true) (hk82 : (Jvm.Cond.constantLong "WheelStandsModel" 82 8388608).before args s = true) (hk84 : (Jvm.Cond.constantLong "WheelStandsModel" 84 1000).before args s = true) (hk86 : (Jvm.Cond.constantLong "WheelStandsModel" 86 16777216).before args s = true) (hv : x_thou v = if E < 100 then 0 else x_th2 E F) (hE : E ≤ 127) (hF : F < 8388608) (fin : ∀ (w : Int32) (pc : Nat) (ls : Array Slot), decode prog_9_method_29_code pc = .ok (.ireturn, 1) → w = Int32.ofInt (x_thou v) → W p l e R s m args below meth c H locs cells slots Q (F0 m pc ls [.int w])) (ls : Array Slot) (hl : lv_has ls 13 [(3, .int z), (2, .int (Int32.ofNat F)), (1, .int (Int32.ofNat E)), (0, .int x)]) : W p l e R s m args below meth c H locs cells slots Q (F0 m 54 ls []) := by
  refine lv_iload_n hx hb (show decode prog_9_method_29_code 54 = .ok (.iload_n 1, 1) by decide +kernel) rfl (lv_at hl 2 rfl) ?_
  refine lv_bipush hx hb (show decode prog_9_method_29_code 55 = .ok (.bipush 100, 2) by decide +kernel) (by decide : _ = Int32.ofNat 100) ?_
  refine lv_icmp_ge (tgt := 62) hx hb (show decode prog_9_method_29_code 57 = .ok (.if_icmp .ge 5, 3) by decide +kernel) (by decide) (fun q => ?_) (fun q => ?_)
  rotate_left
  · have g : ¬ 100 ≤ E := fun w => q ((p_le (by omega) (by omega)).mpr w)
    refine lv_iconst (v := 0) hx hb (show decode prog_9_method_29_code 60 = .ok (.iconst 0, 1) by decide +kernel) (by decide) ?_
    refine fin _ 61 ls (by decide +kernel) ?_
    rw [hv, if_pos (by omega)]; decide
  · have g : 100 ≤ E := (p_le (by omega) (by omega)).mp q
    rw [if_neg (by omega)] at hv
    refine lv_ldc2 hx hb hown hk82 (show decode prog_9_method_29_code 62 = .ok (.ldc2_w 82, 3) by decide +kernel) ?_
    refine lv_iload_n hx hb (show decode prog_9_method_29_code 65 = .ok (.iload_n 2, 1) by decide +kernel) rfl (lv_at hl 1 rfl) ?_
    refine lv_i2l (v := Int64.ofNat F) hx hb (show decode prog_9_method_29_code 66 = .ok (.i2l, 1) by decide +kernel) (p_i2l (by omega)) ?_
    refine lv_ladd hx hb (show decode prog_9_method_29_code 67 = .ok (.ladd, 1) by decide +kernel) ?_
    have e1 : (8388608 : Int64) + Int64.ofNat F = Int64.ofNat (8388608 + F) := p_ladd (a := 8388608) (by omega) (by omega)
    rw [e1]
    refine lv_ldc2 hx hb hown hk84 (show decode prog_9_method_29_code 68 = .ok (.ldc2_w 84, 3) by decide +kernel) ?_
    refine lv_lmul hx hb (show decode prog_9_method_29_code 71 = .ok (.lmul, 1) by decide +kernel) ?_
    have e2 : Int64.ofNat (8388608 + F) * (1000 : Int64) = Int64.ofNat ((8388608 + F) * 1000) := p_lmul (b := 1000) (by omega) (by omega) (by omega)
    rw [e2]
    refine lv_lstore hx hb (show decode prog_9_method_29_code 72 = .ok (.lstore 4, 2) by decide +kernel) hl (by decide) (lv' := [(4, .long (Int64.ofNat ((8388608 + F) * 1000))), (3, .int z), (2, .int (Int32.ofNat F)), (1, .int (Int32.ofNat E)), (0, .int x)]) rfl (fun ls hl => ?_)
    refine lv_iconst (v := Int32.ofNat 0) hx hb (show decode prog_9_method_29_code 74 = .ok (.iconst 0, 1) by decide +kernel) (by decide) ?_
    refine lv_istore hx hb (show decode prog_9_method_29_code 75 = .ok (.istore 6, 2) by decide +kernel) hl (by decide) (lv' := [(6, .int (Int32.ofNat 0)), (4, .long (Int64.ofNat ((8388608 + F) * 1000))), (3, .int z), (2, .int (Int32.ofNat F)), (1, .int (Int32.ofNat E)), (0, .int x)]) rfl (fun ls hl => ?_)
    exact p_M_77 hx hb hown hk81 hk82 hk84 hk86 ⟨g, hE⟩ hF hv fin 10 0 ls (by omega) hl (fun h => by omega)
theorem p_M_28 {v : Int} {E F : Nat} {z : Int32} (hin : x_in32 v) (hx : p.tables.exec = Jvm.exec) (hb : c.code = prog_9_method_29_code) (hown : s.vm.findClass "WheelStandsModel" = some m.cls) (hk81 : (Jvm.Cond.constant "WheelStandsModel" 81 (8388607)).before args s = true) (hk82 : (Jvm.Cond.constantLong "WheelStandsModel" 82 8388608).before args s = true) (hk84 : (Jvm.Cond.constantLong "WheelStandsModel" 84 1000).before args s = true) (hk86 : (Jvm.Cond.constantLong "WheelStandsModel" 86 16777216).before args s = true) (hEv : E = ((v / 8388608) % 256).toNat) (hFv : F = (v % 8388608).toNat) (hz : z = 0 ∧ ¬ (E = 0 ∧ F = 0) ∨ z = 1 ∧ E = 0 ∧ F = 0) (fin : ∀ (w : Int32) (pc : Nat) (ls : Array Slot), decode prog_9_method_29_code pc = .ok (.ireturn, 1) → w = Int32.ofInt (x_thou v) → W p l e R s m args below meth c H locs cells slots Q (F0 m pc ls [.int w])) (ls : Array Slot) (hl : lv_has ls 13 [(3, .int z), (2, .int (Int32.ofNat F)), (1, .int (Int32.ofNat E)), (0, .int (Int32.ofInt v))]) : W p l e R s m args below meth c H locs cells slots Q (F0 m 28 ls []) := by
  unfold x_in32 at hin
  have tv : (Int32.ofInt v).toInt = v := Int32.toInt_ofInt_of_le (by omega) (by omega)
  have none : x_thou v = -1 → ∀ ls, W p l e R s m args below meth c H locs cells slots Q (F0 m 52 ls []) := fun h ls => by
    refine lv_iconst (v := -1) hx hb (show decode prog_9_method_29_code 52 = .ok (.iconst (-1), 1) by decide +kernel) (by decide) ?_
    refine fin _ 53 ls (by decide +kernel) ?_
    rw [h]; decide
  refine lv_iload_n hx hb (show decode prog_9_method_29_code 28 = .ok (.iload_n 0, 1) by decide +kernel) rfl (lv_at hl 3 rfl) ?_
  refine lv_if_ge (tgt := 36) hx hb (show decode prog_9_method_29_code 29 = .ok (.ifCond .ge 7, 3) by decide +kernel) (by decide) (fun c1 => ?_) (fun c1 => ?_)
  rotate_left
  · have h1 : v < 0 := by
      have : ¬ (0 : Int32).toInt ≤ (Int32.ofInt v).toInt := fun q => c1 (Int32.le_iff_toInt_le.mpr q)
      rw [tv, show (0 : Int32).toInt = 0 by decide] at this
      omega
    refine lv_iload_n hx hb (show decode prog_9_method_29_code 32 = .ok (.iload_n 3, 1) by decide +kernel) rfl (lv_at hl 0 rfl) ?_
    refine lv_if_eq (tgt := 52) hx hb (show decode prog_9_method_29_code 33 = .ok (.ifCond .eq 19, 3) by decide +kernel) (by decide) (fun c2 => ?_) (fun c2 => ?_)
    · refine none ?_ ls
      rcases hz with ⟨_, h⟩ | ⟨h, _⟩
      · unfold x_thou
        rw [if_pos h1, if_neg (by omega)]
      · rw [h] at c2; exact absurd c2 (by decide)
    · have hz2 : E = 0 ∧ F = 0 := by
        rcases hz with ⟨h, _⟩ | ⟨_, h⟩
        · exact absurd h c2
        · exact h
      have hv0 : v = -2147483648 := by omega
      refine lv_iload_n hx hb (show decode prog_9_method_29_code 36 = .ok (.iload_n 1, 1) by decide +kernel) rfl (lv_at hl 2 rfl) ?_
      refine lv_bipush hx hb (show decode prog_9_method_29_code 37 = .ok (.bipush 127, 2) by decide +kernel) (by decide : _ = Int32.ofNat 127) ?_
      refine lv_icmp_gt (tgt := 52) hx hb (show decode prog_9_method_29_code 39 = .ok (.if_icmp .gt 13, 3) by decide +kernel) (by decide) (fun q => absurd ((p_lt (by omega) (by omega)).mp q) (by omega)) (fun _ => ?_)
      refine lv_iload_n hx hb (show decode prog_9_method_29_code 42 = .ok (.iload_n 1, 1) by decide +kernel) rfl (lv_at hl 2 rfl) ?_
      refine lv_bipush hx hb (show decode prog_9_method_29_code 43 = .ok (.bipush 127, 2) by decide +kernel) (by decide : _ = Int32.ofNat 127) ?_
      refine lv_icmp_ne (tgt := 54) hx hb (show decode prog_9_method_29_code 45 = .ok (.if_icmp .ne 9, 3) by decide +kernel) (by decide) (fun _ => ?_) (fun q => absurd ((p_eq (by omega) (by omega)).mp q) (by omega))
      refine p_M_54 (v := v) hx hb hown hk81 hk82 hk84 hk86 ?_ (by omega) (by omega) fin ls hl
      rw [if_pos (by omega), hv0]; decide
  · have h1 : 0 ≤ v := by
      have := Int32.le_iff_toInt_le.mp c1
      rw [tv, show (0 : Int32).toInt = 0 by decide] at this
      exact this
    refine lv_iload_n hx hb (show decode prog_9_method_29_code 36 = .ok (.iload_n 1, 1) by decide +kernel) rfl (lv_at hl 2 rfl) ?_
    refine lv_bipush hx hb (show decode prog_9_method_29_code 37 = .ok (.bipush 127, 2) by decide +kernel) (by decide : _ = Int32.ofNat 127) ?_
    refine lv_icmp_gt (tgt := 52) hx hb (show decode prog_9_method_29_code 39 = .ok (.if_icmp .gt 13, 3) by decide +kernel) (by decide) (fun q => ?_) (fun q => ?_)
    · have g : 127 < E := (p_lt (by omega) (by omega)).mp q
      refine none ?_ ls
      unfold x_thou
      rw [if_neg (by omega), if_pos (by omega)]
    · have g : ¬ 127 < E := fun w => q ((p_lt (by omega) (by omega)).mpr w)
      refine lv_iload_n hx hb (show decode prog_9_method_29_code 42 = .ok (.iload_n 1, 1) by decide +kernel) rfl (lv_at hl 2 rfl) ?_
      refine lv_bipush hx hb (show decode prog_9_method_29_code 43 = .ok (.bipush 127, 2) by decide +kernel) (by decide : _ = Int32.ofNat 127) ?_
      refine lv_icmp_ne (tgt := 54) hx hb (show decode prog_9_method_29_code 45 = .ok (.if_icmp .ne 9, 3) by decide +kernel) (by decide) (fun q2 => ?_) (fun q2 => ?_)
      · have g2 : ¬ E = 127 := fun w => q2 (by rw [w])
        refine p_M_54 (v := v) hx hb hown hk81 hk82 hk84 hk86 ?_ (by omega) (by omega) fin ls hl
        unfold x_thou
        rw [if_neg (by omega), if_neg (by omega)]
        by_cases q3 : E < 100
        · rw [if_pos q3, if_pos (by omega)]
        · rw [if_neg q3, if_neg (by omega), show v / 8388608 = (E : Int) by omega, show v % 8388608 = (F : Int) by omega]
      · have g2 : E = 127 := (p_eq (by omega) (by omega)).mp q2
        refine lv_iload_n hx hb (show decode prog_9_method_29_code 48 = .ok (.iload_n 2, 1) by decide +kernel) rfl (lv_at hl 1 rfl) ?_
        refine lv_if_eq (tgt := 54) hx hb (show decode prog_9_method_29_code 49 = .ok (.ifCond .eq 5, 3) by decide +kernel) (by decide) (fun q3 => ?_) (fun q3 => ?_)
        · have g3 : F = 0 := (p_eq (b := 0) (by omega) (by omega)).mp q3
          refine p_M_54 (v := v) hx hb hown hk81 hk82 hk84 hk86 ?_ (by omega) (by omega) fin ls hl
          unfold x_thou
          rw [if_neg (by omega), if_neg (by omega), if_neg (by omega), if_neg (by omega), show v / 8388608 = (E : Int) by omega, show v % 8388608 = (F : Int) by omega]
        · have g3 : ¬ F = 0 := fun w => q3 (by rw [w]; rfl)
          refine none ?_ ls
          unfold x_thou
          rw [if_neg (by omega), if_pos (by omega)]
theorem p_M {v : Int} (hin : x_in32 v) (hx : p.tables.exec = Jvm.exec) (hb : c.code = prog_9_method_29_code) (hown : s.vm.findClass "WheelStandsModel" = some m.cls) (hk81 : (Jvm.Cond.constant "WheelStandsModel" 81 (8388607)).before args s = true) (hk82 : (Jvm.Cond.constantLong "WheelStandsModel" 82 8388608).before args s = true) (hk84 : (Jvm.Cond.constantLong "WheelStandsModel" 84 1000).before args s = true) (hk86 : (Jvm.Cond.constantLong "WheelStandsModel" 86 16777216).before args s = true) (fin : ∀ (w : Int32) (pc : Nat) (ls : Array Slot), decode prog_9_method_29_code pc = .ok (.ireturn, 1) → w = Int32.ofInt (x_thou v) → W p l e R s m args below meth c H locs cells slots Q (F0 m pc ls [.int w])) {ls : Array Slot} (hl : lv_has ls 13 [(0, .int (Int32.ofInt v))]) : W p l e R s m args below meth c H locs cells slots Q (F0 m 0 ls []) := by
  have hin0 := hin
  unfold x_in32 at hin
  have tv : (Int32.ofInt v).toInt = v := Int32.toInt_ofInt_of_le (by omega) (by omega)
  obtain ⟨E, hE⟩ : ∃ E : Nat, E = ((v / 8388608) % 256).toNat := ⟨_, rfl⟩
  obtain ⟨F, hF⟩ : ∃ F : Nat, F = (v % 8388608).toNat := ⟨_, rfl⟩
  have e1 : (Int32.ofInt v >>> (23 : Int32)) &&& 255 = Int32.ofNat E := by
    have := p_msk (Int32.ofInt v >>> (23 : Int32)) 8 (by omega)
    rw [p_sar, tv] at this
    rw [hE]
    exact this
  have e2 : Int32.ofInt v &&& 8388607 = Int32.ofNat F := by
    have := p_msk (Int32.ofInt v) 23 (by omega)
    rw [tv] at this
    rw [hF]
    exact this
  refine lv_iload_n hx hb (show decode prog_9_method_29_code 0 = .ok (.iload_n 0, 1) by decide +kernel) rfl (lv_at hl 0 rfl) ?_
  refine lv_bipush hx hb (show decode prog_9_method_29_code 1 = .ok (.bipush 23, 2) by decide +kernel) (by decide : _ = (23 : Int32)) ?_
  refine lv_ishr hx hb (show decode prog_9_method_29_code 3 = .ok (.ishr, 1) by decide +kernel) ?_
  refine lv_sipush hx hb (show decode prog_9_method_29_code 4 = .ok (.sipush 255, 3) by decide +kernel) (by decide : _ = (255 : Int32)) ?_
  refine lv_iand hx hb (show decode prog_9_method_29_code 7 = .ok (.iand, 1) by decide +kernel) ?_
  rw [show (23 : Int32) &&& 31 = 23 by decide, e1]
  refine lv_istore_n hx hb (show decode prog_9_method_29_code 8 = .ok (.istore_n 1, 1) by decide +kernel) rfl hl (by decide) (lv' := [(1, .int (Int32.ofNat E)), (0, .int (Int32.ofInt v))]) rfl (fun ls hl => ?_)
  refine lv_iload_n hx hb (show decode prog_9_method_29_code 9 = .ok (.iload_n 0, 1) by decide +kernel) rfl (lv_at hl 1 rfl) ?_
  refine lv_ldc hx hb hown hk81 (show decode prog_9_method_29_code 10 = .ok (.ldc 81, 2) by decide +kernel) ?_
  refine lv_iand hx hb (show decode prog_9_method_29_code 12 = .ok (.iand, 1) by decide +kernel) ?_
  rw [e2]
  refine lv_istore_n hx hb (show decode prog_9_method_29_code 13 = .ok (.istore_n 2, 1) by decide +kernel) rfl hl (by decide) (lv' := [(2, .int (Int32.ofNat F)), (1, .int (Int32.ofNat E)), (0, .int (Int32.ofInt v))]) rfl (fun ls hl => ?_)
  refine lv_iload_n hx hb (show decode prog_9_method_29_code 14 = .ok (.iload_n 1, 1) by decide +kernel) rfl (lv_at hl 1 rfl) ?_
  have z0 : ¬ (E = 0 ∧ F = 0) → ∀ ls, lv_has ls 13 [(2, .int (Int32.ofNat F)), (1, .int (Int32.ofNat E)), (0, .int (Int32.ofInt v))] → W p l e R s m args below meth c H locs cells slots Q (F0 m 26 ls []) := fun h ls hl => by
    refine lv_iconst (v := 0) hx hb (show decode prog_9_method_29_code 26 = .ok (.iconst 0, 1) by decide +kernel) (by decide) ?_
    refine lv_istore_n hx hb (show decode prog_9_method_29_code 27 = .ok (.istore_n 3, 1) by decide +kernel) rfl hl (by decide) (lv' := [(3, .int 0), (2, .int (Int32.ofNat F)), (1, .int (Int32.ofNat E)), (0, .int (Int32.ofInt v))]) rfl (fun ls hl => ?_)
    exact p_M_28 hin0 hx hb hown hk81 hk82 hk84 hk86 hE hF (Or.inl ⟨rfl, h⟩) fin ls hl
  refine lv_if_ne (tgt := 26) hx hb (show decode prog_9_method_29_code 15 = .ok (.ifCond .ne 11, 3) by decide +kernel) (by decide) (fun q => z0 (fun w => q (by rw [w.1]; rfl)) ls hl) (fun q => ?_)
  have g1 : E = 0 := (p_eq (b := 0) (by omega) (by omega)).mp q
  refine lv_iload_n hx hb (show decode prog_9_method_29_code 18 = .ok (.iload_n 2, 1) by decide +kernel) rfl (lv_at hl 0 rfl) ?_
  refine lv_if_ne (tgt := 26) hx hb (show decode prog_9_method_29_code 19 = .ok (.ifCond .ne 7, 3) by decide +kernel) (by decide) (fun q => z0 (fun w => q (by rw [w.2]; rfl)) ls hl) (fun q => ?_)
  have g2 : F = 0 := (p_eq (b := 0) (by omega) (by omega)).mp q
  refine lv_iconst (v := 1) hx hb (show decode prog_9_method_29_code 22 = .ok (.iconst 1, 1) by decide +kernel) (by decide) ?_
  refine lv_goto (tgt := 27) hx hb (show decode prog_9_method_29_code 23 = .ok (.goto 4, 3) by decide +kernel) (by decide) ?_
  refine lv_istore_n hx hb (show decode prog_9_method_29_code 27 = .ok (.istore_n 3, 1) by decide +kernel) rfl hl (by decide) (lv' := [(3, .int 1), (2, .int (Int32.ofNat F)), (1, .int (Int32.ofNat E)), (0, .int (Int32.ofInt v))]) rfl (fun ls hl => ?_)
  exact p_M_28 hin0 hx hb hown hk81 hk82 hk84 hk86 hE hF (Or.inr ⟨rfl, g1, g2⟩) fin ls hl
end
