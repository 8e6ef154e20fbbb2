/-! THE TWO METHODS OVER FLOATS AND LONGS -/
theorem pr0 : xmt.drop 0 = xmt0 ++ (xmt1 ++ (xmt2 ++ (xmt3 ++ (xmt4 ++ (xmt5 ++ (xmt6)))))) := rfl
theorem pr1 : xmt.drop 26 = xmt1 ++ (xmt2 ++ (xmt3 ++ (xmt4 ++ (xmt5 ++ (xmt6))))) := by
  have h : xmt.drop 26 = (xmt.drop 0).drop 26 := by rw [List.drop_drop]
  rw [h, pr0]
  exact List.drop_left' rfl
theorem pr2 : xmt.drop 52 = xmt2 ++ (xmt3 ++ (xmt4 ++ (xmt5 ++ (xmt6)))) := by
  have h : xmt.drop 52 = (xmt.drop 26).drop 26 := by rw [List.drop_drop]
  rw [h, pr1]
  exact List.drop_left' rfl
theorem pr3 : xmt.drop 78 = xmt3 ++ (xmt4 ++ (xmt5 ++ (xmt6))) := by
  have h : xmt.drop 78 = (xmt.drop 52).drop 26 := by rw [List.drop_drop]
  rw [h, pr2]
  exact List.drop_left' rfl
theorem pr4 : xmt.drop 104 = xmt4 ++ (xmt5 ++ (xmt6)) := by
  have h : xmt.drop 104 = (xmt.drop 78).drop 26 := by rw [List.drop_drop]
  rw [h, pr3]
  exact List.drop_left' rfl
theorem pr5 : xmt.drop 130 = xmt5 ++ (xmt6) := by
  have h : xmt.drop 130 = (xmt.drop 104).drop 26 := by rw [List.drop_drop]
  rw [h, pr4]
  exact List.drop_left' rfl
theorem pr6 : xmt.drop 156 = xmt6 := by
  have h : xmt.drop 156 = (xmt.drop 130).drop 26 := by rw [List.drop_drop]
  rw [h, pr5]
  exact List.drop_left' rfl
theorem pg {y n j : Nat} {l : List XM} (h : xmt.drop n = l) (hy : y = n + j) : x_mi y = (l.drop j).headD (⟨"", "", ""⟩, 0, 0, (0, 0, 0, 0), (0, 0, 0), (0, 0, 0, 0), []) := by
  subst hy
  subst h
  unfold x_mi
  rw [x_mdr, List.drop_drop]
theorem p_miC : x_mi 111 = (⟨"WheelStands", "thousandthsOf", "(I)I"⟩, 4, 1, (0, 0, 0, 0), (1, 1, 6), (427, 426, 0, 44), xc111) := pg (n := 104) (j := 7) pr4 rfl
theorem p_byC : x_by 111 = prog_1_method_35_code := by
  have h : (x_dr 427).head? = some (.code ⟨"WheelStands", "thousandthsOf", "(I)I"⟩ prog_1_method_35_code 4 (some .int)) := of_decide_eq_true (show x_wd 427 _ = true by decide +kernel)
  unfold x_by
  rw [p_miC]
  unfold x_bw
  dsimp only
  rw [if_neg (by decide), h]
theorem p_miM : x_mi 140 = (⟨"WheelStandsModel", "thousandths", "(I)I"⟩, 13, 1, (0, 0, 0, 0), (1, 1, 7), (901, 900, 0, 51), xc140) := pg (n := 130) (j := 10) pr5 rfl
theorem p_byM : x_by 140 = prog_9_method_29_code := by
  have h : (x_dr 901).head? = some (.code ⟨"WheelStandsModel", "thousandths", "(I)I"⟩ prog_9_method_29_code 13 (some .int)) := of_decide_eq_true (show x_wd 901 _ = true by decide +kernel)
  unfold x_by
  rw [p_miM]
  unfold x_bw
  dsimp only
  rw [if_neg (by decide), h]
theorem p_nn {n : Nat} (h : n < 2147483648) : (Int32.ofNat n).toInt = n := Int32.toInt_ofNat_of_lt h
theorem p_le {a b : Nat} (ha : a < 2147483648) (hb : b < 2147483648) : Int32.ofNat a ≤ Int32.ofNat b ↔ a ≤ b := by
  rw [Int32.le_iff_toInt_le, p_nn ha, p_nn hb]; omega
theorem p_lt {a b : Nat} (ha : a < 2147483648) (hb : b < 2147483648) : Int32.ofNat a < Int32.ofNat b ↔ a < b := by
  rw [Int32.lt_iff_toInt_lt, p_nn ha, p_nn hb]; omega
theorem p_eq {a b : Nat} (ha : a < 2147483648) (hb : b < 2147483648) : Int32.ofNat a = Int32.ofNat b ↔ a = b := by
  rw [← Int32.toInt_inj, p_nn ha, p_nn hb]; omega
theorem p_on {v : Int} (h : 0 ≤ v ∧ v < 2147483648) : Int32.ofInt v = Int32.ofNat v.toNat := by
  rw [← Int32.toInt_inj, p_nn (by omega), Int32.toInt_ofInt_of_le (by omega) (by omega)]
  omega
/-- the lowest digits -/
theorem p_msk (w : Int32) (k : Nat) (hk : k ≤ 30) : w &&& Int32.ofNat (2 ^ k - 1) = Int32.ofNat ((w.toInt % ((2 ^ k : Nat) : Int)).toNat) := by
  apply Int32.toBitVec_inj.mp
  apply BitVec.eq_of_toNat_eq
  have hp : 2 ^ k ≤ 2 ^ 30 := Nat.pow_le_pow_right (by decide) hk
  have hpos : 0 < 2 ^ k := Nat.two_pow_pos k
  have e1 : (Int32.ofNat (2 ^ k - 1)).toBitVec.toNat = 2 ^ k - 1 := by
    show (BitVec.ofNat 32 (2 ^ k - 1)).toNat = _
    rw [BitVec.toNat_ofNat]
    exact Nat.mod_eq_of_lt (by omega)
  rw [Int32.toBitVec_and, BitVec.toNat_and, e1, Nat.and_two_pow_sub_one_eq_mod]
  show _ = (BitVec.ofNat 32 _).toNat
  rw [BitVec.toNat_ofNat]
  have e2 : w.toInt % ((2 ^ k : Nat) : Int) = ((w.toBitVec.toNat % 2 ^ k : Nat) : Int) := by
    show w.toBitVec.toInt % _ = _
    rw [BitVec.toInt_eq_toNat_cond]
    split
    · rfl
    · have hd : ((2 ^ 32 : Nat) : Int) = ((2 ^ k : Nat) : Int) * ((2 ^ (32 - k) : Nat) : Int) := by
        rw [← Int.natCast_mul, ← Nat.pow_add, show k + (32 - k) = 32 by omega]
      rw [hd, Int.sub_mul_emod_self_left]
      rfl
  rw [e2]
  have hm : w.toBitVec.toNat % 2 ^ k < 2 ^ k := Nat.mod_lt _ hpos
  rw [Int.toNat_natCast]
  exact (Nat.mod_eq_of_lt (by omega)).symm
theorem p_sar (w : Int32) : (w >>> (23 : Int32)).toInt = w.toInt / 8388608 := by
  have e : (w >>> (23 : Int32)).toInt = w.toInt >>> 23 := by
    have h : ((23 : Int32).toBitVec.smod 32).toNat = 23 := by decide
    rw [← h]
    exact BitVec.toInt_sshiftRight ..
  rw [e, Int.shiftRight_eq_div_pow]
  rfl
theorem p_or {F : Nat} (h : F < 8388608) : Int32.ofNat F ||| 8388608 = Int32.ofNat (8388608 + F) := by
  have e : F ||| 8388608 = 8388608 + F := by
    have := Nat.two_pow_add_eq_or_of_lt (i := 23) (b := F) (by omega) 1
    rw [Nat.or_comm]
    exact this.symm
  apply Int32.toBitVec_inj.mp
  apply BitVec.eq_of_toNat_eq
  rw [Int32.toBitVec_or, BitVec.toNat_or]
  show (BitVec.ofNat 32 F).toNat ||| (BitVec.ofNat 32 8388608).toNat = (BitVec.ofNat 32 (8388608 + F)).toNat
  rw [BitVec.toNat_ofNat, BitVec.toNat_ofNat, BitVec.toNat_ofNat, Nat.mod_eq_of_lt (show F < 2 ^ 32 by omega), Nat.mod_eq_of_lt (show 8388608 < 2 ^ 32 by omega), Nat.mod_eq_of_lt (show 8388608 + F < 2 ^ 32 by omega), e]
/-! longs -/
theorem p_lT {n : Nat} (h : n < 2 ^ 63) : (Int64.ofNat n).toInt = n := Int64.toInt_ofNat_of_lt h
theorem p_lLT {a b : Nat} (ha : a < 2 ^ 63) (hb : b < 2 ^ 63) : Int64.ofNat a < Int64.ofNat b ↔ a < b := by
  rw [Int64.lt_iff_toInt_lt, p_lT ha, p_lT hb]; omega
theorem p_lEQ {a b : Nat} (ha : a < 2 ^ 63) (hb : b < 2 ^ 63) : Int64.ofNat a = Int64.ofNat b ↔ a = b := by
  rw [← Int64.toInt_inj, p_lT ha, p_lT hb]; omega
theorem p_c63 : ∀ k, k < 64 → ((Int32.ofNat k).toInt64 &&& 63) = Int64.ofNat k := by decide +kernel
theorem p_sm : ∀ k, k < 64 → ((BitVec.ofNat 64 k).smod 64).toNat = k := by decide +kernel
theorem p_shr {a k : Nat} (hk : k < 64) (h : a < 2 ^ 62) : Int64.ofNat a >>> ((Int32.ofNat k).toInt64 &&& 63) = Int64.ofNat (a / 2 ^ k) := by
  have hd : a / 2 ^ k ≤ a := Nat.div_le_self _ _
  rw [p_c63 k hk]
  apply Int64.toInt_inj.mp
  have e : (Int64.ofNat a >>> Int64.ofNat k).toInt = (Int64.ofNat a).toInt >>> k := by
    have q : ((Int64.ofNat k).toBitVec.smod 64).toNat = k := p_sm k hk
    conv => rhs; rw [← q]
    exact BitVec.toInt_sshiftRight ..
  rw [e, Int.shiftRight_eq_div_pow, p_lT (by omega), p_lT (by omega)]
  rfl
theorem p_sm2 : ∀ k, k < 64 → (BitVec.ofNat 64 k).smod 64 = BitVec.ofNat 64 k := by decide +kernel
theorem p_shl (n : Nat) {k : Nat} (hk : k < 64) : Int64.ofNat n <<< ((Int32.ofNat k).toInt64 &&& 63) = Int64.ofNat (n * 2 ^ k) := by
  rw [p_c63 k hk]
  apply Int64.toBitVec_inj.mp
  rw [Int64.toBitVec_shiftLeft]
  show BitVec.ofNat 64 n <<< ((BitVec.ofNat 64 k).smod 64) = BitVec.ofNat 64 (n * 2 ^ k)
  rw [p_sm2 k hk]
  apply BitVec.eq_of_toNat_eq
  rw [BitVec.shiftLeft_eq', BitVec.toNat_shiftLeft, BitVec.toNat_ofNat, BitVec.toNat_ofNat, BitVec.toNat_ofNat, Nat.mod_eq_of_lt (show k < 2 ^ 64 by omega), Nat.shiftLeft_eq, Nat.mul_mod, Nat.mod_mod, ← Nat.mul_mod]
theorem p_lsub {a b : Nat} (h : b ≤ a) (ha : a < 2 ^ 62) : Int64.ofNat a - Int64.ofNat b = Int64.ofNat (a - b) := by
  apply Int64.toInt_inj.mp
  rw [Int64.toInt_sub, p_lT (by omega), p_lT (by omega), p_lT (by omega), Int.bmod_eq_of_le (by omega) (by omega)]
  omega
theorem p_lmul {a b : Nat} (h : a * b < 2 ^ 62) (ha : a < 2 ^ 62) (hb : b < 2 ^ 62) : Int64.ofNat a * Int64.ofNat b = Int64.ofNat (a * b) := by
  apply Int64.toInt_inj.mp
  rw [Int64.toInt_mul, p_lT (by omega), p_lT (by omega), p_lT (by omega), ← Int.natCast_mul, Int.bmod_eq_of_le (by omega) (by omega)]
theorem p_ladd {a b : Nat} (ha : a < 2 ^ 61) (hb : b < 2 ^ 61) : Int64.ofNat a + Int64.ofNat b = Int64.ofNat (a + b) := by
  apply Int64.toInt_inj.mp
  rw [Int64.toInt_add, p_lT (by omega), p_lT (by omega), p_lT (by omega), Int.bmod_eq_of_le (by omega) (by omega)]
  omega
theorem p_i2l {n : Nat} (h : n < 2147483648) : (Int32.ofNat n).toInt64 = Int64.ofNat n := by
  apply Int64.toInt_inj.mp
  rw [Int32.toInt_toInt64, p_nn h, p_lT (by omega)]
theorem p_l2i {n : Nat} (h : n < 2147483648) : (Int64.ofNat n).toInt32 = Int32.ofNat n := by
  apply Int32.toInt_inj.mp
  rw [Int64.toInt_toInt32, p_nn h, p_lT (by omega), Int.bmod_eq_of_le (by omega) (by omega)]
theorem p_land1 {n : Nat} (h : n < 2 ^ 62) : Int64.ofNat n &&& 1 = Int64.ofNat (n % 2) := by
  apply Int64.toBitVec_inj.mp
  apply BitVec.eq_of_toNat_eq
  rw [Int64.toBitVec_and, BitVec.toNat_and]
  show (BitVec.ofNat 64 n).toNat &&& (2 ^ 1 - 1) = (BitVec.ofNat 64 (n % 2)).toNat
  rw [Nat.and_two_pow_sub_one_eq_mod, BitVec.toNat_ofNat, BitVec.toNat_ofNat]
  omega
