/-! THE FLOATS OF THE CLASS -/
section
theorem fp_dec {n E F : Nat} (hn : n = E * 8388608 + F) (hE : 1 ≤ E ∧ E ≤ 254) (hF : F < 8388608) : FP.Core.decode FP.Core.b32 n = .fin false (8388608 + F) ((E : Int) - 150) := by
  have t : FP.Core.b32.tails = 8388608 := by decide
  have x : FP.Core.b32.exps = 256 := by decide
  have q : FP.Core.b32.qmin = -149 := by decide
  have e1 : n / 8388608 = E := by omega
  unfold FP.Core.decode FP.Core.fieldE FP.Core.fieldT FP.Core.fieldS
  rw [t, x, q, e1, if_neg (by omega), if_neg (by omega)]
  have e2 : (E / 256 % 2 == 1) = false := by rw [show E / 256 = 0 by omega]; rfl
  rw [e2, show n % 8388608 = F by omega, show E % 256 = E by omega]
  congr 1
  omega
theorem fp_enc {c : Nat} {q : Int} (hc : 8388608 ≤ c ∧ c < 16777216) (hq : -149 ≤ q) : FP.Core.encode FP.Core.b32 (.fin false c q) = ((q + 149).toNat + 1) * 8388608 + (c - 8388608) := by
  have t : FP.Core.b32.tails = 8388608 := by decide
  have x : FP.Core.b32.exps = 256 := by decide
  have qm : FP.Core.b32.qmin = -149 := by decide
  unfold FP.Core.encode FP.Core.assemble
  dsimp only
  rw [t, x, qm, if_neg (by omega), show q - -149 = q + 149 by omega]
  simp
/-- rounding: a magnitude of k + 1 digits, k from 23 on -/
theorem fp_rnd {c k : Nat} {q : Int} (hk : 2 ^ k ≤ c ∧ c < 2 ^ (k + 1)) (h23 : 23 ≤ k) (hq : -149 ≤ (k : Int) + q - 23 ∧ (k : Int) + q - 23 ≤ 104) (hr : FP.Core.nearest c (2 ^ (k - 23)) < 16777216) : FP.Core.round FP.Core.b32 (.fin false c q) = .fin false (FP.Core.nearest c (2 ^ (k - 23))) ((k : Int) + q - 23) := by
  have p24 : FP.Core.b32.p = 24 := rfl
  have qm : FP.Core.b32.qmin = -149 := by decide
  have qx : FP.Core.b32.qmax = 104 := by decide
  have c0 : ¬ c = 0 := by
    have := Nat.two_pow_pos k
    omega
  have lg : c.log2 = k := (Nat.log2_eq_iff c0).mpr hk
  unfold FP.Core.round FP.Core.roundRatio
  dsimp only
  rw [if_neg c0]
  have ld : FP.Core.leading c 1 = k := by
    unfold FP.Core.leading
    rw [lg, show Nat.log2 1 = 0 by decide]
    dsimp only
    rw [show ((k : Int) - ((0 : Nat) : Int)) = k by omega, show (-(k : Int)).toNat = 0 by omega, show (k : Int).toNat = k by omega, if_pos (by omega)]
  have qt : FP.Core.quantum FP.Core.b32 c 1 q = (k : Int) + q - 23 := by
    unfold FP.Core.quantum
    rw [ld, qm, p24]
    omega
  rw [qt]
  unfold FP.Core.roundAt FP.Core.unitsNum FP.Core.unitsDen
  rw [show (q - ((k : Int) + q - 23)).toNat = 0 by omega, show ((k : Int) + q - 23 - q).toNat = k - 23 by omega, Nat.pow_zero, Nat.mul_one, Nat.one_mul]
  unfold FP.Core.settle FP.Core.bound
  rw [p24, qx, if_pos (by omega), if_pos (by omega)]
theorem fp_nr {c : Nat} : FP.Core.nearest (c * 8388608) 8388608 = c := by
  unfold FP.Core.nearest
  rw [if_pos (by omega)]
  omega
theorem fp_u {n : Nat} (h : n < 4294967296) : (UInt32.ofNat n).toNat = n := by
  rw [UInt32.toNat_ofNat']
  exact Nat.mod_eq_of_lt h
/-- an int of 24 digits -/
theorem fp_i2f {m : Nat} (hm : 8388608 ≤ m ∧ m < 16777216) : FP.Core.i2f (Int32.ofNat m) = UInt32.ofNat (150 * 8388608 + (m - 8388608)) := by
  unfold FP.Core.i2f FP.Core.fromInt FP.Core.ofInt
  have e : (Int32.ofNat m).toInt = m := Int32.toInt_ofNat_of_lt (by omega)
  rw [e, show decide ((m : Int) < 0) = false from decide_eq_false (by omega), show (m : Int).natAbs = m by omega]
  have n1 : FP.Core.nearest m (2 ^ (23 - 23)) = m := by
    unfold FP.Core.nearest
    rw [if_pos (by omega)]
    omega
  rw [fp_rnd (k := 23) ⟨by omega, by omega⟩ (by omega) (by omega) (by rw [n1]; omega), n1, fp_enc hm (by omega)]
  rfl
/-- halved -/
theorem fp_half {E F : Nat} (hE : 2 ≤ E ∧ E ≤ 254) (hF : F < 8388608) : FP.Core.fmul (UInt32.ofNat (E * 8388608 + F)) 1056964608 = UInt32.ofNat ((E - 1) * 8388608 + F) := by
  unfold FP.Core.fmul FP.Core.mul
  rw [fp_u (by omega), fp_dec rfl ⟨by omega, by omega⟩ hF, fp_dec (n := (1056964608 : UInt32).toNat) (E := 126) (F := 0) rfl (by omega) (by omega)]
  unfold FP.Core.exactProduct
  dsimp only
  have e : (8388608 + F) * (8388608 + 0) = (8388608 + F) * 8388608 := by omega
  rw [e, show (false != false) = false from rfl, fp_rnd (k := 46) ⟨by omega, by omega⟩ (by omega) (by omega) (by show FP.Core.nearest _ 8388608 < _; rw [fp_nr]; omega)]
  rw [show FP.Core.nearest ((8388608 + F) * 8388608) (2 ^ (46 - 23)) = 8388608 + F from fp_nr, fp_enc ⟨by omega, by omega⟩ (by omega)]
  rw [show (((46 : Nat) : Int) + ((E : Int) - 150 + (((126 : Nat) : Int) - 150)) - 23 + 149).toNat + 1 = E - 1 by omega, show 8388608 + F - 8388608 = F by omega]
theorem fp_sc {a b : Nat} : FP.Core.nearest (a * 16384) (b * 16384) = FP.Core.nearest a b := by
  unfold FP.Core.nearest
  rw [Nat.mul_mod_mul_right, Nat.mul_div_mul_right _ _ (by omega)]
  generalize a % b = r
  by_cases q1 : 2 * r < b
  · rw [if_pos q1, if_pos (by omega)]
  · rw [if_neg q1, if_neg (by omega)]
    by_cases q2 : b < 2 * r
    · rw [if_pos q2, if_pos (by omega)]
    · rw [if_neg q2, if_neg (by omega)]
theorem fp_K {F D : Nat} (hF : F < 8388608) (hD : D = 512 ∧ (8388608 + F) * 1000 < 8589934592 ∨ D = 1024 ∧ 8589934592 ≤ (8388608 + F) * 1000) : 8388608 ≤ FP.Core.nearest ((8388608 + F) * 1000) D ∧ FP.Core.nearest ((8388608 + F) * 1000) D < 16777216 := by
  unfold FP.Core.nearest
  rcases hD with ⟨rfl, h⟩ | ⟨rfl, h⟩
  · by_cases q1 : 2 * ((8388608 + F) * 1000 % 512) < 512
    · rw [if_pos q1]; omega
    · rw [if_neg q1]
      by_cases q2 : 512 < 2 * ((8388608 + F) * 1000 % 512)
      · rw [if_pos q2]; omega
      · rw [if_neg q2]; omega
  · by_cases q1 : 2 * ((8388608 + F) * 1000 % 1024) < 1024
    · rw [if_pos q1]; omega
    · rw [if_neg q1]
      by_cases q2 : 1024 < 2 * ((8388608 + F) * 1000 % 1024)
      · rw [if_pos q2]; omega
      · rw [if_neg q2]; omega
theorem fp_cut {K n : Nat} (hK : 8388608 ≤ K ∧ K < 16777216) (hn : 1 ≤ n ∧ n ≤ 100) : FP.Core.f2i (UInt32.ofNat ((150 - n) * 8388608 + (K - 8388608))) = Int32.ofInt ((K / 2 ^ n : Nat) : Int) := by
  unfold FP.Core.f2i FP.Core.toI
  rw [fp_u (by omega), fp_dec (E := 150 - n) (F := K - 8388608) rfl (by omega) (by omega)]
  unfold FP.Core.toInt FP.Core.truncate FP.Core.signed
  dsimp only
  rw [show (((150 - n : Nat) : Int) - 150).toNat = 0 by omega, show (-(((150 - n : Nat) : Int) - 150)).toNat = n by omega, show 8388608 + (K - 8388608) = K by omega, Nat.pow_zero, Nat.mul_one]
  have hd : K / 2 ^ n ≤ K := Nat.div_le_self _ _
  congr 1
  generalize K / 2 ^ n = d at hd
  show max (-2 ^ 31) (min (2 ^ 31 - 1) (d : Int)) = d
  omega
theorem fp_k {P D : Nat} (hD : D = 512 ∨ D = 1024) : (if (D : Int) < 2 * ((P : Int) % (D : Int)) ∨ (2 * ((P : Int) % (D : Int)) = (D : Int) ∧ (P : Int) / (D : Int) % 2 = 1) then (P : Int) / (D : Int) + 1 else (P : Int) / (D : Int)) = ((FP.Core.nearest P D : Nat) : Int) := by
  have e1 : (P : Int) % (D : Int) = ((P % D : Nat) : Int) := by omega
  have e2 : (P : Int) / (D : Int) = ((P / D : Nat) : Int) := by omega
  rw [e1, e2]
  unfold FP.Core.nearest
  generalize P % D = r
  generalize P / D = d
  by_cases q1 : 2 * r < D
  · rw [if_pos q1, if_neg (by omega)]
  · rw [if_neg q1]
    by_cases q2 : D < 2 * r
    · rw [if_pos q2, if_pos (by omega)]; omega
    · rw [if_neg q2]
      by_cases q3 : d % 2 = 1
      · rw [if_pos (by omega)]; omega
      · rw [if_neg (by omega)]; omega
theorem fp_th {E F D b : Nat} (hE : 100 ≤ E ∧ E ≤ 127) (hF : F < 8388608) (hD : D = 512 ∧ b = 9 ∧ (8388608 + F) * 1000 < 8589934592 ∨ D = 1024 ∧ b = 10 ∧ 8589934592 ≤ (8388608 + F) * 1000) : x_th2 E F = ((FP.Core.nearest ((8388608 + F) * 1000) D / 2 ^ (150 - b - E) : Nat) : Int) := by
  have hP : (8388608 + (F : Int)) * 1000 = (((8388608 + F) * 1000 : Nat) : Int) := by omega
  unfold x_th2
  rw [hP]
  revert hD
  generalize (8388608 + F) * 1000 = P
  intro hD
  have hc : (if (P : Int) < 8589934592 then (512 : Int) else 1024) = (D : Int) := by
    rcases hD with ⟨rfl, rfl, h⟩ | ⟨rfl, rfl, h⟩
    · rw [if_pos (by omega)]; rfl
    · rw [if_neg (by omega)]; rfl
  rw [hc, fp_k (by omega)]
  generalize FP.Core.nearest P D = K
  have hp : D = 2 ^ b := by
    rcases hD with ⟨rfl, rfl, h⟩ | ⟨rfl, rfl, h⟩ <;> rfl
  have hb : b ≤ 10 := by omega
  have e1 : (150 - (E : Int)).toNat = (150 - b - E) + b := by omega
  rw [e1, hp]
  have e2 : (2 : Int) ^ (150 - b - E + b) = ((2 ^ (150 - b - E + b) : Nat) : Int) := by rw [Int.natCast_pow]; rfl
  rw [e2, ← Int.natCast_mul, ← Int.natCast_ediv, Nat.pow_add, Nat.mul_div_mul_right _ _ (Nat.two_pow_pos b)]
/-- a thousandfold, cut -/
theorem fp_thou {E F : Nat} (hE : 100 ≤ E ∧ E ≤ 127) (hF : F < 8388608) : FP.Core.f2i (FP.Core.fmul (UInt32.ofNat (E * 8388608 + F)) 1148846080) = Int32.ofInt (x_th2 E F) ∧ ∃ G H : Nat, G ≤ 254 ∧ H < 8388608 ∧ FP.Core.fmul (UInt32.ofNat (E * 8388608 + F)) 1148846080 = UInt32.ofNat (G * 8388608 + H) := by
  have mk : ∀ D b : Nat, D = 512 ∧ b = 9 ∧ (8388608 + F) * 1000 < 8589934592 ∨ D = 1024 ∧ b = 10 ∧ 8589934592 ≤ (8388608 + F) * 1000 → FP.Core.f2i (FP.Core.fmul (UInt32.ofNat (E * 8388608 + F)) 1148846080) = Int32.ofInt (x_th2 E F) ∧ ∃ G H : Nat, G ≤ 254 ∧ H < 8388608 ∧ FP.Core.fmul (UInt32.ofNat (E * 8388608 + F)) 1148846080 = UInt32.ofNat (G * 8388608 + H) := by
    intro D b hD
    rw [fp_th hE hF hD]
    have hK := fp_K (D := D) hF (by omega)
    unfold FP.Core.fmul FP.Core.mul
    rw [fp_u (by omega), fp_dec rfl ⟨by omega, by omega⟩ hF, fp_dec (n := (1148846080 : UInt32).toNat) (E := 136) (F := 7995392) rfl (by omega) (by omega)]
    unfold FP.Core.exactProduct
    dsimp only
    have e : (8388608 + F) * (8388608 + 7995392) = (8388608 + F) * 1000 * 16384 := by omega
    have p23 : 2 ^ (37 + b - 23) = D * 16384 := by
      rcases hD with ⟨rfl, rfl, h⟩ | ⟨rfl, rfl, h⟩ <;> rfl
    have hb : b = 9 ∨ b = 10 := by omega
    have e37 : 2 ^ (37 + b) ≤ (8388608 + F) * 1000 * 16384 ∧ (8388608 + F) * 1000 * 16384 < 2 ^ (37 + b + 1) := by
      rcases hD with ⟨rfl, rfl, h⟩ | ⟨rfl, rfl, h⟩
      · show 70368744177664 ≤ _ ∧ _ < 140737488355328; omega
      · show 140737488355328 ≤ _ ∧ _ < 281474976710656; omega
    rw [e, show (false != false) = false from rfl, fp_rnd (k := 37 + b) e37 (by omega) (by omega) (by rw [p23, fp_sc]; omega), p23, fp_sc, fp_enc hK (by omega)]
    rw [show (((37 + b : Nat) : Int) + ((E : Int) - 150 + (((136 : Nat) : Int) - 150)) - 23 + 149).toNat + 1 = 150 - (150 - b - E) by omega]
    exact ⟨fp_cut hK (by omega), _, _, by omega, by omega, rfl⟩
  by_cases h : (8388608 + F) * 1000 < 8589934592
  · exact mk 512 9 (Or.inl ⟨rfl, rfl, h⟩)
  · exact mk 1024 10 (Or.inr ⟨rfl, rfl, by omega⟩)
theorem fp_n32 {G H : Nat} (hG : G ≤ 254) (hH : H < 8388608) : vf_n32 (UInt32.ofNat (G * 8388608 + H)) := by
  unfold vf_n32
  show _ ≤ _
  rw [UInt32.le_iff_toNat_le, UInt32.toNat_and, fp_u (by omega)]
  refine Nat.le_trans Nat.and_le_left ?_
  show _ ≤ 2139095040
  omega
end
