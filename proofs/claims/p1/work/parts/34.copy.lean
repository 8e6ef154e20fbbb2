/-! COPIES -/
theorem x_cp_at {f : Int → Int → Int} {a0 a n j : Int} (h : 0 ≤ j ∧ j < n) : x_cp f a0 0 a 0 n a j = f a0 j := by
  unfold x_cp
  rw [if_pos ⟨rfl, by omega, by omega⟩]
  congr 1
  omega
theorem x_cp_ne {f : Int → Int → Int} {a0 sp a dp n b j : Int} (h : b ≠ a) : x_cp f a0 sp a dp n b j = f b j := by
  unfold x_cp
  rw [if_neg (fun q => h q.1)]
def x_KD (a : Int) : Prop := x_kd a = 1 ∧ (x_kd (1 + a) = 8 ∧ x_ln (1 + a) = 24) ∧ x_kd (2 + a) = 8 ∧ x_ln (2 + a) = 24
def x_PD (P : Int → Int → Int) (a : Int) : Prop := P a 1 = 1 + a ∧ P a 2 = 2 + a
def x_KS (a : Int) : Prop := x_kd a = 2 ∧ (x_kd (1 + a) = 8 ∧ x_ln (1 + a) = 12) ∧ (x_kd (2 + a) = 8 ∧ x_ln (2 + a) = 12) ∧ (x_kd (3 + a) = 8 ∧ x_ln (3 + a) = 8) ∧ x_KD (4 + a)
def x_PS (P : Int → Int → Int) (a : Int) : Prop := (P a 2 = 1 + a ∧ P a 3 = 2 + a ∧ P a 4 = 3 + a ∧ P a 8 = 4 + a) ∧ x_PD P (4 + a)
theorem c_cpw {z a c : Int} {P M : Int → Int → Int} (ha : 0 ≤ a ∧ a < z ∧ x_kd a = 5) (hc : 0 ≤ c ∧ c < z ∧ x_kd c = 5) (hac : ¬ a = c) (hz : (M c 7 = 0 ∨ M c 7 = 1) ∧ (M c 8 = 0 ∨ M c 8 = 1)) : x_CallR 67 [.inr (a), .inr (c)] (z, P, M) (fun q => ∃ M1, q = (none, (z, P, M1)) ∧ (∀ b j, ¬ b = a → M1 b j = M b j) ∧ M1 a 0 = M a 0 ∧ ∀ j, 1 ≤ j ∧ j ≤ 9 → M1 a j = M c j) := by
  refine e_body (ls0 := [.inr (a), .inr (c)]) xm67 rfl ?_
  refine e_aload (k := 0) (xi67 0) rfl (by omega) ?_
  refine e_aload (k := 1) (xi67 1) rfl (by omega) ?_
  refine e_getI (j := 1) (w := M c 1) (k := 2) (xi67 2) ⟨by omega, by omega, hc.2.2⟩ rfl rfl ?_
  refine e_putI (j := 1) (k := 3) (xi67 3) ⟨by omega, by omega, ha.2.2⟩ rfl ?_
  refine e_aload (k := 4) (xi67 4) rfl (by omega) ?_
  refine e_aload (k := 5) (xi67 5) rfl (by omega) ?_
  refine e_getI (j := 2) (w := M c 2) (k := 6) (xi67 6) ⟨by omega, by omega, hc.2.2⟩ rfl (by rw [x_up_ne (by omega)]) ?_
  refine e_putI (j := 2) (k := 7) (xi67 7) ⟨by omega, by omega, ha.2.2⟩ rfl ?_
  refine e_aload (k := 8) (xi67 8) rfl (by omega) ?_
  refine e_aload (k := 9) (xi67 9) rfl (by omega) ?_
  refine e_getI (j := 3) (w := M c 3) (k := 10) (xi67 10) ⟨by omega, by omega, hc.2.2⟩ rfl (by rw [x_up_ne (by omega), x_up_ne (by omega)]) ?_
  refine e_putI (j := 3) (k := 11) (xi67 11) ⟨by omega, by omega, ha.2.2⟩ rfl ?_
  refine e_aload (k := 12) (xi67 12) rfl (by omega) ?_
  refine e_aload (k := 13) (xi67 13) rfl (by omega) ?_
  refine e_getI (j := 4) (w := M c 4) (k := 14) (xi67 14) ⟨by omega, by omega, hc.2.2⟩ rfl (by rw [x_up_ne (by omega), x_up_ne (by omega), x_up_ne (by omega)]) ?_
  refine e_putI (j := 4) (k := 15) (xi67 15) ⟨by omega, by omega, ha.2.2⟩ rfl ?_
  refine e_aload (k := 16) (xi67 16) rfl (by omega) ?_
  refine e_aload (k := 17) (xi67 17) rfl (by omega) ?_
  refine e_getI (j := 5) (w := M c 5) (k := 18) (xi67 18) ⟨by omega, by omega, hc.2.2⟩ rfl (by rw [x_up_ne (by omega), x_up_ne (by omega), x_up_ne (by omega), x_up_ne (by omega)]) ?_
  refine e_putI (j := 5) (k := 19) (xi67 19) ⟨by omega, by omega, ha.2.2⟩ rfl ?_
  refine e_aload (k := 20) (xi67 20) rfl (by omega) ?_
  refine e_aload (k := 21) (xi67 21) rfl (by omega) ?_
  refine e_getI (j := 6) (w := M c 6) (k := 22) (xi67 22) ⟨by omega, by omega, hc.2.2⟩ rfl (by rw [x_up_ne (by omega), x_up_ne (by omega), x_up_ne (by omega), x_up_ne (by omega), x_up_ne (by omega)]) ?_
  refine e_putI (j := 6) (k := 23) (xi67 23) ⟨by omega, by omega, ha.2.2⟩ rfl ?_
  refine e_aload (k := 24) (xi67 24) rfl (by omega) ?_
  refine e_aload (k := 25) (xi67 25) rfl (by omega) ?_
  refine e_getI (j := 7) (w := M c 7) (k := 26) (xi67 26) ⟨by omega, by omega, hc.2.2⟩ rfl (by rw [x_up_ne (by omega), x_up_ne (by omega), x_up_ne (by omega), x_up_ne (by omega), x_up_ne (by omega), x_up_ne (by omega)]) ?_
  refine e_putZ (j := 7) (k := 27) (xi67 27) ⟨by omega, by omega, ha.2.2⟩ rfl hz.1 ?_
  refine e_aload (k := 28) (xi67 28) rfl (by omega) ?_
  refine e_aload (k := 29) (xi67 29) rfl (by omega) ?_
  refine e_getI (j := 8) (w := M c 8) (k := 30) (xi67 30) ⟨by omega, by omega, hc.2.2⟩ rfl (by rw [x_up_ne (by omega), x_up_ne (by omega), x_up_ne (by omega), x_up_ne (by omega), x_up_ne (by omega), x_up_ne (by omega), x_up_ne (by omega)]) ?_
  refine e_putZ (j := 8) (k := 31) (xi67 31) ⟨by omega, by omega, ha.2.2⟩ rfl hz.2 ?_
  refine e_aload (k := 32) (xi67 32) rfl (by omega) ?_
  refine e_aload (k := 33) (xi67 33) rfl (by omega) ?_
  refine e_getI (j := 9) (w := M c 9) (k := 34) (xi67 34) ⟨by omega, by omega, hc.2.2⟩ rfl (by rw [x_up_ne (by omega), x_up_ne (by omega), x_up_ne (by omega), x_up_ne (by omega), x_up_ne (by omega), x_up_ne (by omega), x_up_ne (by omega), x_up_ne (by omega)]) ?_
  refine e_putI (j := 9) (k := 35) (xi67 35) ⟨by omega, by omega, ha.2.2⟩ rfl ?_
  refine e_vret (k := 36) (xi67 36) ?_
  refine ⟨(x_up (x_up (x_up (x_up (x_up (x_up (x_up (x_up (x_up M a 1 (M c 1)) a 2 (M c 2)) a 3 (M c 3)) a 4 (M c 4)) a 5 (M c 5)) a 6 (M c 6)) a 7 (M c 7)) a 8 (M c 8)) a 9 (M c 9)), rfl, ?_, ?_, ?_⟩
  · intro b j h
    rw [x_up_ne (by omega), x_up_ne (by omega), x_up_ne (by omega), x_up_ne (by omega), x_up_ne (by omega), x_up_ne (by omega), x_up_ne (by omega), x_up_ne (by omega), x_up_ne (by omega)]
  · rw [x_up_nk (by omega), x_up_nk (by omega), x_up_nk (by omega), x_up_nk (by omega), x_up_nk (by omega), x_up_nk (by omega), x_up_nk (by omega), x_up_nk (by omega), x_up_nk (by omega)]
  · intro j hj
    have hjs : j = 1 ∨ j = 2 ∨ j = 3 ∨ j = 4 ∨ j = 5 ∨ j = 6 ∨ j = 7 ∨ j = 8 ∨ j = 9 := by omega
    rcases hjs with rfl | rfl | rfl | rfl | rfl | rfl | rfl | rfl | rfl
    · rw [x_up_nk (by omega), x_up_nk (by omega), x_up_nk (by omega), x_up_nk (by omega), x_up_nk (by omega), x_up_nk (by omega), x_up_nk (by omega), x_up_nk (by omega), x_up_self]
    · rw [x_up_nk (by omega), x_up_nk (by omega), x_up_nk (by omega), x_up_nk (by omega), x_up_nk (by omega), x_up_nk (by omega), x_up_nk (by omega), x_up_self]
    · rw [x_up_nk (by omega), x_up_nk (by omega), x_up_nk (by omega), x_up_nk (by omega), x_up_nk (by omega), x_up_nk (by omega), x_up_self]
    · rw [x_up_nk (by omega), x_up_nk (by omega), x_up_nk (by omega), x_up_nk (by omega), x_up_nk (by omega), x_up_self]
    · rw [x_up_nk (by omega), x_up_nk (by omega), x_up_nk (by omega), x_up_nk (by omega), x_up_self]
    · rw [x_up_nk (by omega), x_up_nk (by omega), x_up_nk (by omega), x_up_self]
    · rw [x_up_nk (by omega), x_up_nk (by omega), x_up_self]
    · rw [x_up_nk (by omega), x_up_self]
    · rw [x_up_self]
theorem c_cpc {z a c : Int} {P M : Int → Int → Int} (ha : 0 ≤ a ∧ 1 + a < z ∧ x_kd a = 0 ∧ x_kd (1 + a) = 8 ∧ x_ln (1 + a) = 8) (hc : 0 ≤ c ∧ 1 + c < z ∧ x_kd c = 0 ∧ x_kd (1 + c) = 8 ∧ x_ln (1 + c) = 8) (hp : P a 5 = 1 + a ∧ P c 5 = 1 + c) (hac : a + 2 ≤ c ∨ c + 2 ≤ a) : x_CallR 2 [.inr (a), .inr (c)] (z, P, M) (fun q => ∃ M1, q = (none, (z, P, M1)) ∧ (∀ b j, (b < a ∨ a + 1 < b) → M1 b j = M b j) ∧ M1 a 0 = M a 0 ∧ M1 a 1 = M c 1 ∧ M1 a 2 = M c 2 ∧ M1 a 3 = M c 3 ∧ M1 a 4 = M c 4 ∧ M1 a 6 = M c 6 ∧ ∀ j, 0 ≤ j ∧ j < 8 → M1 (1 + a) j = M (1 + c) j) := by
  refine e_body (ls0 := [.inr (a), .inr (c)]) xm2 rfl ?_
  refine e_aload (k := 0) (xi2 0) rfl (by omega) ?_
  refine e_aload (k := 1) (xi2 1) rfl (by omega) ?_
  refine e_getI (j := 1) (w := M c 1) (k := 2) (xi2 2) ⟨by omega, by omega, hc.2.2.1⟩ rfl rfl ?_
  refine e_putI (j := 1) (k := 3) (xi2 3) ⟨by omega, by omega, ha.2.2.1⟩ rfl ?_
  refine e_aload (k := 4) (xi2 4) rfl (by omega) ?_
  refine e_aload (k := 5) (xi2 5) rfl (by omega) ?_
  refine e_getI (j := 2) (w := M c 2) (k := 6) (xi2 6) ⟨by omega, by omega, hc.2.2.1⟩ rfl (by rw [x_up_ne (by omega)]) ?_
  refine e_putI (j := 2) (k := 7) (xi2 7) ⟨by omega, by omega, ha.2.2.1⟩ rfl ?_
  refine e_aload (k := 8) (xi2 8) rfl (by omega) ?_
  refine e_aload (k := 9) (xi2 9) rfl (by omega) ?_
  refine e_getI (j := 3) (w := M c 3) (k := 10) (xi2 10) ⟨by omega, by omega, hc.2.2.1⟩ rfl (by rw [x_up_ne (by omega), x_up_ne (by omega)]) ?_
  refine e_putI (j := 3) (k := 11) (xi2 11) ⟨by omega, by omega, ha.2.2.1⟩ rfl ?_
  refine e_aload (k := 12) (xi2 12) rfl (by omega) ?_
  refine e_aload (k := 13) (xi2 13) rfl (by omega) ?_
  refine e_getI (j := 4) (w := M c 4) (k := 14) (xi2 14) ⟨by omega, by omega, hc.2.2.1⟩ rfl (by rw [x_up_ne (by omega), x_up_ne (by omega), x_up_ne (by omega)]) ?_
  refine e_putI (j := 4) (k := 15) (xi2 15) ⟨by omega, by omega, ha.2.2.1⟩ rfl ?_
  refine e_aload (k := 16) (xi2 16) rfl (by omega) ?_
  refine e_aload (k := 17) (xi2 17) rfl (by omega) ?_
  refine e_getI (j := 6) (w := M c 6) (k := 18) (xi2 18) ⟨by omega, by omega, hc.2.2.1⟩ rfl (by rw [x_up_ne (by omega), x_up_ne (by omega), x_up_ne (by omega), x_up_ne (by omega)]) ?_
  refine e_putI (j := 6) (k := 19) (xi2 19) ⟨by omega, by omega, ha.2.2.1⟩ rfl ?_
  refine e_aload (k := 20) (xi2 20) rfl (by omega) ?_
  refine e_getR (j := 5) (w := 1 + c) (k := 21) (xi2 21) ⟨by omega, by omega, hc.2.2.1⟩ rfl hp.2 ?_
  refine e_iconst (k := 22) (xi2 22) ?_
  refine e_aload (k := 23) (xi2 23) rfl (by omega) ?_
  refine e_getR (j := 5) (w := 1 + a) (k := 24) (xi2 24) ⟨by omega, by omega, ha.2.2.1⟩ rfl hp.1 ?_
  refine e_iconst (k := 25) (xi2 25) ?_
  refine e_iconst (k := 26) (xi2 26) ?_
  refine e_copy (k := 27) (xi2 27) ⟨by omega, by omega, ha.2.2.2.1⟩ ⟨by omega, by omega, hc.2.2.2.1⟩ (by rw [hc.2.2.2.2, ha.2.2.2.2]; refine ⟨by omega, by omega, by omega, by omega, by omega, Nat.le_of_ble_eq_true rfl⟩) ?_
  refine e_vret (k := 28) (xi2 28) ?_
  refine ⟨(x_cp (x_up (x_up (x_up (x_up (x_up M a 1 (M c 1)) a 2 (M c 2)) a 3 (M c 3)) a 4 (M c 4)) a 6 (M c 6)) (1 + c) 0 (1 + a) 0 8), rfl, ?_, ?_, ?_, ?_, ?_, ?_, ?_, ?_⟩
  · intro b j h
    rw [x_cp_ne (by omega), x_up_ne (by omega), x_up_ne (by omega), x_up_ne (by omega), x_up_ne (by omega), x_up_ne (by omega)]
  · rw [x_cp_ne (by omega), x_up_nk (by omega), x_up_nk (by omega), x_up_nk (by omega), x_up_nk (by omega), x_up_nk (by omega)]
  · rw [x_cp_ne (by omega), x_up_nk (by omega), x_up_nk (by omega), x_up_nk (by omega), x_up_nk (by omega), x_up_self]
  · rw [x_cp_ne (by omega), x_up_nk (by omega), x_up_nk (by omega), x_up_nk (by omega), x_up_self]
  · rw [x_cp_ne (by omega), x_up_nk (by omega), x_up_nk (by omega), x_up_self]
  · rw [x_cp_ne (by omega), x_up_nk (by omega), x_up_self]
  · rw [x_cp_ne (by omega), x_up_self]
  · intro j hj
    rw [x_cp_at (by omega), x_up_ne (by omega), x_up_ne (by omega), x_up_ne (by omega), x_up_ne (by omega), x_up_ne (by omega)]
theorem c_cpd {z a c : Int} {P M : Int → Int → Int} (ha : 0 ≤ a ∧ 2 + a < z) (hc : 0 ≤ c ∧ 2 + c < z) (hka : x_KD a) (hkc : x_KD c) (hpa : x_PD P a) (hpc : x_PD P c) (hac : a + 3 ≤ c ∨ c + 3 ≤ a) (hz : M c 0 = 0 ∨ M c 0 = 1) : x_CallR 10 [.inr (a), .inr (c)] (z, P, M) (fun q => ∃ M1, q = (none, (z, P, M1)) ∧ (∀ b j, (b < a ∨ a + 2 < b) → M1 b j = M b j) ∧ M1 a 0 = M c 0 ∧ (∀ j, 0 ≤ j ∧ j < 24 → M1 (1 + a) j = M (1 + c) j) ∧ ∀ j, 0 ≤ j ∧ j < 24 → M1 (2 + a) j = M (2 + c) j) := by
  refine e_body (ls0 := [.inr (a), .inr (c)]) xm10 rfl ?_
  refine e_aload (k := 0) (xi10 0) rfl (by omega) ?_
  refine e_aload (k := 1) (xi10 1) rfl (by omega) ?_
  refine e_getI (j := 0) (w := M c 0) (k := 2) (xi10 2) ⟨by omega, by omega, hkc.1⟩ rfl rfl ?_
  refine e_putZ (j := 0) (k := 3) (xi10 3) ⟨by omega, by omega, hka.1⟩ rfl hz ?_
  refine e_aload (k := 4) (xi10 4) rfl (by omega) ?_
  refine e_getR (j := 1) (w := 1 + c) (k := 5) (xi10 5) ⟨by omega, by omega, hkc.1⟩ rfl hpc.1 ?_
  refine e_iconst (k := 6) (xi10 6) ?_
  refine e_aload (k := 7) (xi10 7) rfl (by omega) ?_
  refine e_getR (j := 1) (w := 1 + a) (k := 8) (xi10 8) ⟨by omega, by omega, hka.1⟩ rfl hpa.1 ?_
  refine e_iconst (k := 9) (xi10 9) ?_
  refine e_iconst (k := 10) (xi10 10) ?_
  refine e_copy (k := 11) (xi10 11) ⟨by omega, by omega, hka.2.1.1⟩ ⟨by omega, by omega, hkc.2.1.1⟩ (by rw [hkc.2.1.2, hka.2.1.2]; refine ⟨by omega, by omega, by omega, by omega, by omega, Nat.le_of_ble_eq_true rfl⟩) ?_
  refine e_aload (k := 12) (xi10 12) rfl (by omega) ?_
  refine e_getR (j := 2) (w := 2 + c) (k := 13) (xi10 13) ⟨by omega, by omega, hkc.1⟩ rfl hpc.2 ?_
  refine e_iconst (k := 14) (xi10 14) ?_
  refine e_aload (k := 15) (xi10 15) rfl (by omega) ?_
  refine e_getR (j := 2) (w := 2 + a) (k := 16) (xi10 16) ⟨by omega, by omega, hka.1⟩ rfl hpa.2 ?_
  refine e_iconst (k := 17) (xi10 17) ?_
  refine e_iconst (k := 18) (xi10 18) ?_
  refine e_copy (k := 19) (xi10 19) ⟨by omega, by omega, hka.2.2.1⟩ ⟨by omega, by omega, hkc.2.2.1⟩ (by rw [hkc.2.2.2, hka.2.2.2]; refine ⟨by omega, by omega, by omega, by omega, by omega, Nat.le_of_ble_eq_true rfl⟩) ?_
  refine e_vret (k := 20) (xi10 20) ?_
  refine ⟨(x_cp (x_cp (x_up M a 0 (M c 0)) (1 + c) 0 (1 + a) 0 24) (2 + c) 0 (2 + a) 0 24), rfl, ?_, ?_, ?_, ?_⟩
  · intro b j h
    rw [x_cp_ne (by omega), x_cp_ne (by omega), x_up_ne (by omega)]
  · rw [x_cp_ne (by omega), x_cp_ne (by omega), x_up_self]
  · intro j hj
    rw [x_cp_ne (by omega), x_cp_at (by omega), x_up_ne (by omega)]
  · intro j hj
    rw [x_cp_at (by omega), x_cp_ne (by omega), x_up_ne (by omega)]
theorem c_cps {z a c : Int} {P M : Int → Int → Int} (ha : 0 ≤ a ∧ 6 + a < z) (hc : 0 ≤ c ∧ 6 + c < z) (hka : x_KS a) (hkc : x_KS c) (hpa : x_PS P a) (hpc : x_PS P c) (hac : a + 7 ≤ c ∨ c + 7 ≤ a) (hz : M (4 + c) 0 = 0 ∨ M (4 + c) 0 = 1) : x_CallR 16 [.inr (a), .inr (c)] (z, P, M) (fun q => ∃ M1, q = (none, (z, P, M1)) ∧ (∀ b j, (b < a ∨ a + 6 < b) → M1 b j = M b j) ∧ M1 a 0 = M a 0 ∧ M1 a 1 = M c 1 ∧ M1 a 5 = M c 5 ∧ M1 a 6 = M c 6 ∧ M1 a 7 = M c 7 ∧ (∀ j, 0 ≤ j ∧ j < 12 → M1 (1 + a) j = M (1 + c) j) ∧ (∀ j, 0 ≤ j ∧ j < 12 → M1 (2 + a) j = M (2 + c) j) ∧ (∀ j, 0 ≤ j ∧ j < 8 → M1 (3 + a) j = M (3 + c) j) ∧ M1 (4 + a) 0 = M (4 + c) 0 ∧ (∀ j, 0 ≤ j ∧ j < 24 → M1 (1 + (4 + a)) j = M (1 + (4 + c)) j) ∧ ∀ j, 0 ≤ j ∧ j < 24 → M1 (2 + (4 + a)) j = M (2 + (4 + c)) j) := by
  refine e_body (ls0 := [.inr (a), .inr (c)]) xm16 rfl ?_
  refine e_aload (k := 0) (xi16 0) rfl (by omega) ?_
  refine e_aload (k := 1) (xi16 1) rfl (by omega) ?_
  refine e_getI (j := 1) (w := M c 1) (k := 2) (xi16 2) ⟨by omega, by omega, hkc.1⟩ rfl rfl ?_
  refine e_putI (j := 1) (k := 3) (xi16 3) ⟨by omega, by omega, hka.1⟩ rfl ?_
  refine e_aload (k := 4) (xi16 4) rfl (by omega) ?_
  refine e_aload (k := 5) (xi16 5) rfl (by omega) ?_
  refine e_getI (j := 5) (w := M c 5) (k := 6) (xi16 6) ⟨by omega, by omega, hkc.1⟩ rfl (by rw [x_up_ne (by omega)]) ?_
  refine e_putI (j := 5) (k := 7) (xi16 7) ⟨by omega, by omega, hka.1⟩ rfl ?_
  refine e_aload (k := 8) (xi16 8) rfl (by omega) ?_
  refine e_aload (k := 9) (xi16 9) rfl (by omega) ?_
  refine e_getI (j := 6) (w := M c 6) (k := 10) (xi16 10) ⟨by omega, by omega, hkc.1⟩ rfl (by rw [x_up_ne (by omega), x_up_ne (by omega)]) ?_
  refine e_putI (j := 6) (k := 11) (xi16 11) ⟨by omega, by omega, hka.1⟩ rfl ?_
  refine e_aload (k := 12) (xi16 12) rfl (by omega) ?_
  refine e_aload (k := 13) (xi16 13) rfl (by omega) ?_
  refine e_getI (j := 7) (w := M c 7) (k := 14) (xi16 14) ⟨by omega, by omega, hkc.1⟩ rfl (by rw [x_up_ne (by omega), x_up_ne (by omega), x_up_ne (by omega)]) ?_
  refine e_putI (j := 7) (k := 15) (xi16 15) ⟨by omega, by omega, hka.1⟩ rfl ?_
  refine e_aload (k := 16) (xi16 16) rfl (by omega) ?_
  refine e_getR (j := 2) (w := 1 + c) (k := 17) (xi16 17) ⟨by omega, by omega, hkc.1⟩ rfl hpc.1.1 ?_
  refine e_iconst (k := 18) (xi16 18) ?_
  refine e_aload (k := 19) (xi16 19) rfl (by omega) ?_
  refine e_getR (j := 2) (w := 1 + a) (k := 20) (xi16 20) ⟨by omega, by omega, hka.1⟩ rfl hpa.1.1 ?_
  refine e_iconst (k := 21) (xi16 21) ?_
  refine e_iconst (k := 22) (xi16 22) ?_
  refine e_copy (k := 23) (xi16 23) ⟨by omega, by omega, hka.2.1.1⟩ ⟨by omega, by omega, hkc.2.1.1⟩ (by rw [hkc.2.1.2, hka.2.1.2]; refine ⟨by omega, by omega, by omega, by omega, by omega, Nat.le_of_ble_eq_true rfl⟩) ?_
  refine e_aload (k := 24) (xi16 24) rfl (by omega) ?_
  refine e_getR (j := 3) (w := 2 + c) (k := 25) (xi16 25) ⟨by omega, by omega, hkc.1⟩ rfl hpc.1.2.1 ?_
  refine e_iconst (k := 26) (xi16 26) ?_
  refine e_aload (k := 27) (xi16 27) rfl (by omega) ?_
  refine e_getR (j := 3) (w := 2 + a) (k := 28) (xi16 28) ⟨by omega, by omega, hka.1⟩ rfl hpa.1.2.1 ?_
  refine e_iconst (k := 29) (xi16 29) ?_
  refine e_iconst (k := 30) (xi16 30) ?_
  refine e_copy (k := 31) (xi16 31) ⟨by omega, by omega, hka.2.2.1.1⟩ ⟨by omega, by omega, hkc.2.2.1.1⟩ (by rw [hkc.2.2.1.2, hka.2.2.1.2]; refine ⟨by omega, by omega, by omega, by omega, by omega, Nat.le_of_ble_eq_true rfl⟩) ?_
  refine e_aload (k := 32) (xi16 32) rfl (by omega) ?_
  refine e_getR (j := 4) (w := 3 + c) (k := 33) (xi16 33) ⟨by omega, by omega, hkc.1⟩ rfl hpc.1.2.2.1 ?_
  refine e_iconst (k := 34) (xi16 34) ?_
  refine e_aload (k := 35) (xi16 35) rfl (by omega) ?_
  refine e_getR (j := 4) (w := 3 + a) (k := 36) (xi16 36) ⟨by omega, by omega, hka.1⟩ rfl hpa.1.2.2.1 ?_
  refine e_iconst (k := 37) (xi16 37) ?_
  refine e_iconst (k := 38) (xi16 38) ?_
  refine e_copy (k := 39) (xi16 39) ⟨by omega, by omega, hka.2.2.2.1.1⟩ ⟨by omega, by omega, hkc.2.2.2.1.1⟩ (by rw [hkc.2.2.2.1.2, hka.2.2.2.1.2]; refine ⟨by omega, by omega, by omega, by omega, by omega, Nat.le_of_ble_eq_true rfl⟩) ?_
  refine e_aload (k := 40) (xi16 40) rfl (by omega) ?_
  refine e_getR (j := 8) (w := 4 + a) (k := 41) (xi16 41) ⟨by omega, by omega, hka.1⟩ rfl hpa.1.2.2.2 ?_
  refine e_aload (k := 42) (xi16 42) rfl (by omega) ?_
  refine e_getR (j := 8) (w := 4 + c) (k := 43) (xi16 43) ⟨by omega, by omega, hkc.1⟩ rfl hpc.1.2.2.2 ?_
  refine e_callR (k := 44) (c1 := 0) (c2 := 0) (rest := []) (as := [.inr (4 + a), .inr (4 + c)]) (xi16 44) (by decide) xm10 rfl ⟨rfl, Nat.le_of_ble_eq_true rfl, by decide⟩ (Or.inr (x_okt ⟨by omega, by omega, hka.2.2.2.2.1⟩)) (c_cpd (z := z) (a := 4 + a) (c := 4 + c) (P := P) (M := (x_cp (x_cp (x_cp (x_up (x_up (x_up (x_up M a 1 (M c 1)) a 5 (M c 5)) a 6 (M c 6)) a 7 (M c 7)) (1 + c) 0 (1 + a) 0 12) (2 + c) 0 (2 + a) 0 12) (3 + c) 0 (3 + a) 0 8)) (by omega) (by omega) hka.2.2.2.2 hkc.2.2.2.2 hpa.2 hpc.2 (by omega) (by rw [x_cp_ne (by omega), x_cp_ne (by omega), x_cp_ne (by omega), x_up_ne (by omega), x_up_ne (by omega), x_up_ne (by omega), x_up_ne (by omega)]; exact hz)) ?_
  rintro v h1 ⟨M1, hq, f1, g0, g1, g2⟩
  cases hq
  show x_Ev 16 45 [.inr (a), .inr (c)] [] (0, 0) (z, P, M1) _
  refine e_vret (k := 45) (xi16 45) ?_
  refine ⟨M1, rfl, ?_, ?_, ?_, ?_, ?_, ?_, ?_, ?_, ?_, ?_, ?_, ?_⟩
  · intro b j h
    rw [f1 _ _ (by omega), x_cp_ne (by omega), x_cp_ne (by omega), x_cp_ne (by omega), x_up_ne (by omega), x_up_ne (by omega), x_up_ne (by omega), x_up_ne (by omega)]
  · rw [f1 _ _ (by omega), x_cp_ne (by omega), x_cp_ne (by omega), x_cp_ne (by omega), x_up_nk (by omega), x_up_nk (by omega), x_up_nk (by omega), x_up_nk (by omega)]
  · rw [f1 _ _ (by omega), x_cp_ne (by omega), x_cp_ne (by omega), x_cp_ne (by omega), x_up_nk (by omega), x_up_nk (by omega), x_up_nk (by omega), x_up_self]
  · rw [f1 _ _ (by omega), x_cp_ne (by omega), x_cp_ne (by omega), x_cp_ne (by omega), x_up_nk (by omega), x_up_nk (by omega), x_up_self]
  · rw [f1 _ _ (by omega), x_cp_ne (by omega), x_cp_ne (by omega), x_cp_ne (by omega), x_up_nk (by omega), x_up_self]
  · rw [f1 _ _ (by omega), x_cp_ne (by omega), x_cp_ne (by omega), x_cp_ne (by omega), x_up_self]
  · intro j hj
    rw [f1 _ _ (by omega), x_cp_ne (by omega), x_cp_ne (by omega), x_cp_at (by omega), x_up_ne (by omega), x_up_ne (by omega), x_up_ne (by omega), x_up_ne (by omega)]
  · intro j hj
    rw [f1 _ _ (by omega), x_cp_ne (by omega), x_cp_at (by omega), x_cp_ne (by omega), x_up_ne (by omega), x_up_ne (by omega), x_up_ne (by omega), x_up_ne (by omega)]
  · intro j hj
    rw [f1 _ _ (by omega), x_cp_at (by omega), x_cp_ne (by omega), x_cp_ne (by omega), x_up_ne (by omega), x_up_ne (by omega), x_up_ne (by omega), x_up_ne (by omega)]
  · rw [g0, x_cp_ne (by omega), x_cp_ne (by omega), x_cp_ne (by omega), x_up_ne (by omega), x_up_ne (by omega), x_up_ne (by omega), x_up_ne (by omega)]
  · intro j hj
    rw [g1 j hj, x_cp_ne (by omega), x_cp_ne (by omega), x_cp_ne (by omega), x_up_ne (by omega), x_up_ne (by omega), x_up_ne (by omega), x_up_ne (by omega)]
  · intro j hj
    rw [g2 j hj, x_cp_ne (by omega), x_cp_ne (by omega), x_cp_ne (by omega), x_up_ne (by omega), x_up_ne (by omega), x_up_ne (by omega), x_up_ne (by omega)]
