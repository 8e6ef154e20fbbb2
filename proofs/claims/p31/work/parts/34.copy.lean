/-! COPIES -/
theorem x_cp_at {f : Int → Int → Int} {a0 a n j : Int} (h : 0 ≤ j ∧ j < n) : x_cp f a0 0 a 0 n a j = f a0 j := by
  unfold x_cp
  rw [if_pos ⟨rfl, by omega, by omega⟩]
  congr 1
  omega
theorem x_cp_ne {f : Int → Int → Int} {a0 sp a dp n b j : Int} (h : b ≠ a) : x_cp f a0 sp a dp n b j = f b j := by
  unfold x_cp
  rw [if_neg (fun q => h q.1)]
def x_KD (a : Int) : Prop := x_kd a = 1 ∧ (x_kd (1 + a) = 8 ∧ x_ln (1 + a) = 24) ∧ x_kd (2 + a) = 8 ∧ x_ln (2 + a) = 24
def x_PD (P : Int → Int → Int) (a : Int) : Prop := P a 1 = 1 + a ∧ P a 2 = 2 + a
def x_KS (a : Int) : Prop := x_kd a = 2 ∧ (x_kd (1 + a) = 8 ∧ x_ln (1 + a) = 12) ∧ (x_kd (2 + a) = 8 ∧ x_ln (2 + a) = 12) ∧ (x_kd (3 + a) = 8 ∧ x_ln (3 + a) = 8) ∧ x_KD (4 + a)
def x_PS (P : Int → Int → Int) (a : Int) : Prop := (P a 2 = 1 + a ∧ P a 3 = 2 + a ∧ P a 4 = 3 + a ∧ P a 8 = 4 + a) ∧ x_PD P (4 + a)
theorem c_cpw {z a c : Int} {P M : Int → Int → Int} (ha : 0 ≤ a ∧ a < z ∧ x_kd a = 5) (hc : 0 ≤ c ∧ c < z ∧ x_kd c = 5) (hac : ¬ a = c) (hz : (M c 7 = 0 ∨ M c 7 = 1) ∧ (M c 8 = 0 ∨ M c 8 = 1)) : x_CallR 67 [.inr (a), .inr (c)] (z, P, M) (fun q => ∃ M1, q = (none, (z, P, M1)) ∧ (∀ b j, ¬ b = a → M1 b j = M b j) ∧ M1 a 0 = M a 0 ∧ ∀ j, 1 ≤ j ∧ j ≤ 9 → M1 a j = M c j) := by
  refine e_body (ls0 := [.inr (a), .inr (c)]) xm67 rfl ?_
  refine e_aload (k := 0) (xi67 0) rfl (by omega) ?_
  refine e_aload (k := 1) (xi67 1) rfl (by omega) ?_
  refine e_getI (j := 1) (w := M c 1) (k := 2) (xi67 2) ⟨by omega, by omega, hc.2.2⟩ rfl rfl ?_
  refine e_putI (j := 1) (k := 3) (xi67 3) ⟨by omega, by omega, ha.2.2⟩ rfl ?_
  refine e_aload (k := 4) (xi67 4) rfl (by omega) ?_
  refine e_aload (k := 5) (xi67 5) rfl (by omega) ?_
  refine e_getI (j := 2) (w := M c 2) (k := 6) (xi67 6) ⟨by omega, by omega, hc.2.2⟩ rfl (by rw [x_up_ne (by omega)]) ?_
  refine e_putI (j := 2) (k := 7) (xi67 7) ⟨by omega, by omega, ha.2.2⟩ rfl ?_
  refine e_aload (k := 8) (xi67 8) rfl (by omega) ?_
  refine e_aload (k := 9) (xi67 9) rfl (by omega) ?_
  refine e_getI (j := 3) (w := M c 3) (k := 10) (xi67 10) ⟨by omega, by omega, hc.2.2⟩ rfl (by rw [x_up_ne (by omega), x_up_ne (by omega)]) ?_
  refine e_putI (j := 3) (k := 11) (xi67 11) ⟨by omega, by omega, ha.2.2⟩ rfl ?_
  refine e_aload (k := 12) (xi67 12) rfl (by omega) ?_
  refine e_aload (k := 13) (xi67 13) rfl (by omega) ?_
  refine e_getI (j := 4) (w := M c 4) (k := 14) (xi67 14) ⟨by omega, by omega, hc.2.2⟩ rfl (by rw [x_up_ne (by omega), x_up_ne (by omega), x_up_ne (by omega)]) ?_
  refine e_putI (j := 4) (k := 15) (xi67 15) ⟨by omega, by omega, ha.2.2⟩ rfl ?_
  refine e_aload (k := 16) (xi67 16) rfl (by omega) ?_
  refine e_aload (k := 17) (xi67 17) rfl (by omega) ?_
  refine e_getI (j := 5) (w := M c 5) (k := 18) (xi67 18) ⟨by omega, by omega, hc.2.2⟩ rfl (by rw [x_up_ne (by omega), x_up_ne (by omega), x_up_ne (by omega), x_up_ne (by omega)]) ?_
  refine e_putI (j := 5) (k := 19) (xi67 19) ⟨by omega, by omega, ha.2.2⟩ rfl ?_
  refine e_aload (k := 20) (xi67 20) rfl (by omega) ?_
  refine e_aload (k := 21) (xi67 21) rfl (by omega) ?_
  refine e_getI (j := 6) (w := M c 6) (k := 22) (xi67 22) ⟨by omega, by omega, hc.2.2⟩ rfl (by rw [x_up_ne (by omega), x_up_ne (by omega), x_up_ne (by omega), x_up_ne (by omega), x_up_ne (by omega)]) ?_
  refine e_putI (j := 6) (k := 23) (xi67 23) ⟨by omega, by omega, ha.2.2⟩ rfl ?_
  refine e_aload (k := 24) (xi67 24) rfl (by omega) ?_
  refine e_aload (k := 25) (xi67 25) rfl (by omega) ?_
  refine e_getI (j := 7) (w := M c 7) (k := 26) (xi67 26) ⟨by omega, by omega, hc.2.2⟩ rfl (by rw [x_up_ne (by omega), x_up_ne (by omega), x_up_ne (by omega), x_up_ne (by omega), x_up_ne (by omega), x_up_ne (by omega)]) ?_
  refine e_putZ (j := 7) (k := 27) (xi67 27) ⟨by omega, by omega, ha.2.2⟩ rfl hz.1 ?_
  refine e_aload (k := 28) (xi67 28) rfl (by omega) ?_
  refine e_aload (k := 29) (xi67 29) rfl (by omega) ?_
  refine e_getI (j := 8) (w := M c 8) (k := 30) (xi67 30) ⟨by omega, by omega, hc.2.2⟩ rfl (by rw [x_up_ne (by omega), x_up_ne (by omega), x_up_ne (by omega), x_up_ne (by omega), x_up_ne (by omega), x_up_ne (by omega), x_up_ne (by omega)]) ?_
  refine e_putZ (j := 8) (k := 31) (xi67 31) ⟨by omega, by omega, ha.2.2⟩ rfl hz.2 ?_
  refine e_aload (k := 32) (xi67 32) rfl (by omega) ?_
  refine e_aload (k := 33) (xi67 33) rfl (by omega) ?_
  refine e_getI (j := 9) (w := M c 9) (k := 34) (xi67 34) ⟨by omega, by omega, hc.2.2⟩ rfl (by rw [x_up_ne (by omega), x_up_ne (by omega), x_up_ne (by omega), x_up_ne (by omega), x_up_ne (by omega), x_up_ne (by omega), x_up_ne (by omega), x_up_ne (by omega)]) ?_
  refine e_putI (j := 9) (k := 35) (xi67 35) ⟨by omega, by omega, ha.2.2⟩ rfl ?_
  refine e_vret (k := 36) (xi67 36) ?_
  refine ⟨(x_up (x_up (x_up (x_up (x_up (x_up (x_up (x_up (x_up M a 1 (M c 1)) a 2 (M c 2)) a 3 (M c 3)) a 4 (M c 4)) a 5 (M c 5)) a 6 (M c 6)) a 7 (M c 7)) a 8 (M c 8)) a 9 (M c 9)), rfl, ?_, ?_, ?_⟩
  · intro b j h
    rw [x_up_ne (by omega), x_up_ne (by omega), x_up_ne (by omega), x_up_ne (by omega), x_up_ne (by omega), x_up_ne (by omega), x_up_ne (by omega), x_up_ne (by omega), x_up_ne (by omega)]
  · rw [x_up_nk (by omega), x_up_nk (by omega), x_up_nk (by omega), x_up_nk (by omega), x_up_nk (by omega), x_up_nk (by omega), x_up_nk (by omega), x_up_nk (by omega), x_up_nk (by omega)]
  · intro j hj
    have hjs : j = 1 ∨ j = 2 ∨ j = 3 ∨ j = 4 ∨ j = 5 ∨ j = 6 ∨ j = 7 ∨ j = 8 ∨ j = 9 := by omega
    rcases hjs with rfl | rfl | rfl | rfl | rfl | rfl | rfl | rfl | rfl
    · rw [x_up_nk (by omega), x_up_nk (by omega), x_up_nk (by omega), x_up_nk (by omega), x_up_nk (by omega), x_up_nk (by omega), x_up_nk (by omega), x_up_nk (by omega), x_up_self]
    · rw [x_up_nk (by omega), x_up_nk (by omega), x_up_nk (by omega), x_up_nk (by omega), x_up_nk (by omega), x_up_nk (by omega), x_up_nk (by omega), x_up_self]
    · rw [x_up_nk (by omega), x_up_nk (by omega), x_up_nk (by omega), x_up_nk (by omega), x_up_nk (by omega), x_up_nk (by omega), x_up_self]
    · rw [x_up_nk (by omega), x_up_nk (by omega), x_up_nk (by omega), x_up_nk (by omega), x_up_nk (by omega), x_up_self]
    · rw [x_up_nk (by omega), x_up_nk (by omega), x_up_nk (by omega), x_up_nk (by omega), x_up_self]
    · rw [x_up_nk (by omega), x_up_nk (by omega), x_up_nk (by omega), x_up_self]
    · rw [x_up_nk (by omega), x_up_nk (by omega), x_up_self]
    · rw [x_up_nk (by omega), x_up_self]
    · rw [x_up_self]
theorem c_cpc {z a c : Int} {P M : Int → Int → Int} (ha : 0 ≤ a ∧ 1 + a < z ∧ x_kd a = 0 ∧ x_kd (1 + a) = 8 ∧ x_ln (1 + a) = 8) (hc : 0 ≤ c ∧ 1 + c < z ∧ x_kd c = 0 ∧ x_kd (1 + c) = 8 ∧ x_ln (1 + c) = 8) (hp : P a 5 = 1 + a ∧ P c 5 = 1 + c) (hac : a + 2 ≤ c ∨ c + 2 ≤ a) : x_CallR 2 [.inr (a), .inr (c)] (z, P, M) (fun q => ∃ M1, q = (none, (z, P, M1)) ∧ (∀ b j, (b < a ∨ a + 1 < b) → M1 b j = M b j) ∧ M1 a 0 = M a 0 ∧ M1 a 1 = M c 1 ∧ M1 a 2 = M c 2 ∧ M1 a 3 = M c 3 ∧ M1 a 4 = M c 4 ∧ M1 a 6 = M c 6 ∧ ∀ j, 0 ≤ j ∧ j < 8 → M1 (1 + a) j = M (1 + c) j) := by
  refine e_body (ls0 := [.inr (a), .inr (c)]) xm2 rfl ?_
  refine e_aload (k := 0) (xi2 0) rfl (by omega) ?_
  refine e_aload (k := 1) (xi2 1) rfl (by omega) ?_
  refine e_getI (j := 1) (w := M c 1) (k := 2) (xi2 2) ⟨by omega, by omega, hc.2.2.1⟩ rfl rfl ?_
  refine e_putI (j := 1) (k := 3) (xi2 3) ⟨by omega, by omega, ha.2.2.1⟩ rfl ?_
  refine e_aload (k := 4) (xi2 4) rfl (by omega) ?_
  refine e_aload (k := 5) (xi2 5) rfl (by omega) ?_
  refine e_getI (j := 2) (w := M c 2) (k := 6) (xi2 6) ⟨by omega, by omega, hc.2.2.1⟩ rfl (by rw [x_up_ne (by omega)]) ?_
  refine e_putI (j := 2) (k := 7) (xi2 7) ⟨by omega, by omega, ha.2.2.1⟩ rfl ?_
  refine e_aload (k := 8) (xi2 8) rfl (by omega) ?_
  refine e_aload (k := 9) (xi2 9) rfl (by omega) ?_
  refine e_getI (j := 3) (w := M c 3) (k := 10) (xi2 10) ⟨by omega, by omega, hc.2.2.1⟩ rfl (by rw [x_up_ne (by omega), x_up_ne (by omega)]) ?_
  refine e_putI (j := 3) (k := 11) (xi2 11) ⟨by omega, by omega, ha.2.2.1⟩ rfl ?_
  refine e_aload (k := 12) (xi2 12) rfl (by omega) ?_
  refine e_aload (k := 13) (xi2 13) rfl (by omega) ?_
  refine e_getI (j := 4) (w := M c 4) (k := 14) (xi2 14) ⟨by omega, by omega, hc.2.2.1⟩ rfl (by rw [x_up_ne (by omega), x_up_ne (by omega), x_up_ne (by omega)]) ?_
  refine e_putI (j := 4) (k := 15) (xi2 15) ⟨by omega, by omega, ha.2.2.1⟩ rfl ?_
  refine e_aload (k := 16) (xi2 16) rfl (by omega) ?_
  refine e_aload (k := 17) (xi2 17) rfl (by omega) ?_
  refine e_getI (j := 6) (w := M c 6) (k := 18) (xi2 18) ⟨by omega, by omega, hc.2.2.1⟩ rfl (by rw [x_up_ne (by omega), x_up_ne (by omega), x_up_ne (by omega), x_up_ne (by omega)]) ?_
  refine e_putI (j := 6) (k := 19) (xi2 19) ⟨by omega, by omega, ha.2.2.1⟩ rfl ?_
  refine e_aload (k := 20) (xi2 20) rfl (by omega) ?_
  refine e_getR (j := 5) (w := 1 + c) (k := 21) (xi2 21) ⟨by omega, by omega, hc.2.2.1⟩ rfl hp.2 ?_
  refine e_iconst (k := 22) (xi2 22) ?_
  refine e_aload (k := 23) (xi2 23) rfl (by omega) ?_
  refine e_getR (j := 5) (w := 1 + a) (k := 24) (xi2 24) ⟨by omega, by omega, ha.2.2.1⟩ rfl hp.1 ?_
  refine e_iconst (k := 25) (xi2 25) ?_
  refine e_iconst (k := 26) (xi2 26) ?_
  refine e_copy (k := 27) (xi2 27) ⟨by omega, by omega, ha.2.2.2.1⟩ ⟨by omega, by omega, hc.2.2.2.1⟩ (by rw [hc.2.2.2.2, ha.2.2.2.2]; refine ⟨by omega, by omega, by omega, by omega, by omega, Nat.le_of_ble_eq_true rfl⟩) ?_
  refine e_vret (k := 28) (xi2 28) ?_
  refine ⟨(x_cp (x_up (x_up (x_up (x_up (x_up M a 1 (M c 1)) a 2 (M c 2)) a 3 (M c 3)) a 4 (M c 4)) a 6 (M c 6)) (1 + c) 0 (1 + a) 0 8), rfl, ?_, ?_, ?_, ?_, ?_, ?_, ?_, ?_⟩
  · intro b j h
    rw [x_cp_ne (by omega), x_up_ne (by omega), x_up_ne (by omega), x_up_ne (by omega), x_up_ne (by omega), x_up_ne (by omega)]
  · rw [x_cp_ne (by omega), x_up_nk (by omega), x_up_nk (by omega), x_up_nk (by omega), x_up_nk (by omega), x_up_nk (by omega)]
  · rw [x_cp_ne (by omega), x_up_nk (by omega), x_up_nk (by omega), x_up_nk (by omega), x_up_nk (by omega), x_up_self]
  · rw [x_cp_ne (by omega), x_up_nk (by omega), x_up_nk (by omega), x_up_nk (by omega), x_up_self]
  · rw [x_cp_ne (by omega), x_up_nk (by omega), x_up_nk (by omega), x_up_self]
  · rw [x_cp_ne (by omega), x_up_nk (by omega), x_up_self]
  · rw [x_cp_ne (by omega), x_up_self]
  · intro j hj
    rw [x_cp_at (by omega), x_up_ne (by omega), x_up_ne (by omega), x_up_ne (by omega), x_up_ne (by omega), x_up_ne (by omega)]
theorem c_cpd {z a c : Int} {P M : Int → Int → Int} (ha : 0 ≤ a ∧ 2 + a < z) (hc : 0 ≤ c ∧ 2 + c < z) (hka : x_KD a) (hkc : x_KD c) (hpa : x_PD P a) (hpc : x_PD P c) (hac : a + 3 ≤ c ∨ c + 3 ≤ a) (hz : M c 0 = 0 ∨ M c 0 = 1) : x_CallR 10 [.inr (a), .inr (c)] (z, P, M) (fun q => ∃ M1, q = (none, (z, P, M1)) ∧ (∀ b j, (b < a ∨ a + 2 < b) → M1 b j = M b j) ∧ M1 a 0 = M c 0 ∧ (∀ j, 0 ≤ j ∧ j < 24 → M1 (1 + a) j = M (1 + c) j) ∧ ∀ j, 0 ≤ j ∧ j < 24 → M1 (2 + a) j = M (2 + c) j) := by
  refine e_body (ls0 := [.inr (a), .inr (c)]) xm10 rfl ?_
  refine e_aload (k := 0) (xi10 0) rfl (by omega) ?_
  refine e_aload (k := 1) (xi10 1) rfl (by omega) ?_
  refine e_getI (j := 0) (w := M c 0) (k := 2) (xi10 2) ⟨by omega, by omega, hkc.1⟩ rfl rfl ?_
  refine e_putZ (j := 0) (k := 3) (xi10 3) ⟨by omega, by omega, hka.1⟩ rfl hz ?_
  refine e_aload (k := 4) (xi10 4) rfl (by omega) ?_
  refine e_getR (j := 1) (w := 1 + c) (k := 5) (xi10 5) ⟨by omega, by omega, hkc.1⟩ rfl hpc.1 ?_
  refine e_iconst (k := 6) (xi10 6) ?_
  refine e_aload (k := 7) (xi10 7) rfl (by omega) ?_
  refine e_getR (j := 1) (w := 1 + a) (k := 8) (xi10 8) ⟨by omega, by omega, hka.1⟩ rfl hpa.1 ?_
  refine e_iconst (k := 9) (xi10 9) ?_
  refine e_iconst (k := 10) (xi10 10) ?_
  refine e_copy (k := 11) (xi10 11) ⟨by omega, by omega, hka.2.1.1⟩ ⟨by omega, by omega, hkc.2.1.1⟩ (by rw [hkc.2.1.2, hka.2.1.2]; refine ⟨by omega, by omega, by omega, by omega, by omega, Nat.le_of_ble_eq_true rfl⟩) ?_
  refine e_aload (k := 12) (xi10 12) rfl (by omega) ?_
  refine e_getR (j := 2) (w := 2 + c) (k := 13) (xi10 13) ⟨by omega, by omega, hkc.1⟩ rfl hpc.2 ?_
  refine e_iconst (k := 14) (xi10 14) ?_
  refine e_aload (k := 15) (xi10 15) rfl (by omega) ?_
  refine e_getR (j := 2) (w := 2 + a) (k := 16) (xi10 16) ⟨by omega, by omega, hka.1⟩ rfl hpa.2 ?_
  refine e_iconst (k := 17) (xi10 17) ?_
  refine e_iconst (k := 18) (xi10 18) ?_
  refine e_copy (k := 19) (xi10 19) ⟨by omega, by omega, hka.2.2.1⟩ ⟨by omega, by omega, hkc.2.2.1⟩ (by rw [hkc.2.2.2, hka.2.2.2]; refine ⟨by omega, by omega, by omega, by omega, by omega, Nat.le_of_ble_eq_true rfl⟩) ?_
  refine e_vret (k := 20) (xi10 20) ?_
  refine ⟨(x_cp (x_cp (x_up M a 0 (M c 0)) (1 + c) 0 (1 + a) 0 24) (2 + c) 0 (2 + a) 0 24), rfl, ?_, ?_, ?_, ?_⟩
  · intro b j h
    rw [x_cp_ne (by omega), x_cp_ne (by omega), x_up_ne (by omega)]
  · rw [x_cp_ne (by omega), x_cp_ne (by omega), x_up_self]
  · intro j hj
    rw [x_cp_ne (by omega), x_cp_at (by omega), x_up_ne (by omega)]
  · intro j hj
    rw [x_cp_at (by omega), x_cp_ne (by omega), x_up_ne (by omega)]
theorem c_cps {z a c : Int} {P M : Int → Int → Int} (ha : 0 ≤ a ∧ 6 + a < z) (hc : 0 ≤ c ∧ 6 + c < z) (hka : x_KS a) (hkc : x_KS c) (hpa : x_PS P a) (hpc : x_PS P c) (hac : a + 7 ≤ c ∨ c + 7 ≤ a) (hz : M (4 + c) 0 = 0 ∨ M (4 + c) 0 = 1) : x_CallR 16 [.inr (a), .inr (c)] (z, P, M) (fun q => ∃ M1, q = (none, (z, P, M1)) ∧ (∀ b j, (b < a ∨ a + 6 < b) → M1 b j = M b j) ∧ M1 a 0 = M a 0 ∧ M1 a 1 = M c 1 ∧ M1 a 5 = M c 5 ∧ M1 a 6 = M c 6 ∧ M1 a 7 = M c 7 ∧ (∀ j, 0 ≤ j ∧ j < 12 → M1 (1 + a) j = M (1 + c) j) ∧ (∀ j, 0 ≤ j ∧ j < 12 → M1 (2 + a) j = M (2 + c) j) ∧ (∀ j, 0 ≤ j ∧ j < 8 → M1 (3 + a) j = M (3 + c) j) ∧ M1 (4 + a) 0 = M (4 + c) 0 ∧ (∀ j, 0 ≤ j ∧ j < 24 → M1 (1 + (4 + a)) j = M (1 + (4 + c)) j) ∧ ∀ j, 0 ≤ j ∧ j < 24 → M1 (2 + (4 + a)) j = M (2 + (4 + c)) j) := by
  refine e_body (ls0 := [.inr (a), .inr (c)]) xm16 rfl ?_
  refine e_aload (k := 0) (xi16 0) rfl (by omega) ?_
  refine e_aload (k := 1) (xi16 1) rfl (by omega) ?_
  refine e_getI (j := 1) (w := M c 1) (k := 2) (xi16 2) ⟨by omega, by omega, hkc.1⟩ rfl rfl ?_
  refine e_putI (j := 1) (k := 3) (xi16 3) ⟨by omega, by omega, hka.1⟩ rfl ?_
  refine e_aload (k := 4) (xi16 4) rfl (by omega) ?_
  refine e_aload (k := 5) (xi16 5) rfl (by omega) ?_
  refine e_getI (j := 5) (w := M c 5) (k := 6) (xi16 6) ⟨by omega, by omega, hkc.1⟩ rfl (by rw [x_up_ne (by omega)]) ?_
  refine e_putI (j := 5) (k := 7) (xi16 7) ⟨by omega, by omega, hka.1⟩ rfl ?_
  refine e_aload (k := 8) (xi16 8) rfl (by omega) ?_
  refine e_aload (k := 9) (xi16 9) rfl (by omega) ?_
  refine e_getI (j := 6) (w := M c 6) (k := 10) (xi16 10) ⟨by omega, by omega, hkc.1⟩ rfl (by rw [x_up_ne (by omega), x_up_ne (by omega)]) ?_
  refine e_putI (j := 6) (k := 11) (xi16 11) ⟨by omega, by omega, hka.1⟩ rfl ?_
  refine e_aload (k := 12) (xi16 12) rfl (by omega) ?_
  refine e_aload (k := 13) (xi16 13) rfl (by omega) ?_
  refine e_getI (j := 7) (w := M c 7) (k := 14) (xi16 14) ⟨by omega, by omega, hkc.1⟩ rfl (by rw [x_up_ne (by omega), x_up_ne (by omega), x_up_ne (by omega)]) ?_
  refine e_putI (j := 7) (k := 15) (xi16 15) ⟨by omega, by omega, hka.1⟩ rfl ?_
  refine e_aload (k := 16) (xi16 16) rfl (by omega) ?_
  refine e_getR (j := 2) (w := 1 + c) (k := 17) (xi16 17) ⟨by omega, by omega, hkc.1⟩ rfl hpc.1.1 ?_
  refine e_iconst (k := 18) (xi16 18) ?_
  refine e_aload (k := 19) (xi16 19) rfl (by omega) ?_
  refine e_getR (j := 2) (w := 1 + a) (k := 20) (xi16 20) ⟨by omega, by omega, hka.1⟩ rfl hpa.1.1 ?_
  refine e_iconst (k := 21) (xi16 21) ?_
  refine e_iconst (k := 22) (xi16 22) ?_
  refine e_copy (k := 23) (xi16 23) ⟨by omega, by omega, hka.2.1.1⟩ ⟨by omega, by omega, hkc.2.1.1⟩ (by rw [hkc.2.1.2, hka.2.1.2]; refine ⟨by omega, by omega, by omega, by omega, by omega, Nat.le_of_ble_eq_true rfl⟩) ?_
  refine e_aload (k := 24) (xi16 24) rfl (by omega) ?_
  refine e_getR (j := 3) (w := 2 + c) (k := 25) (xi16 25) ⟨by omega, by omega, hkc.1⟩ rfl hpc.1.2.1 ?_
  refine e_iconst (k := 26) (xi16 26) ?_
  refine e_aload (k := 27) (xi16 27) rfl (by omega) ?_
  refine e_getR (j := 3) (w := 2 + a) (k := 28) (xi16 28) ⟨by omega, by omega, hka.1⟩ rfl hpa.1.2.1 ?_
  refine e_iconst (k := 29) (xi16 29) ?_
  refine e_iconst (k := 30) (xi16 30) ?_
  refine e_copy (k := 31) (xi16 31) ⟨by omega, by omega, hka.2.2.1.1⟩ ⟨by omega, by omega, hkc.2.2.1.1⟩ (by rw [hkc.2.2.1.2, hka.2.2.1.2]; refine ⟨by omega, by omega, by omega, by omega, by omega, Nat.le_of_ble_eq_true rfl⟩) ?_
  refine e_aload (k := 32) (xi16 32) rfl (by omega) ?_
  refine e_getR (j := 4) (w := 3 + c) (k := 33) (xi16 33) ⟨by omega, by omega, hkc.1⟩ rfl hpc.1.2.2.1 ?_
  refine e_iconst (k := 34) (xi16 34) ?_
  refine e_aload (k := 35) (xi16 35) rfl (by omega) ?_
  refine e_getR (j := 4) (w := 3 + a) (k := 36) (xi16 36) ⟨by omega, by omega, hka.1⟩ rfl hpa.1.2.2.1 ?_
  refine e_iconst (k := 37) (xi16 37) ?_
  refine e_iconst (k := 38) (xi16 38) ?_
  refine e_copy (k := 39) (xi16 39) ⟨by omega, by omega, hka.2.2.2.1.1⟩ ⟨by omega, by omega, hkc.2.2.2.1.1⟩ (by rw [hkc.2.2.2.1.2, hka.2.2.2.1.2]; refine ⟨by omega, by omega, by omega, by omega, by omega, Nat.le_of_ble_eq_true rfl⟩) ?_
  refine e_aload (k := 40) (xi16 40) rfl (by omega) ?_
  refine e_getR (j := 8) (w := 4 + a) (k := 41) (xi16 41) ⟨by omega, by omega, hka.1⟩ rfl hpa.1.2.2.2 ?_
  refine e_aload (k := 42) (xi16 42) rfl (by omega) ?_
  refine e_getR (j := 8) (w := 4 + c) (k := 43) (xi16 43) ⟨by omega, by omega, hkc.1⟩ rfl hpc.1.2.2.2 ?_
  refine e_callR (k := 44) (c1 := 0) (c2 := 0) (rest := []) (as := [.inr (4 + a), .inr (4 + c)]) (xi16 44) (by decide) xm10 rfl ⟨rfl, Nat.le_of_ble_eq_true rfl, by decide⟩ (Or.inr (x_okt ⟨by omega, by omega, hka.2.2.2.2.1⟩)) (c_cpd (z := z) (a := 4 + a) (c := 4 + c) (P := P) (M := (x_cp (x_cp (x_cp (x_up (x_up (x_up (x_up M a 1 (M c 1)) a 5 (M c 5)) a 6 (M c 6)) a 7 (M c 7)) (1 + c) 0 (1 + a) 0 12) (2 + c) 0 (2 + a) 0 12) (3 + c) 0 (3 + a) 0 8)) (by omega) (by omega) hka.2.2.2.2 hkc.2.2.2.2 hpa.2 hpc.2 (by omega) (by rw [x_cp_ne (by omega), x_cp_ne (by omega), x_cp_ne (by omega), x_up_ne (by omega), x_up_ne (by omega), x_up_ne (by omega), x_up_ne (by omega)]; exact hz)) ?_
  rintro v h1 ⟨M1, hq, f1, g0, g1, g2⟩
  cases hq
  show x_Ev 16 45 [.inr (a), .inr (c)] [] (0, 0) (z, P, M1) _
  refine e_vret (k := 45) (xi16 45) ?_
  refine ⟨M1, rfl, ?_, ?_, ?_, ?_, ?_, ?_, ?_, ?_, ?_, ?_, ?_, ?_⟩
  · intro b j h
    rw [f1 _ _ (by omega), x_cp_ne (by omega), x_cp_ne (by omega), x_cp_ne (by omega), x_up_ne (by omega), x_up_ne (by omega), x_up_ne (by omega), x_up_ne (by omega)]
  · rw [f1 _ _ (by omega), x_cp_ne (by omega), x_cp_ne (by omega), x_cp_ne (by omega), x_up_nk (by omega), x_up_nk (by omega), x_up_nk (by omega), x_up_nk (by omega)]
  · rw [f1 _ _ (by omega), x_cp_ne (by omega), x_cp_ne (by omega), x_cp_ne (by omega), x_up_nk (by omega), x_up_nk (by omega), x_up_nk (by omega), x_up_self]
  · rw [f1 _ _ (by omega), x_cp_ne (by omega), x_cp_ne (by omega), x_cp_ne (by omega), x_up_nk (by omega), x_up_nk (by omega), x_up_self]
  · rw [f1 _ _ (by omega), x_cp_ne (by omega), x_cp_ne (by omega), x_cp_ne (by omega), x_up_nk (by omega), x_up_self]
  · rw [f1 _ _ (by omega), x_cp_ne (by omega), x_cp_ne (by omega), x_cp_ne (by omega), x_up_self]
  · intro j hj
    rw [f1 _ _ (by omega), x_cp_ne (by omega), x_cp_ne (by omega), x_cp_at (by omega), x_up_ne (by omega), x_up_ne (by omega), x_up_ne (by omega), x_up_ne (by omega)]
  · intro j hj
    rw [f1 _ _ (by omega), x_cp_ne (by omega), x_cp_at (by omega), x_cp_ne (by omega), x_up_ne (by omega), x_up_ne (by omega), x_up_ne (by omega), x_up_ne (by omega)]
  · intro j hj
    rw [f1 _ _ (by omega), x_cp_at (by omega), x_cp_ne (by omega), x_cp_ne (by omega), x_up_ne (by omega), x_up_ne (by omega), x_up_ne (by omega), x_up_ne (by omega)]
  · rw [g0, x_cp_ne (by omega), x_cp_ne (by omega), x_cp_ne (by omega), x_up_ne (by omega), x_up_ne (by omega), x_up_ne (by omega), x_up_ne (by omega)]
  · intro j hj
    rw [g1 j hj, x_cp_ne (by omega), x_cp_ne (by omega), x_cp_ne (by omega), x_up_ne (by omega), x_up_ne (by omega), x_up_ne (by omega), x_up_ne (by omega)]
  · intro j hj
    rw [g2 j hj, x_cp_ne (by omega), x_cp_ne (by omega), x_cp_ne (by omega), x_up_ne (by omega), x_up_ne (by omega), x_up_ne (by omega), x_up_ne (by omega)]
theorem x_P2 {f g : Int → Int → Int} {a b c d j : Int} (h : f a j = g c j) (ha : b = a) (hc : d = c) : f b j = g d j := by rw [ha, hc, h]
theorem ks_of {o i : Int} (hb : x_HB o) (hi : 0 ≤ i ∧ i < 12) : x_KS (2 + 7 * i + o) := ⟨x_kb hb (tk_st hi) (by omega) (by omega), ⟨x_kb hb (tk_con hi) (by omega) (by omega), x_lb hb (tl_con hi) (by omega) (by omega)⟩, ⟨x_kb hb (tk_len hi) (by omega) (by omega), x_lb hb (tl_len hi) (by omega) (by omega)⟩, ⟨x_kb hb (tk_oth hi) (by omega) (by omega), x_lb hb (tl_oth hi) (by omega) (by omega)⟩, x_kb hb (tk_dem hi) (by omega) (by omega), ⟨x_kb hb (tk_br hi) (by omega) (by omega), x_lb hb (tl_br hi) (by omega) (by omega)⟩, x_kb hb (tk_wa hi) (by omega) (by omega), x_lb hb (tl_wa hi) (by omega) (by omega)⟩
theorem ps_of {o i : Int} {P : Int → Int → Int} (h : x_TP o P) (hi : 0 ≤ i ∧ i < 12) : x_PS P (2 + 7 * i + o) := by
  obtain ⟨a1, a2, a3, a4, a5, a6, a7⟩ := h.2.1 i hi
  exact ⟨⟨x_Pe a2 (by omega) (by omega), x_Pe a3 (by omega) (by omega), x_Pe a4 (by omega) (by omega), x_Pe a5 (by omega) (by omega)⟩, x_Pe a6 (by omega) (by omega), x_Pe a7 (by omega) (by omega)⟩
def x_CS (o u s : Int) (M M0 : Int → Int → Int) : Prop := (M (2 + 7 * s + o) 1 = M0 (2 + 7 * s + u) 1 ∧ M (2 + 7 * s + o) 5 = M0 (2 + 7 * s + u) 5 ∧ M (2 + 7 * s + o) 6 = M0 (2 + 7 * s + u) 6 ∧ M (2 + 7 * s + o) 7 = M0 (2 + 7 * s + u) 7) ∧ (∀ j, 0 ≤ j ∧ j < 12 → M (3 + 7 * s + o) j = M0 (3 + 7 * s + u) j) ∧ (∀ j, 0 ≤ j ∧ j < 12 → M (4 + 7 * s + o) j = M0 (4 + 7 * s + u) j) ∧ (∀ j, 0 ≤ j ∧ j < 8 → M (5 + 7 * s + o) j = M0 (5 + 7 * s + u) j) ∧ M (6 + 7 * s + o) 0 = M0 (6 + 7 * s + u) 0 ∧ (∀ j, 0 ≤ j ∧ j < 24 → M (7 + 7 * s + o) j = M0 (7 + 7 * s + u) j) ∧ ∀ j, 0 ≤ j ∧ j < 24 → M (8 + 7 * s + o) j = M0 (8 + 7 * s + u) j
def x_C1 (o u n : Int) (M M0 : Int → Int → Int) : Prop := (∀ b j, (b < o ∨ 154 + o ≤ b) → M b j = M0 b j) ∧ x_TM o M ∧ (M o 1 = M0 u 1 ∧ M o 3 = M0 u 3 ∧ M o 5 = M0 u 5 ∧ M o 6 = M0 u 6) ∧ ∀ s, 0 ≤ s ∧ s < n → x_CS o u s M M0
def x_C2 (o u n : Int) (M M0 : Int → Int → Int) : Prop := x_C1 o u 12 M M0 ∧ ∀ w, 0 ≤ w ∧ w < n → ∀ j, 1 ≤ j ∧ j ≤ 9 → M (87 + w + o) j = M0 (87 + w + u) j
def x_C3 (o u n : Int) (M M0 : Int → Int → Int) : Prop := x_C2 o u 60 M M0 ∧ ∀ c, 0 ≤ c ∧ c < n → (M (148 + 2 * c + o) 1 = M0 (148 + 2 * c + u) 1 ∧ M (148 + 2 * c + o) 2 = M0 (148 + 2 * c + u) 2 ∧ M (148 + 2 * c + o) 3 = M0 (148 + 2 * c + u) 3 ∧ M (148 + 2 * c + o) 4 = M0 (148 + 2 * c + u) 4 ∧ M (148 + 2 * c + o) 6 = M0 (148 + 2 * c + u) 6) ∧ ∀ j, 0 ≤ j ∧ j < 8 → M (149 + 2 * c + o) j = M0 (149 + 2 * c + u) j
theorem cs_fr {o u s : Int} {M M' M0 : Int → Int → Int} (h : x_CS o u s M M0) (f : ∀ b j, 2 + 7 * s + o ≤ b → b ≤ 8 + 7 * s + o → M' b j = M b j) : x_CS o u s M' M0 := by
  obtain ⟨⟨a1, a2, a3, a4⟩, b1, b2, b3, b4, b5, b6⟩ := h
  exact ⟨⟨(f _ _ (by omega) (by omega)).trans a1, (f _ _ (by omega) (by omega)).trans a2, (f _ _ (by omega) (by omega)).trans a3, (f _ _ (by omega) (by omega)).trans a4⟩, fun j hj => (f _ _ (by omega) (by omega)).trans (b1 j hj), fun j hj => (f _ _ (by omega) (by omega)).trans (b2 j hj), fun j hj => (f _ _ (by omega) (by omega)).trans (b3 j hj), (f _ _ (by omega) (by omega)).trans b4, fun j hj => (f _ _ (by omega) (by omega)).trans (b5 j hj), fun j hj => (f _ _ (by omega) (by omega)).trans (b6 j hj)⟩
theorem c1_fr {o u n : Int} {M M' M0 : Int → Int → Int} (h : x_C1 o u n M M0) (hn : 0 ≤ n) (g : ∀ b j, (b < o ∨ 154 + o ≤ b) → M' b j = M b j) (f : ∀ b j, o ≤ b → b < 2 + 7 * n + o → M' b j = M b j) (hS : ∀ s, 0 ≤ s ∧ s < 12 → M' (o + 2 + 7 * s) 0 = M (o + 2 + 7 * s) 0) (hW : ∀ s, 0 ≤ s ∧ s < 60 → M' (o + 87 + s) 0 = M (o + 87 + s) 0) (hC : ∀ s, 0 ≤ s ∧ s < 3 → M' (o + 148 + 2 * s) 0 = M (o + 148 + 2 * s) 0) : x_C1 o u n M' M0 := by
  obtain ⟨h1, ⟨a1, a2, a3⟩, ⟨b1, b2, b3, b4⟩, h4⟩ := h
  exact ⟨fun b j q => (g b j q).trans (h1 b j q), ⟨fun s hs => (hS s hs).trans (a1 s hs), fun s hs => (hW s hs).trans (a2 s hs), fun s hs => (hC s hs).trans (a3 s hs)⟩, ⟨(f _ _ (by omega) (by omega)).trans b1, (f _ _ (by omega) (by omega)).trans b2, (f _ _ (by omega) (by omega)).trans b3, (f _ _ (by omega) (by omega)).trans b4⟩, fun s hs => cs_fr (h4 s hs) (fun b j q1 q2 => f b j (by omega) (by omega))⟩
theorem c_ct1 {z o u : Int} {P M0 : Int → Int → Int} {r : Option xV × xH → Prop} (ho : 0 ≤ o ∧ 154 + o ≤ z) (hu : 0 ≤ u ∧ 154 + u ≤ z) (hob : x_HB o) (hub : x_HB u) (hpo : x_TP o P) (hpu : x_TP u P) (hou : 154 + o ≤ u ∨ 154 + u ≤ o) (hz : x_TZ u M0) (kk : ∀ M, x_C1 o u 12 M M0 → x_Ev 39 32 [.inr (o), .inr (u), .inl 12] [] (0, 0) (z, P, M) r) : ∀ (k : Nat) (i : Int) (M : Int → Int → Int), i + k = 12 → 0 ≤ i → x_C1 o u i M M0 → x_Ev 39 18 [.inr (o), .inr (u), .inl (i)] [] (0, 0) (z, P, M) r := by
  intro k
  induction k with
  | zero =>
    intro i M he hi hT
    have hi2 : i = 12 := by omega
    subst hi2
    refine e_iload (k := 18) (xi39 18) rfl ?_
    refine e_iconst (k := 19) (xi39 19) ?_
    refine e_c_ge (k := 20) (xi39 20) (fun _ => ?_) (fun q => absurd (by omega) q)
    exact kk _ hT
  | succ k ih =>
    intro i M he hi hT
    have hi12 : 0 ≤ i ∧ i < 12 := by omega
    refine e_iload (k := 18) (xi39 18) rfl ?_
    refine e_iconst (k := 19) (xi39 19) ?_
    refine e_c_ge (k := 20) (xi39 20) (fun q => absurd q (by omega)) (fun _ => ?_)
    refine e_aload (k := 21) (xi39 21) rfl (by omega) ?_
    refine e_getR (j := 0) (w := 1 + o) (k := 22) (xi39 22) ⟨by omega, by omega, (x_kb hob (show x_tk 0 = 4 by decide) (by omega) (by omega))⟩ rfl (x_Pe hpo.1.1 (by omega) (by omega)) ?_
    refine e_iload (k := 23) (xi39 23) rfl ?_
    refine e_aald (w := 2 + 7 * i + o) (k := 24) (xi39 24) (x_ok4 ⟨by omega, by omega, (x_kb hob (show x_tk 1 = 11 by decide) (by omega) (by omega))⟩ (by decide)) (by rw [(x_lb hob (show x_tl 1 = 12 by decide) (by omega) (by omega))]; omega) (x_Pe (hpo.2.1 i hi12).1 (by omega) (by omega)) ?_
    refine e_aload (k := 25) (xi39 25) rfl (by omega) ?_
    refine e_getR (j := 0) (w := 1 + u) (k := 26) (xi39 26) ⟨by omega, by omega, (x_kb hub (show x_tk 0 = 4 by decide) (by omega) (by omega))⟩ rfl (x_Pe hpu.1.1 (by omega) (by omega)) ?_
    refine e_iload (k := 27) (xi39 27) rfl ?_
    refine e_aald (w := 2 + 7 * i + u) (k := 28) (xi39 28) (x_ok4 ⟨by omega, by omega, (x_kb hub (show x_tk 1 = 11 by decide) (by omega) (by omega))⟩ (by decide)) (by rw [(x_lb hub (show x_tl 1 = 12 by decide) (by omega) (by omega))]; omega) (x_Pe (hpu.2.1 i hi12).1 (by omega) (by omega)) ?_
    refine e_callR (k := 29) (c1 := 0) (c2 := 0) (rest := []) (as := [.inr (2 + 7 * i + o), .inr (2 + 7 * i + u)]) (xi39 29) (by decide) xm16 rfl ⟨rfl, Nat.le_of_ble_eq_true rfl, by decide⟩ (Or.inr (x_okt ⟨by omega, by omega, (ks_of hob hi12).1⟩)) (c_cps (z := z) (a := 2 + 7 * i + o) (c := 2 + 7 * i + u) (P := P) (M := M) (by omega) (by omega) (ks_of hob hi12) (ks_of hub hi12) (ps_of hpo hi12) (ps_of hpu hi12) (by omega) (by rw [hT.1 _ _ (by omega), show 4 + (2 + 7 * i + u) = u + 6 + 7 * i by omega]; exact hz.1 i hi12)) ?_
    rintro v h1 ⟨M1, hq, f1, g0, g1, g5, g6, g7, e1, e2, e3, d0, d1, d2⟩
    cases hq
    show x_Ev 39 30 [.inr (o), .inr (u), .inl (i)] [] (0, 0) (z, P, M1) _
    refine e_iinc (w := 1 + i) (k := 30) (xi39 30) rfl (x_wn (by omega)) ?_
    show x_Ev 39 31 [.inr (o), .inr (u), .inl (1 + i)] [] (0, 0) (z, P, M1) _
    refine e_goto (k := 31) (xi39 31) ?_
    refine ih (1 + i) _ (by omega) (by omega) ?_
    have hT' := c1_fr (M' := M1) hT hi (fun b j q => f1 b j (by omega)) (fun b j q1 q2 => f1 b j (by omega)) (fun s hs => by
      by_cases q : s = i
      · subst q; rw [show o + 2 + 7 * s = 2 + 7 * s + o by omega]; exact g0
      · exact f1 _ _ (by omega)) (fun s hs => f1 _ _ (by omega)) (fun s hs => f1 _ _ (by omega))
    refine ⟨hT'.1, hT'.2.1, hT'.2.2.1, fun s hs => ?_⟩
    by_cases q : s = i
    · subst q
      exact ⟨⟨g1.trans (hT.1 _ _ (by omega)), g5.trans (hT.1 _ _ (by omega)), g6.trans (hT.1 _ _ (by omega)), g7.trans (hT.1 _ _ (by omega))⟩, fun j hj => (x_P2 (e1 j hj) (by omega) (show 3 + 7 * s + u = _ by omega)).trans (hT.1 _ _ (by omega)), fun j hj => (x_P2 (e2 j hj) (by omega) (show 4 + 7 * s + u = _ by omega)).trans (hT.1 _ _ (by omega)), fun j hj => (x_P2 (e3 j hj) (by omega) (show 5 + 7 * s + u = _ by omega)).trans (hT.1 _ _ (by omega)), (x_P2 d0 (by omega) (show 6 + 7 * s + u = _ by omega)).trans (hT.1 _ _ (by omega)), fun j hj => (x_P2 (d1 j hj) (by omega) (show 7 + 7 * s + u = _ by omega)).trans (hT.1 _ _ (by omega)), fun j hj => (x_P2 (d2 j hj) (by omega) (show 8 + 7 * s + u = _ by omega)).trans (hT.1 _ _ (by omega))⟩
    · exact hT'.2.2.2 s (by omega)
theorem c_ct2 {z o u : Int} {P M0 : Int → Int → Int} {r : Option xV × xH → Prop} (ho : 0 ≤ o ∧ 154 + o ≤ z) (hu : 0 ≤ u ∧ 154 + u ≤ z) (hob : x_HB o) (hub : x_HB u) (hpo : x_TP o P) (hpu : x_TP u P) (hou : 154 + o ≤ u ∨ 154 + u ≤ o) (hz : x_TZ u M0) (kk : ∀ M, x_C2 o u 60 M M0 → x_Ev 39 48 [.inr (o), .inr (u), .inl 60] [] (0, 0) (z, P, M) r) : ∀ (k : Nat) (i : Int) (M : Int → Int → Int), i + k = 60 → 0 ≤ i → x_C2 o u i M M0 → x_Ev 39 34 [.inr (o), .inr (u), .inl (i)] [] (0, 0) (z, P, M) r := by
  intro k
  induction k with
  | zero =>
    intro i M he hi hT
    have hi2 : i = 60 := by omega
    subst hi2
    refine e_iload (k := 34) (xi39 34) rfl ?_
    refine e_iconst (k := 35) (xi39 35) ?_
    refine e_c_ge (k := 36) (xi39 36) (fun _ => ?_) (fun q => absurd (by omega) q)
    exact kk _ hT
  | succ k ih =>
    intro i M he hi hT
    have hi12 : 0 ≤ i ∧ i < 60 := by omega
    refine e_iload (k := 34) (xi39 34) rfl ?_
    refine e_iconst (k := 35) (xi39 35) ?_
    refine e_c_ge (k := 36) (xi39 36) (fun q => absurd q (by omega)) (fun _ => ?_)
    refine e_aload (k := 37) (xi39 37) rfl (by omega) ?_
    refine e_getR (j := 2) (w := 86 + o) (k := 38) (xi39 38) ⟨by omega, by omega, (x_kb hob (show x_tk 0 = 4 by decide) (by omega) (by omega))⟩ rfl (x_Pe hpo.1.2.1 (by omega) (by omega)) ?_
    refine e_iload (k := 39) (xi39 39) rfl ?_
    refine e_aald (w := 87 + i + o) (k := 40) (xi39 40) (x_ok4 ⟨by omega, by omega, (x_kb hob (show x_tk 86 = 13 by decide) (by omega) (by omega))⟩ (by decide)) (by rw [(x_lb hob (show x_tl 86 = 60 by decide) (by omega) (by omega))]; omega) (x_Pe (hpo.2.2.1 i hi12) (by omega) (by omega)) ?_
    refine e_aload (k := 41) (xi39 41) rfl (by omega) ?_
    refine e_getR (j := 2) (w := 86 + u) (k := 42) (xi39 42) ⟨by omega, by omega, (x_kb hub (show x_tk 0 = 4 by decide) (by omega) (by omega))⟩ rfl (x_Pe hpu.1.2.1 (by omega) (by omega)) ?_
    refine e_iload (k := 43) (xi39 43) rfl ?_
    refine e_aald (w := 87 + i + u) (k := 44) (xi39 44) (x_ok4 ⟨by omega, by omega, (x_kb hub (show x_tk 86 = 13 by decide) (by omega) (by omega))⟩ (by decide)) (by rw [(x_lb hub (show x_tl 86 = 60 by decide) (by omega) (by omega))]; omega) (x_Pe (hpu.2.2.1 i hi12) (by omega) (by omega)) ?_
    refine e_callR (k := 45) (c1 := 0) (c2 := 0) (rest := []) (as := [.inr (87 + i + o), .inr (87 + i + u)]) (xi39 45) (by decide) xm67 rfl ⟨rfl, Nat.le_of_ble_eq_true rfl, by decide⟩ (Or.inr (x_okt ⟨by omega, by omega, (x_kb hob (tk_wh hi12) (by omega) (by omega))⟩)) (c_cpw (z := z) (a := 87 + i + o) (c := 87 + i + u) (P := P) (M := M) ⟨by omega, by omega, x_kb hob (tk_wh hi12) (by omega) (by omega)⟩ ⟨by omega, by omega, x_kb hub (tk_wh hi12) (by omega) (by omega)⟩ (by omega) (by rw [hT.1.1 _ _ (by omega), hT.1.1 _ _ (by omega), show 87 + i + u = u + 87 + i by omega]; exact hz.2 i hi12)) ?_
    rintro v h1 ⟨M1, hq, f1, g0, g1⟩
    cases hq
    show x_Ev 39 46 [.inr (o), .inr (u), .inl (i)] [] (0, 0) (z, P, M1) _
    refine e_iinc (w := 1 + i) (k := 46) (xi39 46) rfl (x_wn (by omega)) ?_
    show x_Ev 39 47 [.inr (o), .inr (u), .inl (1 + i)] [] (0, 0) (z, P, M1) _
    refine e_goto (k := 47) (xi39 47) ?_
    refine ih (1 + i) _ (by omega) (by omega) ?_
    have hT' := c1_fr (M' := M1) hT.1 (by omega) (fun b j q => f1 b j (by omega)) (fun b j q1 q2 => f1 b j (by omega)) (fun s hs => f1 _ _ (by omega)) (fun s hs => by
      by_cases q : s = i
      · subst q; rw [show o + 87 + s = 87 + s + o by omega]; exact g0
      · exact f1 _ _ (by omega)) (fun s hs => f1 _ _ (by omega))
    refine ⟨hT', fun s hs j hj => ?_⟩
    by_cases q : s = i
    · subst q
      exact (g1 j hj).trans (hT.1.1 _ _ (by omega))
    · exact (f1 _ _ (by omega)).trans (hT.2 s (by omega) j hj)
theorem c_ct3 {z o u : Int} {P M0 : Int → Int → Int} {r : Option xV × xH → Prop} (ho : 0 ≤ o ∧ 154 + o ≤ z) (hu : 0 ≤ u ∧ 154 + u ≤ z) (hob : x_HB o) (hub : x_HB u) (hpo : x_TP o P) (hpu : x_TP u P) (hou : 154 + o ≤ u ∨ 154 + u ≤ o) (hz : x_TZ u M0) (kk : ∀ M, x_C3 o u 3 M M0 → x_Ev 39 64 [.inr (o), .inr (u), .inl 3] [] (0, 0) (z, P, M) r) : ∀ (k : Nat) (i : Int) (M : Int → Int → Int), i + k = 3 → 0 ≤ i → x_C3 o u i M M0 → x_Ev 39 50 [.inr (o), .inr (u), .inl (i)] [] (0, 0) (z, P, M) r := by
  intro k
  induction k with
  | zero =>
    intro i M he hi hT
    have hi2 : i = 3 := by omega
    subst hi2
    refine e_iload (k := 50) (xi39 50) rfl ?_
    refine e_iconst (k := 51) (xi39 51) ?_
    refine e_c_ge (k := 52) (xi39 52) (fun _ => ?_) (fun q => absurd (by omega) q)
    exact kk _ hT
  | succ k ih =>
    intro i M he hi hT
    have hi12 : 0 ≤ i ∧ i < 3 := by omega
    refine e_iload (k := 50) (xi39 50) rfl ?_
    refine e_iconst (k := 51) (xi39 51) ?_
    refine e_c_ge (k := 52) (xi39 52) (fun q => absurd q (by omega)) (fun _ => ?_)
    refine e_aload (k := 53) (xi39 53) rfl (by omega) ?_
    refine e_getR (j := 4) (w := 147 + o) (k := 54) (xi39 54) ⟨by omega, by omega, (x_kb hob (show x_tk 0 = 4 by decide) (by omega) (by omega))⟩ rfl (x_Pe hpo.1.2.2 (by omega) (by omega)) ?_
    refine e_iload (k := 55) (xi39 55) rfl ?_
    refine e_aald (w := 148 + 2 * i + o) (k := 56) (xi39 56) (x_ok4 ⟨by omega, by omega, (x_kb hob (show x_tk 147 = 10 by decide) (by omega) (by omega))⟩ (by decide)) (by rw [(x_lb hob (show x_tl 147 = 3 by decide) (by omega) (by omega))]; omega) (x_Pe (hpo.2.2.2 i hi12).1 (by omega) (by omega)) ?_
    refine e_aload (k := 57) (xi39 57) rfl (by omega) ?_
    refine e_getR (j := 4) (w := 147 + u) (k := 58) (xi39 58) ⟨by omega, by omega, (x_kb hub (show x_tk 0 = 4 by decide) (by omega) (by omega))⟩ rfl (x_Pe hpu.1.2.2 (by omega) (by omega)) ?_
    refine e_iload (k := 59) (xi39 59) rfl ?_
    refine e_aald (w := 148 + 2 * i + u) (k := 60) (xi39 60) (x_ok4 ⟨by omega, by omega, (x_kb hub (show x_tk 147 = 10 by decide) (by omega) (by omega))⟩ (by decide)) (by rw [(x_lb hub (show x_tl 147 = 3 by decide) (by omega) (by omega))]; omega) (x_Pe (hpu.2.2.2 i hi12).1 (by omega) (by omega)) ?_
    refine e_callR (k := 61) (c1 := 0) (c2 := 0) (rest := []) (as := [.inr (148 + 2 * i + o), .inr (148 + 2 * i + u)]) (xi39 61) (by decide) xm2 rfl ⟨rfl, Nat.le_of_ble_eq_true rfl, by decide⟩ (Or.inr (x_okt ⟨by omega, by omega, (x_kb hob (tk_ca hi12) (by omega) (by omega))⟩)) (c_cpc (z := z) (a := 148 + 2 * i + o) (c := 148 + 2 * i + u) (P := P) (M := M) ⟨by omega, by omega, x_kb hob (tk_ca hi12) (by omega) (by omega), x_kb hob (tk_row hi12) (by omega) (by omega), x_lb hob (tl_row hi12) (by omega) (by omega)⟩ ⟨by omega, by omega, x_kb hub (tk_ca hi12) (by omega) (by omega), x_kb hub (tk_row hi12) (by omega) (by omega), x_lb hub (tl_row hi12) (by omega) (by omega)⟩ ⟨x_Pe (hpo.2.2.2 i hi12).2 (by omega) (by omega), x_Pe (hpu.2.2.2 i hi12).2 (by omega) (by omega)⟩ (by omega)) ?_
    rintro v h1 ⟨M1, hq, f1, g0, g1, g2, g3, g4, g6, e1⟩
    cases hq
    show x_Ev 39 62 [.inr (o), .inr (u), .inl (i)] [] (0, 0) (z, P, M1) _
    refine e_iinc (w := 1 + i) (k := 62) (xi39 62) rfl (x_wn (by omega)) ?_
    show x_Ev 39 63 [.inr (o), .inr (u), .inl (1 + i)] [] (0, 0) (z, P, M1) _
    refine e_goto (k := 63) (xi39 63) ?_
    refine ih (1 + i) _ (by omega) (by omega) ?_
    have hT' := c1_fr (M' := M1) hT.1.1 (by omega) (fun b j q => f1 b j (by omega)) (fun b j q1 q2 => f1 b j (by omega)) (fun s hs => f1 _ _ (by omega)) (fun s hs => f1 _ _ (by omega)) (fun s hs => by
      by_cases q : s = i
      · subst q; rw [show o + 148 + 2 * s = 148 + 2 * s + o by omega]; exact g0
      · exact f1 _ _ (by omega))
    refine ⟨⟨hT', fun s hs j hj => (f1 _ _ (by omega)).trans (hT.1.2 s hs j hj)⟩, fun s hs => ?_⟩
    by_cases q : s = i
    · subst q
      exact ⟨⟨g1.trans (hT.1.1.1 _ _ (by omega)), g2.trans (hT.1.1.1 _ _ (by omega)), g3.trans (hT.1.1.1 _ _ (by omega)), g4.trans (hT.1.1.1 _ _ (by omega)), g6.trans (hT.1.1.1 _ _ (by omega))⟩, fun j hj => (x_P2 (e1 j hj) (by omega) (show 149 + 2 * s + u = _ by omega)).trans (hT.1.1.1 _ _ (by omega))⟩
    · obtain ⟨⟨a1, a2, a3, a4, a6⟩, b⟩ := hT.2 s (by omega)
      exact ⟨⟨(f1 _ _ (by omega)).trans a1, (f1 _ _ (by omega)).trans a2, (f1 _ _ (by omega)).trans a3, (f1 _ _ (by omega)).trans a4, (f1 _ _ (by omega)).trans a6⟩, fun j hj => (f1 _ _ (by omega)).trans (b j hj)⟩
theorem c_copy {z o u : Int} {P M : Int → Int → Int} (ho : 0 ≤ o ∧ 154 + o ≤ z) (hu : 0 ≤ u ∧ 154 + u ≤ z) (hob : x_HB o) (hub : x_HB u) (hpo : x_TP o P) (hpu : x_TP u P) (hou : 154 + o ≤ u ∨ 154 + u ≤ o) (hz : x_TZ u M) (hm : x_TM o M) : x_CallR 39 [.inr (o), .inr (u)] (z, P, M) (fun q => ∃ M1, q = (none, (z, P, M1)) ∧ x_C3 o u 3 M1 M) := by
  refine e_body (ls0 := [.inr (o), .inr (u), x_un]) xm39 rfl ?_
  refine e_aload (k := 0) (xi39 0) rfl (by omega) ?_
  refine e_aload (k := 1) (xi39 1) rfl (by omega) ?_
  refine e_getI (j := 1) (w := M u 1) (k := 2) (xi39 2) ⟨by omega, by omega, (x_kb hub (show x_tk 0 = 4 by decide) (by omega) (by omega))⟩ rfl rfl ?_
  refine e_putI (j := 1) (k := 3) (xi39 3) ⟨by omega, by omega, (x_kb hob (show x_tk 0 = 4 by decide) (by omega) (by omega))⟩ rfl ?_
  refine e_aload (k := 4) (xi39 4) rfl (by omega) ?_
  refine e_aload (k := 5) (xi39 5) rfl (by omega) ?_
  refine e_getI (j := 3) (w := M u 3) (k := 6) (xi39 6) ⟨by omega, by omega, (x_kb hub (show x_tk 0 = 4 by decide) (by omega) (by omega))⟩ rfl (by rw [x_up_ne (by omega)]) ?_
  refine e_putI (j := 3) (k := 7) (xi39 7) ⟨by omega, by omega, (x_kb hob (show x_tk 0 = 4 by decide) (by omega) (by omega))⟩ rfl ?_
  refine e_aload (k := 8) (xi39 8) rfl (by omega) ?_
  refine e_aload (k := 9) (xi39 9) rfl (by omega) ?_
  refine e_getI (j := 5) (w := M u 5) (k := 10) (xi39 10) ⟨by omega, by omega, (x_kb hub (show x_tk 0 = 4 by decide) (by omega) (by omega))⟩ rfl (by rw [x_up_ne (by omega), x_up_ne (by omega)]) ?_
  refine e_putI (j := 5) (k := 11) (xi39 11) ⟨by omega, by omega, (x_kb hob (show x_tk 0 = 4 by decide) (by omega) (by omega))⟩ rfl ?_
  refine e_aload (k := 12) (xi39 12) rfl (by omega) ?_
  refine e_aload (k := 13) (xi39 13) rfl (by omega) ?_
  refine e_getI (j := 6) (w := M u 6) (k := 14) (xi39 14) ⟨by omega, by omega, (x_kb hub (show x_tk 0 = 4 by decide) (by omega) (by omega))⟩ rfl (by rw [x_up_ne (by omega), x_up_ne (by omega), x_up_ne (by omega)]) ?_
  refine e_putI (j := 6) (k := 15) (xi39 15) ⟨by omega, by omega, (x_kb hob (show x_tk 0 = 4 by decide) (by omega) (by omega))⟩ rfl ?_
  refine e_iconst (k := 16) (xi39 16) ?_
  refine e_istore (k := 17) (xi39 17) (Nat.le_of_ble_eq_true rfl) ?_
  show x_Ev 39 18 [.inr (o), .inr (u), .inl 0] [] (0, 0) (z, P, (x_up (x_up (x_up (x_up M o 1 (M u 1)) o 3 (M u 3)) o 5 (M u 5)) o 6 (M u 6))) _
  refine c_ct1 (M0 := M) ho hu hob hub hpo hpu hou hz (fun M1 hT1 => ?_) 12 0 _ (by omega) (by omega) ?_
  rotate_left
  · refine ⟨fun b j h => ?_, ⟨fun s hs => ?_, fun s hs => ?_, fun s hs => ?_⟩, ⟨?_, ?_, ?_, ?_⟩, fun s hs => absurd hs (by omega)⟩
    · rw [x_up_ne (by omega), x_up_ne (by omega), x_up_ne (by omega), x_up_ne (by omega)]
    · rw [x_up_ne (by omega), x_up_ne (by omega), x_up_ne (by omega), x_up_ne (by omega)]; exact hm.1 s hs
    · rw [x_up_ne (by omega), x_up_ne (by omega), x_up_ne (by omega), x_up_ne (by omega)]; exact hm.2.1 s hs
    · rw [x_up_ne (by omega), x_up_ne (by omega), x_up_ne (by omega), x_up_ne (by omega)]; exact hm.2.2 s hs
    · rw [x_up_nk (by omega), x_up_nk (by omega), x_up_nk (by omega), x_up_self]
    · rw [x_up_nk (by omega), x_up_nk (by omega), x_up_self]
    · rw [x_up_nk (by omega), x_up_self]
    · rw [x_up_self]
  · refine e_iconst (k := 32) (xi39 32) ?_
    refine e_istore (k := 33) (xi39 33) (Nat.le_of_ble_eq_true rfl) ?_
    show x_Ev 39 34 [.inr (o), .inr (u), .inl 0] [] (0, 0) (z, P, M1) _
    refine c_ct2 (M0 := M) ho hu hob hub hpo hpu hou hz (fun M2 hT2 => ?_) 60 0 _ (by omega) (by omega) ⟨hT1, fun s hs => absurd hs (by omega)⟩
    refine e_iconst (k := 48) (xi39 48) ?_
    refine e_istore (k := 49) (xi39 49) (Nat.le_of_ble_eq_true rfl) ?_
    show x_Ev 39 50 [.inr (o), .inr (u), .inl 0] [] (0, 0) (z, P, M2) _
    refine c_ct3 (M0 := M) ho hu hob hub hpo hpu hou hz (fun M3 hT3 => ?_) 3 0 _ (by omega) (by omega) ⟨hT2, fun s hs => absurd hs (by omega)⟩
    exact e_vret (k := 64) (xi39 64) ⟨M3, rfl, hT3⟩
