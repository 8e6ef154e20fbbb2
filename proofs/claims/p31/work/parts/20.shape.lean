/-! THE SHAPE: where the cells of the two objects lie, what they point to -/
def x_TP (o : Int) (P : Int → Int → Int) : Prop := (P o 0 = o + 1 ∧ P o 2 = o + 86 ∧ P o 4 = o + 147) ∧ (∀ s, 0 ≤ s ∧ s < 12 → P (o + 1) s = o + 2 + 7 * s ∧ P (o + 2 + 7 * s) 2 = o + 3 + 7 * s ∧ P (o + 2 + 7 * s) 3 = o + 4 + 7 * s ∧ P (o + 2 + 7 * s) 4 = o + 5 + 7 * s ∧ P (o + 2 + 7 * s) 8 = o + 6 + 7 * s ∧ P (o + 6 + 7 * s) 1 = o + 7 + 7 * s ∧ P (o + 6 + 7 * s) 2 = o + 8 + 7 * s) ∧ (∀ w, 0 ≤ w ∧ w < 60 → P (o + 86) w = o + 87 + w) ∧ (∀ c, 0 ≤ c ∧ c < 3 → P (o + 147) c = o + 148 + 2 * c ∧ P (o + 148 + 2 * c) 5 = o + 149 + 2 * c)
theorem x_Pe {P : Int → Int → Int} {a k v b w : Int} (h : P a k = v) (ha : b = a) (hv : v = w) : P b k = w := by rw [ha, h, hv]
def x_Sh (z : Int) (P : Int → Int → Int) : Prop := 170 ≤ z ∧ (P 0 0 = 1 ∧ P 0 1 = 155 ∧ P 0 2 = 156) ∧ x_TP 1 P ∧ (P 156 0 = 157 ∧ P 156 2 = 158 ∧ P 156 3 = 159 ∧ P 156 5 = 160 ∧ P 156 6 = 161) ∧ (P 162 0 = 163 ∧ P 162 1 = 164 ∧ P 162 5 = 165 ∧ P 162 6 = 166 ∧ P 162 8 = 167 ∧ P 162 9 = 168 ∧ P 162 10 = 169)
theorem tk_st {i : Int} (hi : 0 ≤ i ∧ i < 12) : x_tk (2 + 7 * i) = 2 := by
  unfold x_tk
  rw [if_neg (by omega), if_neg (by omega), if_pos (by omega), if_pos (by omega)]
theorem tk_con {i : Int} (hi : 0 ≤ i ∧ i < 12) : x_tk (3 + 7 * i) = 8 := by
  unfold x_tk
  rw [if_neg (by omega), if_neg (by omega), if_pos (by omega), if_neg (by omega), if_neg (by omega)]
theorem tk_len {i : Int} (hi : 0 ≤ i ∧ i < 12) : x_tk (4 + 7 * i) = 8 := by
  unfold x_tk
  rw [if_neg (by omega), if_neg (by omega), if_pos (by omega), if_neg (by omega), if_neg (by omega)]
theorem tk_oth {i : Int} (hi : 0 ≤ i ∧ i < 12) : x_tk (5 + 7 * i) = 8 := by
  unfold x_tk
  rw [if_neg (by omega), if_neg (by omega), if_pos (by omega), if_neg (by omega), if_neg (by omega)]
theorem tk_dem {i : Int} (hi : 0 ≤ i ∧ i < 12) : x_tk (6 + 7 * i) = 1 := by
  unfold x_tk
  rw [if_neg (by omega), if_neg (by omega), if_pos (by omega), if_neg (by omega), if_pos (by omega)]
theorem tk_br {i : Int} (hi : 0 ≤ i ∧ i < 12) : x_tk (7 + 7 * i) = 8 := by
  unfold x_tk
  rw [if_neg (by omega), if_neg (by omega), if_pos (by omega), if_neg (by omega), if_neg (by omega)]
theorem tk_wa {i : Int} (hi : 0 ≤ i ∧ i < 12) : x_tk (8 + 7 * i) = 8 := by
  unfold x_tk
  rw [if_neg (by omega), if_neg (by omega), if_pos (by omega), if_neg (by omega), if_neg (by omega)]
theorem tk_wh {i : Int} (hi : 0 ≤ i ∧ i < 60) : x_tk (87 + i) = 5 := by
  unfold x_tk
  rw [if_neg (by omega), if_neg (by omega), if_neg (by omega), if_neg (by omega), if_pos (by omega)]
theorem tk_ca {i : Int} (hi : 0 ≤ i ∧ i < 3) : x_tk (148 + 2 * i) = 0 := by
  unfold x_tk
  rw [if_neg (by omega), if_neg (by omega), if_neg (by omega), if_neg (by omega), if_neg (by omega), if_neg (by omega), if_pos (by omega)]
theorem tk_row {i : Int} (hi : 0 ≤ i ∧ i < 3) : x_tk (149 + 2 * i) = 8 := by
  unfold x_tk
  rw [if_neg (by omega), if_neg (by omega), if_neg (by omega), if_neg (by omega), if_neg (by omega), if_neg (by omega), if_neg (by omega)]
theorem kd_main {a o : Int} {c : Nat} (h : x_tk o = c) (ha : a = 1 + o) (h0 : 0 ≤ o ∧ o < 154) : x_kd a = c := by
  subst ha
  unfold x_kd
  rw [if_neg (by omega), if_pos (by omega), show 1 + o - 1 = o by omega, h]
theorem kd_img {a o j : Int} {c : Nat} (h : x_tk o = c) (ha : a = 170 + 154 * j + o) (h0 : 0 ≤ o ∧ o < 154) (hj : 0 ≤ j) : x_kd a = c := by
  subst ha
  unfold x_kd
  rw [if_neg (by omega), if_neg (by omega), if_neg (by omega), if_neg (by omega), if_neg (by omega), if_neg (by omega), if_neg (by omega), if_neg (by omega), show (170 + 154 * j + o - 170) % 154 = o by omega, h]
theorem ln_main {a o n : Int} (h : x_tl o = n) (ha : a = 1 + o) (h0 : 0 ≤ o ∧ o < 154) : x_ln a = n := by
  subst ha
  unfold x_ln
  rw [if_pos (by omega), show 1 + o - 1 = o by omega, h]
theorem ln_img {a o j n : Int} (h : x_tl o = n) (ha : a = 170 + 154 * j + o) (h0 : 0 ≤ o ∧ o < 154) (hj : 0 ≤ j) : x_ln a = n := by
  subst ha
  unfold x_ln
  rw [if_neg (by omega), if_neg (by omega), if_neg (by omega), if_neg (by omega), if_neg (by omega), if_neg (by omega), if_neg (by omega), if_neg (by omega), if_neg (by omega), show (170 + 154 * j + o - 170) % 154 = o by omega, h]
theorem tl_con {i : Int} (hi : 0 ≤ i ∧ i < 12) : x_tl (3 + 7 * i) = 12 := by
  unfold x_tl
  rw [if_neg (by omega), if_pos (by omega), if_pos (by omega)]
theorem tl_len {i : Int} (hi : 0 ≤ i ∧ i < 12) : x_tl (4 + 7 * i) = 12 := by
  unfold x_tl
  rw [if_neg (by omega), if_pos (by omega), if_neg (by omega), if_pos (by omega)]
theorem tl_oth {i : Int} (hi : 0 ≤ i ∧ i < 12) : x_tl (5 + 7 * i) = 8 := by
  unfold x_tl
  rw [if_neg (by omega), if_pos (by omega), if_neg (by omega), if_neg (by omega), if_pos (by omega)]
theorem tl_br {i : Int} (hi : 0 ≤ i ∧ i < 12) : x_tl (7 + 7 * i) = 24 := by
  unfold x_tl
  rw [if_neg (by omega), if_pos (by omega), if_neg (by omega), if_neg (by omega), if_neg (by omega)]
theorem tl_wa {i : Int} (hi : 0 ≤ i ∧ i < 12) : x_tl (8 + 7 * i) = 24 := by
  unfold x_tl
  rw [if_neg (by omega), if_pos (by omega), if_neg (by omega), if_neg (by omega), if_neg (by omega)]
theorem tl_row {i : Int} (hi : 0 ≤ i ∧ i < 3) : x_tl (149 + 2 * i) = 8 := by
  unfold x_tl
  rw [if_neg (by omega), if_neg (by omega), if_neg (by omega), if_neg (by omega)]
theorem ok_st {z i : Int} {P : Int → Int → Int} (hS : x_Sh z P) (hi : 0 ≤ i ∧ i < 12) : 0 ≤ 3 + 7 * i ∧ 3 + 7 * i < z ∧ x_kd (3 + 7 * i) = 2 := ⟨by omega, by have := hS.1; omega, kd_main (tk_st hi) (by omega) (by omega)⟩
theorem ok_con {z i : Int} {P : Int → Int → Int} (hS : x_Sh z P) (hi : 0 ≤ i ∧ i < 12) : 0 ≤ 4 + 7 * i ∧ 4 + 7 * i < z ∧ x_kd (4 + 7 * i) = 8 := ⟨by omega, by have := hS.1; omega, kd_main (tk_con hi) (by omega) (by omega)⟩
theorem ok_len {z i : Int} {P : Int → Int → Int} (hS : x_Sh z P) (hi : 0 ≤ i ∧ i < 12) : 0 ≤ 5 + 7 * i ∧ 5 + 7 * i < z ∧ x_kd (5 + 7 * i) = 8 := ⟨by omega, by have := hS.1; omega, kd_main (tk_len hi) (by omega) (by omega)⟩
theorem ok_oth {z i : Int} {P : Int → Int → Int} (hS : x_Sh z P) (hi : 0 ≤ i ∧ i < 12) : 0 ≤ 6 + 7 * i ∧ 6 + 7 * i < z ∧ x_kd (6 + 7 * i) = 8 := ⟨by omega, by have := hS.1; omega, kd_main (tk_oth hi) (by omega) (by omega)⟩
theorem ok_dem {z i : Int} {P : Int → Int → Int} (hS : x_Sh z P) (hi : 0 ≤ i ∧ i < 12) : 0 ≤ 7 + 7 * i ∧ 7 + 7 * i < z ∧ x_kd (7 + 7 * i) = 1 := ⟨by omega, by have := hS.1; omega, kd_main (tk_dem hi) (by omega) (by omega)⟩
theorem ok_br {z i : Int} {P : Int → Int → Int} (hS : x_Sh z P) (hi : 0 ≤ i ∧ i < 12) : 0 ≤ 8 + 7 * i ∧ 8 + 7 * i < z ∧ x_kd (8 + 7 * i) = 8 := ⟨by omega, by have := hS.1; omega, kd_main (tk_br hi) (by omega) (by omega)⟩
theorem ok_wa {z i : Int} {P : Int → Int → Int} (hS : x_Sh z P) (hi : 0 ≤ i ∧ i < 12) : 0 ≤ 9 + 7 * i ∧ 9 + 7 * i < z ∧ x_kd (9 + 7 * i) = 8 := ⟨by omega, by have := hS.1; omega, kd_main (tk_wa hi) (by omega) (by omega)⟩
theorem ok_wh {z i : Int} {P : Int → Int → Int} (hS : x_Sh z P) (hi : 0 ≤ i ∧ i < 60) : 0 ≤ 88 + i ∧ 88 + i < z ∧ x_kd (88 + i) = 5 := ⟨by omega, by have := hS.1; omega, kd_main (tk_wh hi) (by omega) (by omega)⟩
theorem ok_ca {z i : Int} {P : Int → Int → Int} (hS : x_Sh z P) (hi : 0 ≤ i ∧ i < 3) : 0 ≤ 149 + 2 * i ∧ 149 + 2 * i < z ∧ x_kd (149 + 2 * i) = 0 := ⟨by omega, by have := hS.1; omega, kd_main (tk_ca hi) (by omega) (by omega)⟩
theorem ok_row {z i : Int} {P : Int → Int → Int} (hS : x_Sh z P) (hi : 0 ≤ i ∧ i < 3) : 0 ≤ 150 + 2 * i ∧ 150 + 2 * i < z ∧ x_kd (150 + 2 * i) = 8 := ⟨by omega, by have := hS.1; omega, kd_main (tk_row hi) (by omega) (by omega)⟩
theorem ln_con {i : Int} (hi : 0 ≤ i ∧ i < 12) : x_ln (4 + 7 * i) = 12 := ln_main (tl_con hi) (by omega) (by omega)
theorem ln_len {i : Int} (hi : 0 ≤ i ∧ i < 12) : x_ln (5 + 7 * i) = 12 := ln_main (tl_len hi) (by omega) (by omega)
theorem ln_oth {i : Int} (hi : 0 ≤ i ∧ i < 12) : x_ln (6 + 7 * i) = 8 := ln_main (tl_oth hi) (by omega) (by omega)
theorem ln_br {i : Int} (hi : 0 ≤ i ∧ i < 12) : x_ln (8 + 7 * i) = 24 := ln_main (tl_br hi) (by omega) (by omega)
theorem ln_wa {i : Int} (hi : 0 ≤ i ∧ i < 12) : x_ln (9 + 7 * i) = 24 := ln_main (tl_wa hi) (by omega) (by omega)
theorem ln_row {i : Int} (hi : 0 ≤ i ∧ i < 3) : x_ln (150 + 2 * i) = 8 := ln_main (tl_row hi) (by omega) (by omega)
theorem ok_WS {z : Int} {P : Int → Int → Int} (hS : x_Sh z P) : 0 ≤ (0 : Int) ∧ (0 : Int) < z ∧ x_kd 0 = 6 := ⟨by omega, by have := hS.1; omega, by decide⟩
theorem ok_town {z : Int} {P : Int → Int → Int} (hS : x_Sh z P) : 0 ≤ (1 : Int) ∧ (1 : Int) < z ∧ x_kd 1 = 4 := ⟨by omega, by have := hS.1; omega, by decide⟩
theorem ok_stands {z : Int} {P : Int → Int → Int} (hS : x_Sh z P) : 0 ≤ (2 : Int) ∧ (2 : Int) < z ∧ x_kd 2 = 11 := ⟨by omega, by have := hS.1; omega, by decide⟩
theorem ok_whs {z : Int} {P : Int → Int → Int} (hS : x_Sh z P) : 0 ≤ (87 : Int) ∧ (87 : Int) < z ∧ x_kd 87 = 13 := ⟨by omega, by have := hS.1; omega, by decide⟩
theorem ok_cas {z : Int} {P : Int → Int → Int} (hS : x_Sh z P) : 0 ≤ (148 : Int) ∧ (148 : Int) < z ∧ x_kd 148 = 10 := ⟨by omega, by have := hS.1; omega, by decide⟩
theorem ok_imgs {z : Int} {P : Int → Int → Int} (hS : x_Sh z P) : 0 ≤ (155 : Int) ∧ (155 : Int) < z ∧ x_kd 155 = 12 := ⟨by omega, by have := hS.1; omega, by decide⟩
theorem ok_tour {z : Int} {P : Int → Int → Int} (hS : x_Sh z P) : 0 ≤ (156 : Int) ∧ (156 : Int) < z ∧ x_kd 156 = 3 := ⟨by omega, by have := hS.1; omega, by decide⟩
theorem ok_t0 {z : Int} {P : Int → Int → Int} (hS : x_Sh z P) : 0 ≤ (157 : Int) ∧ (157 : Int) < z ∧ x_kd 157 = 8 := ⟨by omega, by have := hS.1; omega, by decide⟩
theorem ok_t2 {z : Int} {P : Int → Int → Int} (hS : x_Sh z P) : 0 ≤ (158 : Int) ∧ (158 : Int) < z ∧ x_kd 158 = 8 := ⟨by omega, by have := hS.1; omega, by decide⟩
theorem ok_t3 {z : Int} {P : Int → Int → Int} (hS : x_Sh z P) : 0 ≤ (159 : Int) ∧ (159 : Int) < z ∧ x_kd 159 = 8 := ⟨by omega, by have := hS.1; omega, by decide⟩
theorem ok_t5 {z : Int} {P : Int → Int → Int} (hS : x_Sh z P) : 0 ≤ (160 : Int) ∧ (160 : Int) < z ∧ x_kd 160 = 8 := ⟨by omega, by have := hS.1; omega, by decide⟩
theorem ok_t6 {z : Int} {P : Int → Int → Int} (hS : x_Sh z P) : 0 ≤ (161 : Int) ∧ (161 : Int) < z ∧ x_kd 161 = 8 := ⟨by omega, by have := hS.1; omega, by decide⟩
theorem ok_mo {z : Int} {P : Int → Int → Int} (hS : x_Sh z P) : 0 ≤ (162 : Int) ∧ (162 : Int) < z ∧ x_kd 162 = 7 := ⟨by omega, by have := hS.1; omega, by decide⟩
theorem ok_all {z : Int} {P : Int → Int → Int} (hS : x_Sh z P) : 0 ≤ (163 : Int) ∧ (163 : Int) < z ∧ x_kd 163 = 8 := ⟨by omega, by have := hS.1; omega, by decide⟩
theorem ok_has {z : Int} {P : Int → Int → Int} (hS : x_Sh z P) : 0 ≤ (164 : Int) ∧ (164 : Int) < z ∧ x_kd 164 = 9 := ⟨by omega, by have := hS.1; omega, by decide⟩
theorem ok_outs {z : Int} {P : Int → Int → Int} (hS : x_Sh z P) : 0 ≤ (165 : Int) ∧ (165 : Int) < z ∧ x_kd 165 = 8 := ⟨by omega, by have := hS.1; omega, by decide⟩
theorem ok_over {z : Int} {P : Int → Int → Int} (hS : x_Sh z P) : 0 ≤ (166 : Int) ∧ (166 : Int) < z ∧ x_kd 166 = 8 := ⟨by omega, by have := hS.1; omega, by decide⟩
theorem ok_tried {z : Int} {P : Int → Int → Int} (hS : x_Sh z P) : 0 ≤ (167 : Int) ∧ (167 : Int) < z ∧ x_kd 167 = 8 := ⟨by omega, by have := hS.1; omega, by decide⟩
theorem ok_best {z : Int} {P : Int → Int → Int} (hS : x_Sh z P) : 0 ≤ (168 : Int) ∧ (168 : Int) < z ∧ x_kd 168 = 8 := ⟨by omega, by have := hS.1; omega, by decide⟩
theorem ok_round {z : Int} {P : Int → Int → Int} (hS : x_Sh z P) : 0 ≤ (169 : Int) ∧ (169 : Int) < z ∧ x_kd 169 = 8 := ⟨by omega, by have := hS.1; omega, by decide⟩
theorem ln_stands : x_ln 2 = 12 := by decide
theorem ln_whs : x_ln 87 = 60 := by decide
theorem ln_cas : x_ln 148 = 3 := by decide
theorem ln_imgs : x_ln 155 = 4 := by decide
theorem ln_t0 : x_ln 157 = 7 := by decide
theorem ln_t2 : x_ln 158 = 7 := by decide
theorem ln_t3 : x_ln 159 = 7 := by decide
theorem ln_t5 : x_ln 160 = 128 := by decide
theorem ln_t6 : x_ln 161 = 896 := by decide
theorem ln_all : x_ln 163 = 8200 := by decide
theorem ln_has : x_ln 164 = 4 := by decide
theorem ln_outs : x_ln 165 = 12 := by decide
theorem ln_over : x_ln 166 = 12 := by decide
theorem ln_tried : x_ln 167 = 7 := by decide
theorem ln_best : x_ln 168 = 7 := by decide
theorem ln_round : x_ln 169 = 7 := by decide
theorem sh_town {z : Int} {P : Int → Int → Int} (hS : x_Sh z P) : P 0 0 = 1 := hS.2.1.1
theorem sh_imgs {z : Int} {P : Int → Int → Int} (hS : x_Sh z P) : P 0 1 = 155 := hS.2.1.2.1
theorem sh_tour {z : Int} {P : Int → Int → Int} (hS : x_Sh z P) : P 0 2 = 156 := hS.2.1.2.2
theorem sh_t0 {z : Int} {P : Int → Int → Int} (hS : x_Sh z P) : P 156 0 = 157 := hS.2.2.2.1.1
theorem sh_t2 {z : Int} {P : Int → Int → Int} (hS : x_Sh z P) : P 156 2 = 158 := hS.2.2.2.1.2.1
theorem sh_t3 {z : Int} {P : Int → Int → Int} (hS : x_Sh z P) : P 156 3 = 159 := hS.2.2.2.1.2.2.1
theorem sh_t5 {z : Int} {P : Int → Int → Int} (hS : x_Sh z P) : P 156 5 = 160 := hS.2.2.2.1.2.2.2.1
theorem sh_t6 {z : Int} {P : Int → Int → Int} (hS : x_Sh z P) : P 156 6 = 161 := hS.2.2.2.1.2.2.2.2
theorem sh_all {z : Int} {P : Int → Int → Int} (hS : x_Sh z P) : P 162 0 = 163 := hS.2.2.2.2.1
theorem sh_has {z : Int} {P : Int → Int → Int} (hS : x_Sh z P) : P 162 1 = 164 := hS.2.2.2.2.2.1
theorem sh_outs {z : Int} {P : Int → Int → Int} (hS : x_Sh z P) : P 162 5 = 165 := hS.2.2.2.2.2.2.1
theorem sh_over {z : Int} {P : Int → Int → Int} (hS : x_Sh z P) : P 162 6 = 166 := hS.2.2.2.2.2.2.2.1
theorem sh_tried {z : Int} {P : Int → Int → Int} (hS : x_Sh z P) : P 162 8 = 167 := hS.2.2.2.2.2.2.2.2.1
theorem sh_best {z : Int} {P : Int → Int → Int} (hS : x_Sh z P) : P 162 9 = 168 := hS.2.2.2.2.2.2.2.2.2.1
theorem sh_round {z : Int} {P : Int → Int → Int} (hS : x_Sh z P) : P 162 10 = 169 := hS.2.2.2.2.2.2.2.2.2.2
theorem sh_stands {z : Int} {P : Int → Int → Int} (hS : x_Sh z P) : P 1 0 = 2 := x_Pe hS.2.2.1.1.1 rfl (by omega)
theorem sh_whs {z : Int} {P : Int → Int → Int} (hS : x_Sh z P) : P 1 2 = 87 := x_Pe hS.2.2.1.1.2.1 rfl (by omega)
theorem sh_cas {z : Int} {P : Int → Int → Int} (hS : x_Sh z P) : P 1 4 = 148 := x_Pe hS.2.2.1.1.2.2 rfl (by omega)
theorem sh_st {z i : Int} {P : Int → Int → Int} (hS : x_Sh z P) (hi : 0 ≤ i ∧ i < 12) : P (2) (i) = 3 + 7 * i := x_Pe (hS.2.2.1.2.1 i hi).1 (by omega) (by omega)
theorem sh_con {z i : Int} {P : Int → Int → Int} (hS : x_Sh z P) (hi : 0 ≤ i ∧ i < 12) : P (3 + 7 * i) (2) = 4 + 7 * i := x_Pe (hS.2.2.1.2.1 i hi).2.1 (by omega) (by omega)
theorem sh_len {z i : Int} {P : Int → Int → Int} (hS : x_Sh z P) (hi : 0 ≤ i ∧ i < 12) : P (3 + 7 * i) (3) = 5 + 7 * i := x_Pe (hS.2.2.1.2.1 i hi).2.2.1 (by omega) (by omega)
theorem sh_oth {z i : Int} {P : Int → Int → Int} (hS : x_Sh z P) (hi : 0 ≤ i ∧ i < 12) : P (3 + 7 * i) (4) = 6 + 7 * i := x_Pe (hS.2.2.1.2.1 i hi).2.2.2.1 (by omega) (by omega)
theorem sh_dem {z i : Int} {P : Int → Int → Int} (hS : x_Sh z P) (hi : 0 ≤ i ∧ i < 12) : P (3 + 7 * i) (8) = 7 + 7 * i := x_Pe (hS.2.2.1.2.1 i hi).2.2.2.2.1 (by omega) (by omega)
theorem sh_br {z i : Int} {P : Int → Int → Int} (hS : x_Sh z P) (hi : 0 ≤ i ∧ i < 12) : P (7 + 7 * i) (1) = 8 + 7 * i := x_Pe (hS.2.2.1.2.1 i hi).2.2.2.2.2.1 (by omega) (by omega)
theorem sh_wa {z i : Int} {P : Int → Int → Int} (hS : x_Sh z P) (hi : 0 ≤ i ∧ i < 12) : P (7 + 7 * i) (2) = 9 + 7 * i := x_Pe (hS.2.2.1.2.1 i hi).2.2.2.2.2.2 (by omega) (by omega)
theorem sh_wh {z i : Int} {P : Int → Int → Int} (hS : x_Sh z P) (hi : 0 ≤ i ∧ i < 60) : P (87) (i) = 88 + i := x_Pe (hS.2.2.1.2.2.1 i hi) (by omega) (by omega)
theorem sh_ca {z i : Int} {P : Int → Int → Int} (hS : x_Sh z P) (hi : 0 ≤ i ∧ i < 3) : P (148) (i) = 149 + 2 * i := x_Pe (hS.2.2.1.2.2.2 i hi).1 (by omega) (by omega)
theorem sh_row {z i : Int} {P : Int → Int → Int} (hS : x_Sh z P) (hi : 0 ≤ i ∧ i < 3) : P (149 + 2 * i) (5) = 150 + 2 * i := x_Pe (hS.2.2.1.2.2.2 i hi).2 (by omega) (by omega)
