/-! THE CLASS'S CELLS AND THE MODEL'S ROW -/
def a_up (f : Int → Int) (i v : Int) : Int → Int := fun j => if j = i then v else f j
def x_row (M : Int → Int → Int) (a : Int) (f : Int → Int) : Int → Int → Int := fun b j => if b = a then f j else M b j
def x_ct (p : Int → Prop) [DecidablePred p] : Nat → Int → Int
  | 0, _ => 0
  | n + 1, d => (if p d then 1 else 0) + x_ct p n (d + 1)
def x_fst (p : Int → Prop) [DecidablePred p] : Nat → Int → Int
  | 0, _ => -1
  | n + 1, d => if p d then d else x_fst p n (d + 1)
abbrev a_sz (k : Int) : Int := if k = 2 then 2 else 1
/-- how much of a cart's load is taken -/
def a_tkn (A : Int → Int) (c : Int) : Nat → Int
  | 0 => 0
  | n + 1 => a_tkn A c n + a_sz (A (1114 + 8 * A (1598 + 12 * c + n)))
def a_tk (A : Int → Int) (c : Int) : Int := a_tkn A c (A (1597 + 12 * c)).toNat
/-- the live part of the class's cells is what the model's row has -/
def x_RT (M : Int → Int → Int) (A : Int → Int) : Prop :=
  (M 1 1 = A 0 ∧ M 1 3 = A 1 ∧ M 1 5 = A 2 ∧ M 1 6 = A 3) ∧
  ((∀ s, 0 ≤ s ∧ s < 12 → M (3 + 7 * s) 0 = s) ∧ (∀ w, 0 ≤ w ∧ w < 60 → M (88 + w) 0 = w) ∧ ∀ c, 0 ≤ c ∧ c < 3 → M (149 + 2 * c) 0 = c) ∧
  (∀ s, 0 ≤ s ∧ s < A 0 → M (3 + 7 * s) 1 = A (10 + 80 * s) ∧ M (3 + 7 * s) 7 = A (23 + 80 * s) ∧ M (3 + 7 * s) 6 = A (24 + 80 * s) ∧ M (3 + 7 * s) 5 = A (25 + 80 * s) ∧ M (7 + 7 * s) 0 = A (34 + 80 * s)) ∧
  (∀ s d, (0 ≤ s ∧ s < A 0) → (0 ≤ d ∧ d < A (10 + 80 * s)) → M (4 + 7 * s) d = A (11 + 80 * s + d)) ∧
  (∀ s j, (0 ≤ s ∧ s < A 0) → (0 ≤ j ∧ j < 12) → M (5 + 7 * s) j = A (970 + 12 * s + j)) ∧
  (∀ s k, (0 ≤ s ∧ s < A 0) → (0 ≤ k ∧ k < A (25 + 80 * s)) → M (6 + 7 * s) k = A (26 + 80 * s + k)) ∧
  (∀ s h, (0 ≤ s ∧ s < A 0) → (0 ≤ h ∧ h < 24) → M (8 + 7 * s) h = (if A (34 + 80 * s) = 1 then A (35 + 80 * s + h) else 0) ∧ M (9 + 7 * s) h = (if A (34 + 80 * s) = 1 then A (59 + 80 * s + h) else 0)) ∧
  (∀ w, 0 ≤ w ∧ w < A 1 → M (88 + w) 1 = A (1114 + 8 * w) ∧ M (88 + w) 2 = A (1115 + 8 * w) ∧ M (88 + w) 3 = A (1116 + 8 * w) ∧ M (88 + w) 7 = x_b (0 < A (1120 + 8 * w)) ∧ M (88 + w) 8 = x_b (A (1120 + 8 * w) = 2) ∧ (A (1116 + 8 * w) ≠ 1 → M (88 + w) 4 = A (1117 + 8 * w)) ∧ (A (1116 + 8 * w) = 0 → M (88 + w) 5 = A (1118 + 8 * w)) ∧ (A (1116 + 8 * w) = 2 → M (88 + w) 9 = A (1121 + 8 * w))) ∧
  (∀ c, 0 ≤ c ∧ c < A 2 → M (149 + 2 * c) 1 = A (1594 + 12 * c) ∧ M (149 + 2 * c) 2 = A (1595 + 12 * c) ∧ M (149 + 2 * c) 4 = A (1596 + 12 * c) ∧ M (149 + 2 * c) 6 = A (1597 + 12 * c) ∧ M (149 + 2 * c) 3 = a_tk A c) ∧
  (∀ c k, (0 ≤ c ∧ c < A 2) → (0 ≤ k ∧ k < A (1597 + 12 * c)) → M (150 + 2 * c) k = A (1598 + 12 * c + k))
section
variable {M : Int → Int → Int} {A : Int → Int}
theorem rt_n (hR : x_RT M A) : M 1 1 = A 0 := hR.1.1
theorem rt_m (hR : x_RT M A) : M 1 3 = A 1 := hR.1.2.1
theorem rt_q (hR : x_RT M A) : M 1 5 = A 2 := hR.1.2.2.1
theorem rt_h (hR : x_RT M A) : M 1 6 = A 3 := hR.1.2.2.2
theorem rt_sn (hR : x_RT M A) {s : Int} (h : 0 ≤ s ∧ s < 12) : M (3 + 7 * s) 0 = s := hR.2.1.1 s h
theorem rt_wn (hR : x_RT M A) {w : Int} (h : 0 ≤ w ∧ w < 60) : M (88 + w) 0 = w := hR.2.1.2.1 w h
theorem rt_cn (hR : x_RT M A) {c : Int} (h : 0 ≤ c ∧ c < 3) : M (149 + 2 * c) 0 = c := hR.2.1.2.2 c h
theorem rt_dk (hR : x_RT M A) {s : Int} (h : 0 ≤ s ∧ s < A 0) : M (3 + 7 * s) 1 = A (10 + 80 * s) := (hR.2.2.1 s h).1
theorem rt_fl (hR : x_RT M A) {s : Int} (h : 0 ≤ s ∧ s < A 0) : M (3 + 7 * s) 7 = A (23 + 80 * s) := (hR.2.2.1 s h).2.1
theorem rt_wt (hR : x_RT M A) {s : Int} (h : 0 ≤ s ∧ s < A 0) : M (3 + 7 * s) 6 = A (24 + 80 * s) := (hR.2.2.1 s h).2.2.1
theorem rt_oc (hR : x_RT M A) {s : Int} (h : 0 ≤ s ∧ s < A 0) : M (3 + 7 * s) 5 = A (25 + 80 * s) := (hR.2.2.1 s h).2.2.2.1
theorem rt_dm (hR : x_RT M A) {s : Int} (h : 0 ≤ s ∧ s < A 0) : M (7 + 7 * s) 0 = A (34 + 80 * s) := (hR.2.2.1 s h).2.2.2.2
theorem rt_con (hR : x_RT M A) {s d : Int} (h : 0 ≤ s ∧ s < A 0) (hd : 0 ≤ d ∧ d < A (10 + 80 * s)) : M (4 + 7 * s) d = A (11 + 80 * s + d) := hR.2.2.2.1 s d h hd
theorem rt_len (hR : x_RT M A) {s j : Int} (h : 0 ≤ s ∧ s < A 0) (hd : 0 ≤ j ∧ j < 12) : M (5 + 7 * s) j = A (970 + 12 * s + j) := hR.2.2.2.2.1 s j h hd
theorem rt_oth (hR : x_RT M A) {s k : Int} (h : 0 ≤ s ∧ s < A 0) (hd : 0 ≤ k ∧ k < A (25 + 80 * s)) : M (6 + 7 * s) k = A (26 + 80 * s + k) := hR.2.2.2.2.2.1 s k h hd
theorem rt_br (hR : x_RT M A) {s j : Int} (h : 0 ≤ s ∧ s < A 0) (hd : 0 ≤ j ∧ j < 24) : M (8 + 7 * s) j = (if A (34 + 80 * s) = 1 then A (35 + 80 * s + j) else 0) := (hR.2.2.2.2.2.2.1 s j h hd).1
theorem rt_wa (hR : x_RT M A) {s j : Int} (h : 0 ≤ s ∧ s < A 0) (hd : 0 ≤ j ∧ j < 24) : M (9 + 7 * s) j = (if A (34 + 80 * s) = 1 then A (59 + 80 * s + j) else 0) := (hR.2.2.2.2.2.2.1 s j h hd).2
theorem rt_w1 (hR : x_RT M A) {w : Int} (h : 0 ≤ w ∧ w < A 1) : M (88 + w) 1 = A (1114 + 8 * w) := (hR.2.2.2.2.2.2.2.1 w h).1
theorem rt_w2 (hR : x_RT M A) {w : Int} (h : 0 ≤ w ∧ w < A 1) : M (88 + w) 2 = A (1115 + 8 * w) := (hR.2.2.2.2.2.2.2.1 w h).2.1
theorem rt_w3 (hR : x_RT M A) {w : Int} (h : 0 ≤ w ∧ w < A 1) : M (88 + w) 3 = A (1116 + 8 * w) := (hR.2.2.2.2.2.2.2.1 w h).2.2.1
theorem rt_w7 (hR : x_RT M A) {w : Int} (h : 0 ≤ w ∧ w < A 1) : M (88 + w) 7 = x_b (0 < A (1120 + 8 * w)) := (hR.2.2.2.2.2.2.2.1 w h).2.2.2.1
theorem rt_w8 (hR : x_RT M A) {w : Int} (h : 0 ≤ w ∧ w < A 1) : M (88 + w) 8 = x_b (A (1120 + 8 * w) = 2) := (hR.2.2.2.2.2.2.2.1 w h).2.2.2.2.1
theorem rt_w4 (hR : x_RT M A) {w : Int} (h : 0 ≤ w ∧ w < A 1) (hp : A (1116 + 8 * w) ≠ 1) : M (88 + w) 4 = A (1117 + 8 * w) := (hR.2.2.2.2.2.2.2.1 w h).2.2.2.2.2.1 hp
theorem rt_w5 (hR : x_RT M A) {w : Int} (h : 0 ≤ w ∧ w < A 1) (hp : A (1116 + 8 * w) = 0) : M (88 + w) 5 = A (1118 + 8 * w) := (hR.2.2.2.2.2.2.2.1 w h).2.2.2.2.2.2.1 hp
theorem rt_w9 (hR : x_RT M A) {w : Int} (h : 0 ≤ w ∧ w < A 1) (hp : A (1116 + 8 * w) = 2) : M (88 + w) 9 = A (1121 + 8 * w) := (hR.2.2.2.2.2.2.2.1 w h).2.2.2.2.2.2.2 hp
theorem rt_c1 (hR : x_RT M A) {c : Int} (h : 0 ≤ c ∧ c < A 2) : M (149 + 2 * c) 1 = A (1594 + 12 * c) := (hR.2.2.2.2.2.2.2.2.1 c h).1
theorem rt_c2 (hR : x_RT M A) {c : Int} (h : 0 ≤ c ∧ c < A 2) : M (149 + 2 * c) 2 = A (1595 + 12 * c) := (hR.2.2.2.2.2.2.2.2.1 c h).2.1
theorem rt_c4 (hR : x_RT M A) {c : Int} (h : 0 ≤ c ∧ c < A 2) : M (149 + 2 * c) 4 = A (1596 + 12 * c) := (hR.2.2.2.2.2.2.2.2.1 c h).2.2.1
theorem rt_c6 (hR : x_RT M A) {c : Int} (h : 0 ≤ c ∧ c < A 2) : M (149 + 2 * c) 6 = A (1597 + 12 * c) := (hR.2.2.2.2.2.2.2.2.1 c h).2.2.2.1
theorem rt_c3 (hR : x_RT M A) {c : Int} (h : 0 ≤ c ∧ c < A 2) : M (149 + 2 * c) 3 = a_tk A c := (hR.2.2.2.2.2.2.2.2.1 c h).2.2.2.2
theorem rt_row (hR : x_RT M A) {c k : Int} (h : 0 ≤ c ∧ c < A 2) (hd : 0 ≤ k ∧ k < A (1597 + 12 * c)) : M (150 + 2 * c) k = A (1598 + 12 * c + k) := hR.2.2.2.2.2.2.2.2.2 c k h hd
end
/-- what holds of the model's row alone -/
def x_IA (A : Int → Int) : Prop :=
  ((0 ≤ A 0 ∧ A 0 ≤ 12) ∧ (0 ≤ A 1 ∧ A 1 ≤ 60) ∧ (0 ≤ A 2 ∧ A 2 ≤ 3) ∧ (0 ≤ A 3 ∧ A 3 < 24)) ∧
  (∀ s, 0 ≤ s ∧ s < A 0 → (2 ≤ A (10 + 80 * s) ∧ A (10 + 80 * s) ≤ 12) ∧ (-1 ≤ A (24 + 80 * s) ∧ A (24 + 80 * s) ≤ 12) ∧ (-1 ≤ A (25 + 80 * s) ∧ A (25 + 80 * s) ≤ 8) ∧ (A (34 + 80 * s) = 0 ∨ A (34 + 80 * s) = 1)) ∧
  (∀ s, A 0 ≤ s ∧ s < 12 → A (23 + 80 * s) = 0 ∧ A (34 + 80 * s) = 0) ∧
  (∀ s d, (0 ≤ s ∧ s < A 0) → (0 ≤ d ∧ d < A (10 + 80 * s)) → -2 ≤ A (11 + 80 * s + d) ∧ A (11 + 80 * s + d) < A 1) ∧
  (∀ s j, (0 ≤ s ∧ s < 12) → (0 ≤ j ∧ j < 12) → (0 ≤ A (970 + 12 * s + j) ∧ A (970 + 12 * s + j) ≤ 999) ∧ (s = j → A (970 + 12 * s + j) = 0) ∧ (s ≠ j → A 0 ≤ s ∨ A 0 ≤ j → A (970 + 12 * s + j) = 999)) ∧
  (∀ s k, (0 ≤ s ∧ s < A 0) → (0 ≤ k ∧ k < A (25 + 80 * s)) → 0 ≤ A (26 + 80 * s + k) ∧ A (26 + 80 * s + k) < A 0) ∧
  (∀ s h, (0 ≤ s ∧ s < A 0) → (0 ≤ h ∧ h < 24) → A (34 + 80 * s) = 1 → (0 ≤ A (35 + 80 * s + h) ∧ A (35 + 80 * s + h) ≤ 99) ∧ (0 ≤ A (59 + 80 * s + h) ∧ A (59 + 80 * s + h) ≤ 99)) ∧
  (∀ w, 0 ≤ w ∧ w < A 1 → (0 ≤ A (1114 + 8 * w) ∧ A (1114 + 8 * w) ≤ 3) ∧ (0 ≤ A (1115 + 8 * w) ∧ A (1115 + 8 * w) ≤ 1000) ∧ (0 ≤ A (1116 + 8 * w) ∧ A (1116 + 8 * w) ≤ 3) ∧ (0 ≤ A (1120 + 8 * w) ∧ A (1120 + 8 * w) ≤ 2) ∧ (A (1116 + 8 * w) ≠ 1 → 0 ≤ A (1117 + 8 * w) ∧ A (1117 + 8 * w) < A 0) ∧ (A (1116 + 8 * w) = 0 → 0 ≤ A (1118 + 8 * w) ∧ A (1118 + 8 * w) + a_sz (A (1114 + 8 * w)) ≤ A (10 + 80 * A (1117 + 8 * w)))) ∧
  (∀ s d, (0 ≤ s ∧ s < A 0) → (0 ≤ d ∧ d < A (10 + 80 * s)) → 0 ≤ A (11 + 80 * s + d) → A (1116 + 8 * A (11 + 80 * s + d)) = 0 ∧ A (1117 + 8 * A (11 + 80 * s + d)) = s ∧ (A (1118 + 8 * A (11 + 80 * s + d)) = d ∨ (A (1114 + 8 * A (11 + 80 * s + d)) = 2 ∧ A (1118 + 8 * A (11 + 80 * s + d)) + 1 = d))) ∧
  (∀ w, (0 ≤ w ∧ w < A 1) → A (1116 + 8 * w) = 2 → -1 ≤ A (1121 + 8 * w) ∧ (A (1114 + 8 * w) = 3 → 0 ≤ A (1121 + 8 * w)) ∧ (0 ≤ A (1121 + 8 * w) → A (1121 + 8 * w) < A 1 ∧ A (1116 + 8 * A (1121 + 8 * w)) = 2 ∧ A (1121 + 8 * A (1121 + 8 * w)) = w ∧ (A (1114 + 8 * w) = 3 ↔ A (1114 + 8 * A (1121 + 8 * w)) ≠ 3))) ∧
  (∀ c, 0 ≤ c ∧ c < A 2 → (1 ≤ A (1594 + 12 * c) ∧ A (1594 + 12 * c) ≤ 8) ∧ (0 ≤ A (1595 + 12 * c) ∧ A (1595 + 12 * c) < A 0) ∧ (0 ≤ A (1597 + 12 * c)) ∧ a_tk A c ≤ A (1594 + 12 * c)) ∧
  (∀ c k, (0 ≤ c ∧ c < A 2) → (0 ≤ k ∧ k < A (1597 + 12 * c)) → (0 ≤ A (1598 + 12 * c + k) ∧ A (1598 + 12 * c + k) < A 1) ∧ A (1116 + 8 * A (1598 + 12 * c + k)) = 1 ∧ A (1117 + 8 * A (1598 + 12 * c + k)) = c) ∧
  (∀ c k j, (0 ≤ c ∧ c < A 2) → (0 ≤ k ∧ k < A (1597 + 12 * c)) → (0 ≤ j ∧ j < A (1597 + 12 * c)) → A (1598 + 12 * c + k) = A (1598 + 12 * c + j) → k = j)
section
variable {A : Int → Int}
theorem ia_n (hI : x_IA A) : 0 ≤ A 0 ∧ A 0 ≤ 12 := hI.1.1
theorem ia_m (hI : x_IA A) : 0 ≤ A 1 ∧ A 1 ≤ 60 := hI.1.2.1
theorem ia_q (hI : x_IA A) : 0 ≤ A 2 ∧ A 2 ≤ 3 := hI.1.2.2.1
theorem ia_h (hI : x_IA A) : 0 ≤ A 3 ∧ A 3 < 24 := hI.1.2.2.2
theorem ia_dk (hI : x_IA A) {s : Int} (h : 0 ≤ s ∧ s < A 0) : 2 ≤ A (10 + 80 * s) ∧ A (10 + 80 * s) ≤ 12 := (hI.2.1 s h).1
theorem ia_wt (hI : x_IA A) {s : Int} (h : 0 ≤ s ∧ s < A 0) : -1 ≤ A (24 + 80 * s) ∧ A (24 + 80 * s) ≤ 12 := (hI.2.1 s h).2.1
theorem ia_oc (hI : x_IA A) {s : Int} (h : 0 ≤ s ∧ s < A 0) : -1 ≤ A (25 + 80 * s) ∧ A (25 + 80 * s) ≤ 8 := (hI.2.1 s h).2.2.1
theorem ia_dm (hI : x_IA A) {s : Int} (h : 0 ≤ s ∧ s < A 0) : A (34 + 80 * s) = 0 ∨ A (34 + 80 * s) = 1 := (hI.2.1 s h).2.2.2
theorem ia_new (hI : x_IA A) {s : Int} (h : A 0 ≤ s ∧ s < 12) : A (23 + 80 * s) = 0 ∧ A (34 + 80 * s) = 0 := hI.2.2.1 s h
theorem ia_con (hI : x_IA A) {s d : Int} (h : 0 ≤ s ∧ s < A 0) (hd : 0 ≤ d ∧ d < A (10 + 80 * s)) : -2 ≤ A (11 + 80 * s + d) ∧ A (11 + 80 * s + d) < A 1 := hI.2.2.2.1 s d h hd
theorem ia_len (hI : x_IA A) {s j : Int} (h : 0 ≤ s ∧ s < 12) (hd : 0 ≤ j ∧ j < 12) : (0 ≤ A (970 + 12 * s + j) ∧ A (970 + 12 * s + j) ≤ 999) ∧ (s = j → A (970 + 12 * s + j) = 0) ∧ (s ≠ j → A 0 ≤ s ∨ A 0 ≤ j → A (970 + 12 * s + j) = 999) := hI.2.2.2.2.1 s j h hd
theorem ia_oth (hI : x_IA A) {s k : Int} (h : 0 ≤ s ∧ s < A 0) (hd : 0 ≤ k ∧ k < A (25 + 80 * s)) : 0 ≤ A (26 + 80 * s + k) ∧ A (26 + 80 * s + k) < A 0 := hI.2.2.2.2.2.1 s k h hd
theorem ia_dem (hI : x_IA A) {s j : Int} (h : 0 ≤ s ∧ s < A 0) (hd : 0 ≤ j ∧ j < 24) (he : A (34 + 80 * s) = 1) : (0 ≤ A (35 + 80 * s + j) ∧ A (35 + 80 * s + j) ≤ 99) ∧ (0 ≤ A (59 + 80 * s + j) ∧ A (59 + 80 * s + j) ≤ 99) := hI.2.2.2.2.2.2.1 s j h hd he
theorem ia_w (hI : x_IA A) {w : Int} (h : 0 ≤ w ∧ w < A 1) : (0 ≤ A (1114 + 8 * w) ∧ A (1114 + 8 * w) ≤ 3) ∧ (0 ≤ A (1115 + 8 * w) ∧ A (1115 + 8 * w) ≤ 1000) ∧ (0 ≤ A (1116 + 8 * w) ∧ A (1116 + 8 * w) ≤ 3) ∧ (0 ≤ A (1120 + 8 * w) ∧ A (1120 + 8 * w) ≤ 2) ∧ (A (1116 + 8 * w) ≠ 1 → 0 ≤ A (1117 + 8 * w) ∧ A (1117 + 8 * w) < A 0) ∧ (A (1116 + 8 * w) = 0 → 0 ≤ A (1118 + 8 * w) ∧ A (1118 + 8 * w) + a_sz (A (1114 + 8 * w)) ≤ A (10 + 80 * A (1117 + 8 * w))) := hI.2.2.2.2.2.2.2.1 w h
theorem ia_in (hI : x_IA A) {s d : Int} (h : 0 ≤ s ∧ s < A 0) (hd : 0 ≤ d ∧ d < A (10 + 80 * s)) (hw : 0 ≤ A (11 + 80 * s + d)) : A (1116 + 8 * A (11 + 80 * s + d)) = 0 ∧ A (1117 + 8 * A (11 + 80 * s + d)) = s ∧ (A (1118 + 8 * A (11 + 80 * s + d)) = d ∨ (A (1114 + 8 * A (11 + 80 * s + d)) = 2 ∧ A (1118 + 8 * A (11 + 80 * s + d)) + 1 = d)) := hI.2.2.2.2.2.2.2.2.1 s d h hd hw
theorem ia_pt (hI : x_IA A) {w : Int} (h : 0 ≤ w ∧ w < A 1) (hp : A (1116 + 8 * w) = 2) : -1 ≤ A (1121 + 8 * w) ∧ (A (1114 + 8 * w) = 3 → 0 ≤ A (1121 + 8 * w)) ∧ (0 ≤ A (1121 + 8 * w) → A (1121 + 8 * w) < A 1 ∧ A (1116 + 8 * A (1121 + 8 * w)) = 2 ∧ A (1121 + 8 * A (1121 + 8 * w)) = w ∧ (A (1114 + 8 * w) = 3 ↔ A (1114 + 8 * A (1121 + 8 * w)) ≠ 3)) := hI.2.2.2.2.2.2.2.2.2.1 w h hp
theorem ia_c (hI : x_IA A) {c : Int} (h : 0 ≤ c ∧ c < A 2) : (1 ≤ A (1594 + 12 * c) ∧ A (1594 + 12 * c) ≤ 8) ∧ (0 ≤ A (1595 + 12 * c) ∧ A (1595 + 12 * c) < A 0) ∧ 0 ≤ A (1597 + 12 * c) ∧ a_tk A c ≤ A (1594 + 12 * c) := hI.2.2.2.2.2.2.2.2.2.2.1 c h
theorem ia_row (hI : x_IA A) {c k : Int} (h : 0 ≤ c ∧ c < A 2) (hd : 0 ≤ k ∧ k < A (1597 + 12 * c)) : (0 ≤ A (1598 + 12 * c + k) ∧ A (1598 + 12 * c + k) < A 1) ∧ A (1116 + 8 * A (1598 + 12 * c + k)) = 1 ∧ A (1117 + 8 * A (1598 + 12 * c + k)) = c := hI.2.2.2.2.2.2.2.2.2.2.2.1 c k h hd
theorem ia_ap (hI : x_IA A) {c k j : Int} (h : 0 ≤ c ∧ c < A 2) (hk : 0 ≤ k ∧ k < A (1597 + 12 * c)) (hj : 0 ≤ j ∧ j < A (1597 + 12 * c)) (e : A (1598 + 12 * c + k) = A (1598 + 12 * c + j)) : k = j := hI.2.2.2.2.2.2.2.2.2.2.2.2 c k j h hk hj e
theorem a_tkn_le {A : Int → Int} {c : Int} (n : Nat) : (n : Int) ≤ a_tkn A c n := by
  induction n with
  | zero => exact Int.le_refl _
  | succ n ih =>
    show ((n + 1 : Nat) : Int) ≤ a_tkn A c n + (if _ then 2 else 1)
    split <;> omega
theorem ia_cnt (hI : x_IA A) {c : Int} (h : 0 ≤ c ∧ c < A 2) : A (1597 + 12 * c) ≤ a_tk A c := by
  have h1 := a_tkn_le (A := A) (c := c) (A (1597 + 12 * c)).toNat
  have h2 := (ia_c hI h).2.2.1
  unfold a_tk
  omega
theorem a_up_s {f : Int → Int} {i v : Int} : a_up f i v i = v := if_pos rfl
theorem a_up_n {f : Int → Int} {i j v : Int} (h : j ≠ i) : a_up f i v j = f j := if_neg h
end
