/-! WEAK TYPING OF THE CELLS, AND WHAT A WALK LEAVES AS IT WAS -/
def y_okt (o k v : Int) : Prop :=
  if o = 0 then (if k = 1 then 0 ≤ v ∧ v ≤ 12 else if k = 3 then 0 ≤ v ∧ v ≤ 60 else if k = 5 then 0 ≤ v ∧ v ≤ 3 else if k = 6 then 0 ≤ v ∧ v ≤ 23 else True)
  else if o = 1 then True
  else if o < 86 then (if (o - 2) % 7 = 0 then (if k = 1 then 0 ≤ v ∧ v ≤ 12 else if k = 5 then -1 ≤ v ∧ v ≤ 8 else if k = 6 then -1 ≤ v ∧ v ≤ 12 else True) else if (o - 2) % 7 = 1 then (0 ≤ k ∧ k < 12 → -2 ≤ v ∧ v ≤ 59) else if (o - 2) % 7 = 2 then (0 ≤ k ∧ k < 12 → 0 ≤ v ∧ v ≤ 999) else if (o - 2) % 7 = 3 then (0 ≤ k ∧ k < 8 → 0 ≤ v ∧ v ≤ 11) else if (o - 2) % 7 = 4 then (if k = 0 then 0 ≤ v ∧ v ≤ 1 else True) else (0 ≤ k ∧ k < 24 → 0 ≤ v ∧ v ≤ 99))
  else if o = 86 then True
  else if o < 147 then (if k = 1 then 0 ≤ v ∧ v ≤ 3 else if k = 2 then 0 ≤ v ∧ v ≤ 1000 else if k = 3 then 0 ≤ v ∧ v ≤ 3 else if k = 4 then -1 ≤ v ∧ v ≤ 11 else if k = 5 then -1 ≤ v ∧ v ≤ 11 else if k = 7 then 0 ≤ v ∧ v ≤ 1 else if k = 8 then 0 ≤ v ∧ v ≤ 1 else if k = 9 then -1 ≤ v ∧ v ≤ 59 else True)
  else if o = 147 then True
  else if (o - 148) % 2 = 0 then (if k = 1 then 0 ≤ v ∧ v ≤ 8 else if k = 2 then 0 ≤ v ∧ v ≤ 11 else if k = 6 then 0 ≤ v ∧ v ≤ 8 else True)
  else (0 ≤ k ∧ k < 8 → 0 ≤ v ∧ v ≤ 59)
def y_oAS (o v : Int) : Prop := if o = 0 then -1 ≤ v ∧ v ≤ 12 else if o ≤ 12 then -2 ≤ v ∧ v ≤ 59 else if o = 13 then True else if o = 14 then -1 ≤ v ∧ v ≤ 12 else if o = 15 then -1 ≤ v ∧ v ≤ 8 else if o ≤ 23 then 0 ≤ v ∧ v ≤ 11 else if o = 24 then 0 ≤ v ∧ v ≤ 1 else if o ≤ 72 then 0 ≤ v ∧ v ≤ 99 else True
def y_oAW (o v : Int) : Prop := if o = 0 then 0 ≤ v ∧ v ≤ 3 else if o = 1 then 0 ≤ v ∧ v ≤ 1000 else if o = 2 then 0 ≤ v ∧ v ≤ 3 else if o = 3 then 0 ≤ v ∧ v ≤ 11 else if o = 4 then -1 ≤ v ∧ v ≤ 11 else if o = 5 then True else if o = 6 then 0 ≤ v ∧ v ≤ 2 else -1 ≤ v ∧ v ≤ 59
def y_oAC (o v : Int) : Prop := if o = 0 then 0 ≤ v ∧ v ≤ 8 else if o = 1 then 0 ≤ v ∧ v ≤ 11 else if o = 2 then True else if o = 3 then 0 ≤ v ∧ v ≤ 8 else 0 ≤ v ∧ v ≤ 59
def y_oA (i v : Int) : Prop := if i < 10 then (if i = 0 then 0 ≤ v ∧ v ≤ 12 else if i = 1 then 0 ≤ v ∧ v ≤ 60 else if i = 2 then 0 ≤ v ∧ v ≤ 3 else if i = 3 then 0 ≤ v ∧ v ≤ 23 else True) else if i < 970 then y_oAS ((i - 10) % 80) v else if i < 1114 then 0 ≤ v ∧ v ≤ 999 else if i < 1594 then y_oAW ((i - 1114) % 8) v else if i < 1630 then y_oAC ((i - 1594) % 12) v else True
def y_okm (a k v : Int) : Prop :=
  if a = 156 then (if k = 1 then 0 ≤ v ∧ v ≤ 7 else if k = 4 then 0 ≤ v ∧ v ≤ 7 else True)
  else if a = 157 then 0 ≤ v ∧ v ≤ 11
  else if a = 158 then 0 ≤ v ∧ v ≤ 11
  else if a = 159 then -12 ≤ v ∧ v ≤ 60
  else if a = 161 then 0 ≤ v ∧ v ≤ 1000000
  else if a = 162 then (if k = 7 then 0 ≤ v ∧ v ≤ 12 else if k = 11 then 0 ≤ v ∧ v ≤ 7 else True)
  else if a = 163 then y_oA (k % 1640) v
  else if a = 164 then 0 ≤ v ∧ v ≤ 1
  else if a = 165 then 0 ≤ v ∧ v ≤ 11
  else if a = 166 then -12 ≤ v ∧ v ≤ 60
  else if a = 167 then 0 ≤ v ∧ v ≤ 6
  else if a = 168 then 0 ≤ v ∧ v ≤ 11
  else if a = 169 then 0 ≤ v ∧ v ≤ 11
  else True
def y_okv (a k v : Int) : Prop := if a < 1 then True else if a < 155 then y_okt (a - 1) k v else if a < 170 then y_okm a k v else y_okt ((a - 170) % 154) k v
def y_nu (a k : Int) : Prop := k = 0 ∧ ((3 ≤ a ∧ a < 87 ∧ (a - 3) % 7 = 0) ∨ (88 ≤ a ∧ a < 148) ∨ (149 ≤ a ∧ a < 155 ∧ (a - 149) % 2 = 0))
def y_sl (a k v : Int) : Prop := y_okv a k v ∧ ¬ y_nu a k
def y_TC (M : Int → Int → Int) : Prop := (∀ a k, y_okv a k (M a k)) ∧ x_TM 1 M
/-- what the light parts look at, of the class and of the model -/
def y_lc (a k : Int) : Prop := (a = 1 ∧ (k = 1 ∨ k = 3 ∨ k = 5 ∨ k = 6)) ∨ (3 ≤ a ∧ a < 87 ∧ (((a - 3) % 7 = 0 ∧ k = 5) ∨ ((a - 3) % 7 = 4 ∧ k = 0)))
def y_lm (a k : Int) : Prop := (a = 163 ∧ (k = 0 ∨ k = 1 ∨ k = 2 ∨ k = 3 ∨ (10 ≤ k ∧ k < 970 ∧ ((k - 10) % 80 = 15 ∨ (k - 10) % 80 = 24)) ∨ 1640 ≤ k)) ∨ a = 164
/-- what stays: 0, 1: of a light walk of the class, of the model; 2, 3: of any -/
def y_fr (c : Nat) (a k : Int) : Prop := match c with
  | 0 => a < 1 ∨ 162 ≤ a ∨ y_lc a k
  | 1 => a < 162 ∨ 170 ≤ a ∨ y_lm a k
  | 2 => a < 1 ∨ 162 ≤ a
  | 4 => a < 3 ∨ 87 ≤ a
  | 5 => a < 163 ∨ 163 < a ∨ y_lm a k ∨ 1594 ≤ k
  | 6 => a ≠ 167
  | 7 => a ≠ 168
  | 8 => a < 162 ∨ 170 ≤ a ∨ a = 164 ∨ (a = 163 ∧ 1640 ≤ k)
  | 9 => a < 1 ∨ 162 ≤ a ∨ (y_lc a k ∧ ¬ (a = 1 ∧ k = 3))
  | 10 => a < 162 ∨ 170 ≤ a ∨ (y_lm a k ∧ ¬ (a = 163 ∧ k = 1))
  | _ => a < 162 ∨ 170 ≤ a
def y_TL (c : Nat) (M0 M : Int → Int → Int) : Prop := y_TC M ∧ ∀ a k, y_fr c a k → M a k = M0 a k
theorem tl_refl {c : Nat} {M : Int → Int → Int} (h : y_TC M) : y_TL c M M := ⟨h, fun _ _ _ => rfl⟩
theorem tl_trans {c : Nat} {M0 M M' : Int → Int → Int} (h : y_TL c M0 M) (h2 : y_TL c M M') : y_TL c M0 M' := ⟨h2.1, fun a k q => (h2.2 a k q).trans (h.2 a k q)⟩
theorem tl_20 {M M' : Int → Int → Int} (h : y_TL 0 M M') : y_TL 2 M M' := ⟨h.1, fun a k q => h.2 a k (by
  rcases q with q | q
  · exact Or.inl q
  · exact Or.inr (Or.inl q))⟩
theorem tl_31 {M M' : Int → Int → Int} (h : y_TL 1 M M') : y_TL 3 M M' := ⟨h.1, fun a k q => h.2 a k (by
  rcases q with q | q
  · exact Or.inl q
  · exact Or.inr (Or.inl q))⟩
theorem tl_24 {M M' : Int → Int → Int} (h : y_TL 4 M M') : y_TL 2 M M' := ⟨h.1, fun a k q => h.2 a k (by
  rcases q with q | q
  · exact Or.inl (by omega)
  · exact Or.inr (by omega))⟩
theorem tl_n {M M' : Int → Int → Int} (h : y_TL 0 M M') : M' 1 1 = M 1 1 ∧ M' 1 3 = M 1 3 ∧ M' 1 5 = M 1 5 := ⟨h.2 1 1 (Or.inr (Or.inr (Or.inl (by omega)))), h.2 1 3 (Or.inr (Or.inr (Or.inl (by omega)))), h.2 1 5 (Or.inr (Or.inr (Or.inl (by omega))))⟩
theorem tl_n4 {M M' : Int → Int → Int} (h : y_TL 4 M M') : M' 1 1 = M 1 1 ∧ M' 1 3 = M 1 3 ∧ M' 1 5 = M 1 5 := ⟨h.2 1 1 (Or.inl (by omega)), h.2 1 3 (Or.inl (by omega)), h.2 1 5 (Or.inl (by omega))⟩
theorem tl_a {M M' : Int → Int → Int} (h : y_TL 1 M M') : M' 163 0 = M 163 0 ∧ M' 163 1 = M 163 1 ∧ M' 163 2 = M 163 2 := ⟨h.2 163 0 (Or.inr (Or.inr (Or.inl (by omega)))), h.2 163 1 (Or.inr (Or.inr (Or.inl (by omega)))), h.2 163 2 (Or.inr (Or.inr (Or.inl (by omega))))⟩
theorem tl_15 {M M' : Int → Int → Int} (h : y_TL 5 M M') : y_TL 1 M M' := ⟨h.1, fun a k q => h.2 a k (by
  rcases q with q | q | q
  · exact Or.inl (by omega)
  · exact Or.inr (Or.inl (by omega))
  · exact Or.inr (Or.inr (Or.inl q)))⟩
theorem tl_81 {M M' : Int → Int → Int} (h : y_TL 1 M M') : y_TL 8 M M' := ⟨h.1, fun a k q => h.2 a k (by
  rcases q with q | q | q | q
  · exact Or.inl q
  · exact Or.inr (Or.inl q)
  · exact Or.inr (Or.inr (by unfold y_lm; omega))
  · exact Or.inr (Or.inr (by unfold y_lm; omega)))⟩
theorem tl_90 {M M' : Int → Int → Int} (h : y_TL 0 M M') : y_TL 9 M M' := ⟨h.1, fun a k q => h.2 a k (by
  rcases q with q | q | q
  · exact Or.inl q
  · exact Or.inr (Or.inl q)
  · exact Or.inr (Or.inr q.1))⟩
theorem tl_10_1 {M M' : Int → Int → Int} (h : y_TL 1 M M') : y_TL 10 M M' := ⟨h.1, fun a k q => h.2 a k (by
  rcases q with q | q | q
  · exact Or.inl q
  · exact Or.inr (Or.inl q)
  · exact Or.inr (Or.inr q.1))⟩
theorem tl_10_5 {M M' : Int → Int → Int} (h : y_TL 5 M M') : y_TL 10 M M' := tl_10_1 (tl_15 h)
theorem tl_85 {M M' : Int → Int → Int} (h : y_TL 5 M M') : y_TL 8 M M' := tl_81 (tl_15 h)
theorem tl_16 {M M' : Int → Int → Int} (h : y_TL 6 M M') : y_TL 1 M M' := ⟨h.1, fun a k q => h.2 a k (by
  show a ≠ 167
  rcases q with q | q | q
  · omega
  · omega
  · unfold y_lm at q; omega)⟩
theorem tl_17 {M M' : Int → Int → Int} (h : y_TL 7 M M') : y_TL 1 M M' := ⟨h.1, fun a k q => h.2 a k (by
  show a ≠ 168
  rcases q with q | q | q
  · omega
  · omega
  · unfold y_lm at q; omega)⟩
theorem tl_35 {M M' : Int → Int → Int} (h : y_TL 5 M M') : y_TL 3 M M' := tl_31 (tl_15 h)
theorem tl_n5 {M M' : Int → Int → Int} (h : y_TL 5 M M') : M' 163 0 = M 163 0 ∧ M' 163 1 = M 163 1 ∧ M' 163 2 = M 163 2 ∧ ∀ i, 1594 ≤ i → M' 163 i = M 163 i := ⟨h.2 163 0 (Or.inr (Or.inr (Or.inl (by unfold y_lm; omega)))), h.2 163 1 (Or.inr (Or.inr (Or.inl (by unfold y_lm; omega)))), h.2 163 2 (Or.inr (Or.inr (Or.inl (by unfold y_lm; omega)))), fun i hi => h.2 163 i (Or.inr (Or.inr (Or.inr hi)))⟩
theorem tl_n6 {M M' : Int → Int → Int} (h : y_TL 6 M M') : M' 162 7 = M 162 7 ∧ ∀ i, M' 163 i = M 163 i := ⟨h.2 162 7 (show (162 : Int) ≠ 167 by omega), fun i => h.2 163 i (show (163 : Int) ≠ 167 by omega)⟩
theorem tl_n7 {M M' : Int → Int → Int} (h : y_TL 7 M M') : M' 162 7 = M 162 7 ∧ (∀ i, M' 167 i = M 167 i) ∧ ∀ i, M' 163 i = M 163 i := ⟨h.2 162 7 (show (162 : Int) ≠ 168 by omega), fun i => h.2 167 i (show (167 : Int) ≠ 168 by omega), fun i => h.2 163 i (show (163 : Int) ≠ 168 by omega)⟩
theorem tc_up {M : Int → Int → Int} {a k v : Int} (h : y_TC M) (hs : y_sl a k v) : y_TC (x_up M a k v) := by
  refine ⟨fun b j => ?_, fun s q => ?_, fun w q => ?_, fun c q => ?_⟩
  · unfold x_up
    by_cases e : b = a ∧ j = k
    · rw [if_pos e, e.1, e.2]; exact hs.1
    · rw [if_neg e]; exact h.1 b j
  · rw [x_up_no (fun e => hs.2 ⟨by omega, Or.inl ⟨by omega, by omega, by omega⟩⟩)]; exact h.2.1 s q
  · rw [x_up_no (fun e => hs.2 ⟨by omega, Or.inr (Or.inl ⟨by omega, by omega⟩)⟩)]; exact h.2.2.1 w q
  · rw [x_up_no (fun e => hs.2 ⟨by omega, Or.inr (Or.inr ⟨by omega, by omega, by omega⟩)⟩)]; exact h.2.2.2 c q
theorem tl_up {c : Nat} {M0 M : Int → Int → Int} {a k v : Int} (h : y_TL c M0 M) (hs : y_sl a k v) (hf : ¬ y_fr c a k) : y_TL c M0 (x_up M a k v) := by
  refine ⟨tc_up h.1 hs, fun b j q => ?_⟩
  rw [x_up_no (fun e => hf (by rw [← e.1, ← e.2]; exact q))]
  exact h.2 b j q
theorem nf2 {a k : Int} (h : 1 ≤ a ∧ a < 162) : ¬ y_fr 2 a k := by
  show ¬ (a < 1 ∨ 162 ≤ a)
  omega
theorem nf3 {a k : Int} (h : 162 ≤ a ∧ a < 170) : ¬ y_fr 3 a k := by
  show ¬ (a < 162 ∨ 170 ≤ a)
  omega
theorem nf4 {a k : Int} (h : 3 ≤ a ∧ a < 87) : ¬ y_fr 4 a k := by
  show ¬ (a < 3 ∨ 87 ≤ a)
  omega
theorem nf8 {a k : Int} (h : 162 ≤ a ∧ a < 170 ∧ ¬ a = 164 ∧ k < 1640) : ¬ y_fr 8 a k := by
  show ¬ (a < 162 ∨ 170 ≤ a ∨ a = 164 ∨ (a = 163 ∧ 1640 ≤ k))
  omega
theorem nf9 : ¬ y_fr 9 1 3 := fun q => by
  rcases q with q | q | q
  · omega
  · omega
  · exact q.2 ⟨rfl, rfl⟩
theorem nf10 : ¬ y_fr 10 163 1 := fun q => by
  rcases q with q | q | q
  · omega
  · omega
  · exact q.2 ⟨rfl, rfl⟩
theorem nf10a {a k : Int} (h : ¬ y_fr 1 a k) : ¬ y_fr 10 a k := fun q => by
  rcases q with q | q | q
  · exact h (Or.inl q)
  · exact h (Or.inr (Or.inl q))
  · exact h (Or.inr (Or.inr q.1))
theorem nf6 {k : Int} : ¬ y_fr 6 167 k := fun h => h rfl
theorem nf7 {k : Int} : ¬ y_fr 7 168 k := fun h => h rfl
theorem nf5 {k : Int} (h : ¬ y_fr 1 163 k) (hk : k < 1594) : ¬ y_fr 5 163 k := fun q => by
  rcases q with q | q | q | q
  · omega
  · omega
  · exact h (Or.inr (Or.inr q))
  · omega
theorem okv_m {a k v : Int} (h : 1 ≤ a ∧ a < 155) : y_okv a k v = y_okt (a - 1) k v := by
  unfold y_okv
  rw [if_neg (by omega), if_pos (by omega)]
theorem okv_o {a k v : Int} (h : 155 ≤ a ∧ a < 170) : y_okv a k v = y_okm a k v := by
  unfold y_okv
  rw [if_neg (by omega), if_neg (by omega), if_pos (by omega)]
theorem ty_town1 {M : Int → Int → Int} (hT : y_TC M)  : (0 : Int) ≤ M (1) 1 ∧ M (1) 1 ≤ 12 := by
  have h := hT.1 (1) 1
  exact (by
    rw [okv_m (by omega)] at h
    unfold y_okt at h
    rw [if_pos (by omega)] at h
    rw [if_pos (by omega)] at h
    exact h)
theorem sl_town1 {v : Int}  (hv : 0 ≤ v ∧ v ≤ 12) : y_sl (1) 1 v := by
  refine ⟨?_, ?_⟩
  · rw [okv_m (by omega)]
    unfold y_okt
    rw [if_pos (by omega)]
    rw [if_pos (by omega)]
    exact hv
  · unfold y_nu; omega
theorem ty_town3 {M : Int → Int → Int} (hT : y_TC M)  : (0 : Int) ≤ M (1) 3 ∧ M (1) 3 ≤ 60 := by
  have h := hT.1 (1) 3
  exact (by
    rw [okv_m (by omega)] at h
    unfold y_okt at h
    rw [if_pos (by omega)] at h
    rw [if_neg (by omega), if_pos (by omega)] at h
    exact h)
theorem sl_town3 {v : Int}  (hv : 0 ≤ v ∧ v ≤ 60) : y_sl (1) 3 v := by
  refine ⟨?_, ?_⟩
  · rw [okv_m (by omega)]
    unfold y_okt
    rw [if_pos (by omega)]
    rw [if_neg (by omega), if_pos (by omega)]
    exact hv
  · unfold y_nu; omega
theorem ty_town5 {M : Int → Int → Int} (hT : y_TC M)  : (0 : Int) ≤ M (1) 5 ∧ M (1) 5 ≤ 3 := by
  have h := hT.1 (1) 5
  exact (by
    rw [okv_m (by omega)] at h
    unfold y_okt at h
    rw [if_pos (by omega)] at h
    rw [if_neg (by omega), if_neg (by omega), if_pos (by omega)] at h
    exact h)
theorem sl_town5 {v : Int}  (hv : 0 ≤ v ∧ v ≤ 3) : y_sl (1) 5 v := by
  refine ⟨?_, ?_⟩
  · rw [okv_m (by omega)]
    unfold y_okt
    rw [if_pos (by omega)]
    rw [if_neg (by omega), if_neg (by omega), if_pos (by omega)]
    exact hv
  · unfold y_nu; omega
theorem ty_town6 {M : Int → Int → Int} (hT : y_TC M)  : (0 : Int) ≤ M (1) 6 ∧ M (1) 6 ≤ 23 := by
  have h := hT.1 (1) 6
  exact (by
    rw [okv_m (by omega)] at h
    unfold y_okt at h
    rw [if_pos (by omega)] at h
    rw [if_neg (by omega), if_neg (by omega), if_neg (by omega), if_pos (by omega)] at h
    exact h)
theorem sl_town6 {v : Int}  (hv : 0 ≤ v ∧ v ≤ 23) : y_sl (1) 6 v := by
  refine ⟨?_, ?_⟩
  · rw [okv_m (by omega)]
    unfold y_okt
    rw [if_pos (by omega)]
    rw [if_neg (by omega), if_neg (by omega), if_neg (by omega), if_pos (by omega)]
    exact hv
  · unfold y_nu; omega
theorem ty_st1 {i : Int} {M : Int → Int → Int} (hT : y_TC M) (hi : 0 ≤ i ∧ i < 12) : (0 : Int) ≤ M (3 + 7 * i) 1 ∧ M (3 + 7 * i) 1 ≤ 12 := by
  have h := hT.1 (3 + 7 * i) 1
  exact (by
    rw [okv_m (by omega)] at h
    unfold y_okt at h
    rw [if_neg (by omega), if_neg (by omega), if_pos (by omega), if_pos (by omega)] at h
    rw [if_pos (by omega)] at h
    exact h)
theorem sl_st1 {i : Int} {v : Int} (hi : 0 ≤ i ∧ i < 12) (hv : 0 ≤ v ∧ v ≤ 12) : y_sl (3 + 7 * i) 1 v := by
  refine ⟨?_, ?_⟩
  · rw [okv_m (by omega)]
    unfold y_okt
    rw [if_neg (by omega), if_neg (by omega), if_pos (by omega), if_pos (by omega)]
    rw [if_pos (by omega)]
    exact hv
  · unfold y_nu; omega
theorem nf_st1 {i : Int} (hi : 0 ≤ i ∧ i < 12) : ¬ y_fr 0 (3 + 7 * i) 1 := by
  show ¬ (_ ∨ _ ∨ y_lc _ _)
  unfold y_lc
  omega
theorem ty_st5 {i : Int} {M : Int → Int → Int} (hT : y_TC M) (hi : 0 ≤ i ∧ i < 12) : (-1 : Int) ≤ M (3 + 7 * i) 5 ∧ M (3 + 7 * i) 5 ≤ 8 := by
  have h := hT.1 (3 + 7 * i) 5
  exact (by
    rw [okv_m (by omega)] at h
    unfold y_okt at h
    rw [if_neg (by omega), if_neg (by omega), if_pos (by omega), if_pos (by omega)] at h
    rw [if_neg (by omega), if_pos (by omega)] at h
    exact h)
theorem sl_st5 {i : Int} {v : Int} (hi : 0 ≤ i ∧ i < 12) (hv : -1 ≤ v ∧ v ≤ 8) : y_sl (3 + 7 * i) 5 v := by
  refine ⟨?_, ?_⟩
  · rw [okv_m (by omega)]
    unfold y_okt
    rw [if_neg (by omega), if_neg (by omega), if_pos (by omega), if_pos (by omega)]
    rw [if_neg (by omega), if_pos (by omega)]
    exact hv
  · unfold y_nu; omega
theorem ty_st6 {i : Int} {M : Int → Int → Int} (hT : y_TC M) (hi : 0 ≤ i ∧ i < 12) : (-1 : Int) ≤ M (3 + 7 * i) 6 ∧ M (3 + 7 * i) 6 ≤ 12 := by
  have h := hT.1 (3 + 7 * i) 6
  exact (by
    rw [okv_m (by omega)] at h
    unfold y_okt at h
    rw [if_neg (by omega), if_neg (by omega), if_pos (by omega), if_pos (by omega)] at h
    rw [if_neg (by omega), if_neg (by omega), if_pos (by omega)] at h
    exact h)
theorem sl_st6 {i : Int} {v : Int} (hi : 0 ≤ i ∧ i < 12) (hv : -1 ≤ v ∧ v ≤ 12) : y_sl (3 + 7 * i) 6 v := by
  refine ⟨?_, ?_⟩
  · rw [okv_m (by omega)]
    unfold y_okt
    rw [if_neg (by omega), if_neg (by omega), if_pos (by omega), if_pos (by omega)]
    rw [if_neg (by omega), if_neg (by omega), if_pos (by omega)]
    exact hv
  · unfold y_nu; omega
theorem nf_st6 {i : Int} (hi : 0 ≤ i ∧ i < 12) : ¬ y_fr 0 (3 + 7 * i) 6 := by
  show ¬ (_ ∨ _ ∨ y_lc _ _)
  unfold y_lc
  omega
theorem sl_st7 {i : Int} {v : Int} (hi : 0 ≤ i ∧ i < 12)  : y_sl (3 + 7 * i) 7 v := by
  refine ⟨?_, ?_⟩
  · rw [okv_m (by omega)]
    unfold y_okt
    rw [if_neg (by omega), if_neg (by omega), if_pos (by omega), if_pos (by omega)]
    rw [if_neg (by omega), if_neg (by omega), if_neg (by omega)]
    exact trivial
  · unfold y_nu; omega
theorem nf_st7 {i : Int} (hi : 0 ≤ i ∧ i < 12) : ¬ y_fr 0 (3 + 7 * i) 7 := by
  show ¬ (_ ∨ _ ∨ y_lc _ _)
  unfold y_lc
  omega
theorem ty_con {i : Int} {j : Int} {M : Int → Int → Int} (hT : y_TC M) (hi : 0 ≤ i ∧ i < 12) (hj : 0 ≤ j ∧ j < 12) : (-2 : Int) ≤ M (4 + 7 * i) j ∧ M (4 + 7 * i) j ≤ 59 := by
  have h := hT.1 (4 + 7 * i) j
  rw [okv_m (by omega)] at h
  unfold y_okt at h
  rw [if_neg (by omega), if_neg (by omega), if_pos (by omega), if_neg (by omega), if_pos (by omega)] at h
  exact h hj
theorem sl_con {i : Int} {j v : Int} (hi : 0 ≤ i ∧ i < 12) (hv : -2 ≤ v ∧ v ≤ 59) : y_sl (4 + 7 * i) j v := by
  refine ⟨?_, ?_⟩
  · rw [okv_m (by omega)]
    unfold y_okt
    rw [if_neg (by omega), if_neg (by omega), if_pos (by omega), if_neg (by omega), if_pos (by omega)]
    exact fun _ => hv
  · unfold y_nu; omega
theorem nf_con {i : Int} {j : Int} (hi : 0 ≤ i ∧ i < 12) : ¬ y_fr 0 (4 + 7 * i) j := by
  show ¬ (_ ∨ _ ∨ y_lc _ _)
  unfold y_lc
  omega
theorem ty_len {i : Int} {j : Int} {M : Int → Int → Int} (hT : y_TC M) (hi : 0 ≤ i ∧ i < 12) (hj : 0 ≤ j ∧ j < 12) : (0 : Int) ≤ M (5 + 7 * i) j ∧ M (5 + 7 * i) j ≤ 999 := by
  have h := hT.1 (5 + 7 * i) j
  rw [okv_m (by omega)] at h
  unfold y_okt at h
  rw [if_neg (by omega), if_neg (by omega), if_pos (by omega), if_neg (by omega), if_neg (by omega), if_pos (by omega)] at h
  exact h hj
theorem sl_len {i : Int} {j v : Int} (hi : 0 ≤ i ∧ i < 12) (hv : 0 ≤ v ∧ v ≤ 999) : y_sl (5 + 7 * i) j v := by
  refine ⟨?_, ?_⟩
  · rw [okv_m (by omega)]
    unfold y_okt
    rw [if_neg (by omega), if_neg (by omega), if_pos (by omega), if_neg (by omega), if_neg (by omega), if_pos (by omega)]
    exact fun _ => hv
  · unfold y_nu; omega
theorem nf_len {i : Int} {j : Int} (hi : 0 ≤ i ∧ i < 12) : ¬ y_fr 0 (5 + 7 * i) j := by
  show ¬ (_ ∨ _ ∨ y_lc _ _)
  unfold y_lc
  omega
theorem ty_oth {i : Int} {j : Int} {M : Int → Int → Int} (hT : y_TC M) (hi : 0 ≤ i ∧ i < 12) (hj : 0 ≤ j ∧ j < 8) : (0 : Int) ≤ M (6 + 7 * i) j ∧ M (6 + 7 * i) j ≤ 11 := by
  have h := hT.1 (6 + 7 * i) j
  rw [okv_m (by omega)] at h
  unfold y_okt at h
  rw [if_neg (by omega), if_neg (by omega), if_pos (by omega), if_neg (by omega), if_neg (by omega), if_neg (by omega), if_pos (by omega)] at h
  exact h hj
theorem sl_oth {i : Int} {j v : Int} (hi : 0 ≤ i ∧ i < 12) (hv : 0 ≤ v ∧ v ≤ 11) : y_sl (6 + 7 * i) j v := by
  refine ⟨?_, ?_⟩
  · rw [okv_m (by omega)]
    unfold y_okt
    rw [if_neg (by omega), if_neg (by omega), if_pos (by omega), if_neg (by omega), if_neg (by omega), if_neg (by omega), if_pos (by omega)]
    exact fun _ => hv
  · unfold y_nu; omega
theorem nf_oth {i : Int} {j : Int} (hi : 0 ≤ i ∧ i < 12) : ¬ y_fr 0 (6 + 7 * i) j := by
  show ¬ (_ ∨ _ ∨ y_lc _ _)
  unfold y_lc
  omega
theorem ty_dem0 {i : Int} {M : Int → Int → Int} (hT : y_TC M) (hi : 0 ≤ i ∧ i < 12) : (0 : Int) ≤ M (7 + 7 * i) 0 ∧ M (7 + 7 * i) 0 ≤ 1 := by
  have h := hT.1 (7 + 7 * i) 0
  exact (by
    rw [okv_m (by omega)] at h
    unfold y_okt at h
    rw [if_neg (by omega), if_neg (by omega), if_pos (by omega), if_neg (by omega), if_neg (by omega), if_neg (by omega), if_neg (by omega), if_pos (by omega)] at h
    rw [if_pos (by omega)] at h
    exact h)
theorem sl_dem0 {i : Int} {v : Int} (hi : 0 ≤ i ∧ i < 12) (hv : 0 ≤ v ∧ v ≤ 1) : y_sl (7 + 7 * i) 0 v := by
  refine ⟨?_, ?_⟩
  · rw [okv_m (by omega)]
    unfold y_okt
    rw [if_neg (by omega), if_neg (by omega), if_pos (by omega), if_neg (by omega), if_neg (by omega), if_neg (by omega), if_neg (by omega), if_pos (by omega)]
    rw [if_pos (by omega)]
    exact hv
  · unfold y_nu; omega
theorem ty_br {i : Int} {j : Int} {M : Int → Int → Int} (hT : y_TC M) (hi : 0 ≤ i ∧ i < 12) (hj : 0 ≤ j ∧ j < 24) : (0 : Int) ≤ M (8 + 7 * i) j ∧ M (8 + 7 * i) j ≤ 99 := by
  have h := hT.1 (8 + 7 * i) j
  rw [okv_m (by omega)] at h
  unfold y_okt at h
  rw [if_neg (by omega), if_neg (by omega), if_pos (by omega), if_neg (by omega), if_neg (by omega), if_neg (by omega), if_neg (by omega), if_neg (by omega)] at h
  exact h hj
theorem sl_br {i : Int} {j v : Int} (hi : 0 ≤ i ∧ i < 12) (hv : 0 ≤ v ∧ v ≤ 99) : y_sl (8 + 7 * i) j v := by
  refine ⟨?_, ?_⟩
  · rw [okv_m (by omega)]
    unfold y_okt
    rw [if_neg (by omega), if_neg (by omega), if_pos (by omega), if_neg (by omega), if_neg (by omega), if_neg (by omega), if_neg (by omega), if_neg (by omega)]
    exact fun _ => hv
  · unfold y_nu; omega
theorem nf_br {i : Int} {j : Int} (hi : 0 ≤ i ∧ i < 12) : ¬ y_fr 0 (8 + 7 * i) j := by
  show ¬ (_ ∨ _ ∨ y_lc _ _)
  unfold y_lc
  omega
theorem ty_wa {i : Int} {j : Int} {M : Int → Int → Int} (hT : y_TC M) (hi : 0 ≤ i ∧ i < 12) (hj : 0 ≤ j ∧ j < 24) : (0 : Int) ≤ M (9 + 7 * i) j ∧ M (9 + 7 * i) j ≤ 99 := by
  have h := hT.1 (9 + 7 * i) j
  rw [okv_m (by omega)] at h
  unfold y_okt at h
  rw [if_neg (by omega), if_neg (by omega), if_pos (by omega), if_neg (by omega), if_neg (by omega), if_neg (by omega), if_neg (by omega), if_neg (by omega)] at h
  exact h hj
theorem sl_wa {i : Int} {j v : Int} (hi : 0 ≤ i ∧ i < 12) (hv : 0 ≤ v ∧ v ≤ 99) : y_sl (9 + 7 * i) j v := by
  refine ⟨?_, ?_⟩
  · rw [okv_m (by omega)]
    unfold y_okt
    rw [if_neg (by omega), if_neg (by omega), if_pos (by omega), if_neg (by omega), if_neg (by omega), if_neg (by omega), if_neg (by omega), if_neg (by omega)]
    exact fun _ => hv
  · unfold y_nu; omega
theorem nf_wa {i : Int} {j : Int} (hi : 0 ≤ i ∧ i < 12) : ¬ y_fr 0 (9 + 7 * i) j := by
  show ¬ (_ ∨ _ ∨ y_lc _ _)
  unfold y_lc
  omega
theorem ty_wh1 {i : Int} {M : Int → Int → Int} (hT : y_TC M) (hi : 0 ≤ i ∧ i < 60) : (0 : Int) ≤ M (88 + i) 1 ∧ M (88 + i) 1 ≤ 3 := by
  have h := hT.1 (88 + i) 1
  exact (by
    rw [okv_m (by omega)] at h
    unfold y_okt at h
    rw [if_neg (by omega), if_neg (by omega), if_neg (by omega), if_neg (by omega), if_pos (by omega)] at h
    rw [if_pos (by omega)] at h
    exact h)
theorem sl_wh1 {i : Int} {v : Int} (hi : 0 ≤ i ∧ i < 60) (hv : 0 ≤ v ∧ v ≤ 3) : y_sl (88 + i) 1 v := by
  refine ⟨?_, ?_⟩
  · rw [okv_m (by omega)]
    unfold y_okt
    rw [if_neg (by omega), if_neg (by omega), if_neg (by omega), if_neg (by omega), if_pos (by omega)]
    rw [if_pos (by omega)]
    exact hv
  · unfold y_nu; omega
theorem nf_wh1 {i : Int} (hi : 0 ≤ i ∧ i < 60) : ¬ y_fr 0 (88 + i) 1 := by
  show ¬ (_ ∨ _ ∨ y_lc _ _)
  unfold y_lc
  omega
theorem ty_wh2 {i : Int} {M : Int → Int → Int} (hT : y_TC M) (hi : 0 ≤ i ∧ i < 60) : (0 : Int) ≤ M (88 + i) 2 ∧ M (88 + i) 2 ≤ 1000 := by
  have h := hT.1 (88 + i) 2
  exact (by
    rw [okv_m (by omega)] at h
    unfold y_okt at h
    rw [if_neg (by omega), if_neg (by omega), if_neg (by omega), if_neg (by omega), if_pos (by omega)] at h
    rw [if_neg (by omega), if_pos (by omega)] at h
    exact h)
theorem sl_wh2 {i : Int} {v : Int} (hi : 0 ≤ i ∧ i < 60) (hv : 0 ≤ v ∧ v ≤ 1000) : y_sl (88 + i) 2 v := by
  refine ⟨?_, ?_⟩
  · rw [okv_m (by omega)]
    unfold y_okt
    rw [if_neg (by omega), if_neg (by omega), if_neg (by omega), if_neg (by omega), if_pos (by omega)]
    rw [if_neg (by omega), if_pos (by omega)]
    exact hv
  · unfold y_nu; omega
theorem nf_wh2 {i : Int} (hi : 0 ≤ i ∧ i < 60) : ¬ y_fr 0 (88 + i) 2 := by
  show ¬ (_ ∨ _ ∨ y_lc _ _)
  unfold y_lc
  omega
theorem ty_wh3 {i : Int} {M : Int → Int → Int} (hT : y_TC M) (hi : 0 ≤ i ∧ i < 60) : (0 : Int) ≤ M (88 + i) 3 ∧ M (88 + i) 3 ≤ 3 := by
  have h := hT.1 (88 + i) 3
  exact (by
    rw [okv_m (by omega)] at h
    unfold y_okt at h
    rw [if_neg (by omega), if_neg (by omega), if_neg (by omega), if_neg (by omega), if_pos (by omega)] at h
    rw [if_neg (by omega), if_neg (by omega), if_pos (by omega)] at h
    exact h)
theorem sl_wh3 {i : Int} {v : Int} (hi : 0 ≤ i ∧ i < 60) (hv : 0 ≤ v ∧ v ≤ 3) : y_sl (88 + i) 3 v := by
  refine ⟨?_, ?_⟩
  · rw [okv_m (by omega)]
    unfold y_okt
    rw [if_neg (by omega), if_neg (by omega), if_neg (by omega), if_neg (by omega), if_pos (by omega)]
    rw [if_neg (by omega), if_neg (by omega), if_pos (by omega)]
    exact hv
  · unfold y_nu; omega
theorem nf_wh3 {i : Int} (hi : 0 ≤ i ∧ i < 60) : ¬ y_fr 0 (88 + i) 3 := by
  show ¬ (_ ∨ _ ∨ y_lc _ _)
  unfold y_lc
  omega
theorem ty_wh4 {i : Int} {M : Int → Int → Int} (hT : y_TC M) (hi : 0 ≤ i ∧ i < 60) : (-1 : Int) ≤ M (88 + i) 4 ∧ M (88 + i) 4 ≤ 11 := by
  have h := hT.1 (88 + i) 4
  exact (by
    rw [okv_m (by omega)] at h
    unfold y_okt at h
    rw [if_neg (by omega), if_neg (by omega), if_neg (by omega), if_neg (by omega), if_pos (by omega)] at h
    rw [if_neg (by omega), if_neg (by omega), if_neg (by omega), if_pos (by omega)] at h
    exact h)
theorem sl_wh4 {i : Int} {v : Int} (hi : 0 ≤ i ∧ i < 60) (hv : -1 ≤ v ∧ v ≤ 11) : y_sl (88 + i) 4 v := by
  refine ⟨?_, ?_⟩
  · rw [okv_m (by omega)]
    unfold y_okt
    rw [if_neg (by omega), if_neg (by omega), if_neg (by omega), if_neg (by omega), if_pos (by omega)]
    rw [if_neg (by omega), if_neg (by omega), if_neg (by omega), if_pos (by omega)]
    exact hv
  · unfold y_nu; omega
theorem nf_wh4 {i : Int} (hi : 0 ≤ i ∧ i < 60) : ¬ y_fr 0 (88 + i) 4 := by
  show ¬ (_ ∨ _ ∨ y_lc _ _)
  unfold y_lc
  omega
theorem ty_wh5 {i : Int} {M : Int → Int → Int} (hT : y_TC M) (hi : 0 ≤ i ∧ i < 60) : (-1 : Int) ≤ M (88 + i) 5 ∧ M (88 + i) 5 ≤ 11 := by
  have h := hT.1 (88 + i) 5
  exact (by
    rw [okv_m (by omega)] at h
    unfold y_okt at h
    rw [if_neg (by omega), if_neg (by omega), if_neg (by omega), if_neg (by omega), if_pos (by omega)] at h
    rw [if_neg (by omega), if_neg (by omega), if_neg (by omega), if_neg (by omega), if_pos (by omega)] at h
    exact h)
theorem sl_wh5 {i : Int} {v : Int} (hi : 0 ≤ i ∧ i < 60) (hv : -1 ≤ v ∧ v ≤ 11) : y_sl (88 + i) 5 v := by
  refine ⟨?_, ?_⟩
  · rw [okv_m (by omega)]
    unfold y_okt
    rw [if_neg (by omega), if_neg (by omega), if_neg (by omega), if_neg (by omega), if_pos (by omega)]
    rw [if_neg (by omega), if_neg (by omega), if_neg (by omega), if_neg (by omega), if_pos (by omega)]
    exact hv
  · unfold y_nu; omega
theorem nf_wh5 {i : Int} (hi : 0 ≤ i ∧ i < 60) : ¬ y_fr 0 (88 + i) 5 := by
  show ¬ (_ ∨ _ ∨ y_lc _ _)
  unfold y_lc
  omega
theorem sl_wh6 {i : Int} {v : Int} (hi : 0 ≤ i ∧ i < 60)  : y_sl (88 + i) 6 v := by
  refine ⟨?_, ?_⟩
  · rw [okv_m (by omega)]
    unfold y_okt
    rw [if_neg (by omega), if_neg (by omega), if_neg (by omega), if_neg (by omega), if_pos (by omega)]
    rw [if_neg (by omega), if_neg (by omega), if_neg (by omega), if_neg (by omega), if_neg (by omega), if_neg (by omega), if_neg (by omega), if_neg (by omega)]
    exact trivial
  · unfold y_nu; omega
theorem nf_wh6 {i : Int} (hi : 0 ≤ i ∧ i < 60) : ¬ y_fr 0 (88 + i) 6 := by
  show ¬ (_ ∨ _ ∨ y_lc _ _)
  unfold y_lc
  omega
theorem ty_wh7 {i : Int} {M : Int → Int → Int} (hT : y_TC M) (hi : 0 ≤ i ∧ i < 60) : (0 : Int) ≤ M (88 + i) 7 ∧ M (88 + i) 7 ≤ 1 := by
  have h := hT.1 (88 + i) 7
  exact (by
    rw [okv_m (by omega)] at h
    unfold y_okt at h
    rw [if_neg (by omega), if_neg (by omega), if_neg (by omega), if_neg (by omega), if_pos (by omega)] at h
    rw [if_neg (by omega), if_neg (by omega), if_neg (by omega), if_neg (by omega), if_neg (by omega), if_pos (by omega)] at h
    exact h)
theorem sl_wh7 {i : Int} {v : Int} (hi : 0 ≤ i ∧ i < 60) (hv : 0 ≤ v ∧ v ≤ 1) : y_sl (88 + i) 7 v := by
  refine ⟨?_, ?_⟩
  · rw [okv_m (by omega)]
    unfold y_okt
    rw [if_neg (by omega), if_neg (by omega), if_neg (by omega), if_neg (by omega), if_pos (by omega)]
    rw [if_neg (by omega), if_neg (by omega), if_neg (by omega), if_neg (by omega), if_neg (by omega), if_pos (by omega)]
    exact hv
  · unfold y_nu; omega
theorem nf_wh7 {i : Int} (hi : 0 ≤ i ∧ i < 60) : ¬ y_fr 0 (88 + i) 7 := by
  show ¬ (_ ∨ _ ∨ y_lc _ _)
  unfold y_lc
  omega
theorem ty_wh8 {i : Int} {M : Int → Int → Int} (hT : y_TC M) (hi : 0 ≤ i ∧ i < 60) : (0 : Int) ≤ M (88 + i) 8 ∧ M (88 + i) 8 ≤ 1 := by
  have h := hT.1 (88 + i) 8
  exact (by
    rw [okv_m (by omega)] at h
    unfold y_okt at h
    rw [if_neg (by omega), if_neg (by omega), if_neg (by omega), if_neg (by omega), if_pos (by omega)] at h
    rw [if_neg (by omega), if_neg (by omega), if_neg (by omega), if_neg (by omega), if_neg (by omega), if_neg (by omega), if_pos (by omega)] at h
    exact h)
theorem sl_wh8 {i : Int} {v : Int} (hi : 0 ≤ i ∧ i < 60) (hv : 0 ≤ v ∧ v ≤ 1) : y_sl (88 + i) 8 v := by
  refine ⟨?_, ?_⟩
  · rw [okv_m (by omega)]
    unfold y_okt
    rw [if_neg (by omega), if_neg (by omega), if_neg (by omega), if_neg (by omega), if_pos (by omega)]
    rw [if_neg (by omega), if_neg (by omega), if_neg (by omega), if_neg (by omega), if_neg (by omega), if_neg (by omega), if_pos (by omega)]
    exact hv
  · unfold y_nu; omega
theorem nf_wh8 {i : Int} (hi : 0 ≤ i ∧ i < 60) : ¬ y_fr 0 (88 + i) 8 := by
  show ¬ (_ ∨ _ ∨ y_lc _ _)
  unfold y_lc
  omega
theorem ty_wh9 {i : Int} {M : Int → Int → Int} (hT : y_TC M) (hi : 0 ≤ i ∧ i < 60) : (-1 : Int) ≤ M (88 + i) 9 ∧ M (88 + i) 9 ≤ 59 := by
  have h := hT.1 (88 + i) 9
  exact (by
    rw [okv_m (by omega)] at h
    unfold y_okt at h
    rw [if_neg (by omega), if_neg (by omega), if_neg (by omega), if_neg (by omega), if_pos (by omega)] at h
    rw [if_neg (by omega), if_neg (by omega), if_neg (by omega), if_neg (by omega), if_neg (by omega), if_neg (by omega), if_neg (by omega), if_pos (by omega)] at h
    exact h)
theorem sl_wh9 {i : Int} {v : Int} (hi : 0 ≤ i ∧ i < 60) (hv : -1 ≤ v ∧ v ≤ 59) : y_sl (88 + i) 9 v := by
  refine ⟨?_, ?_⟩
  · rw [okv_m (by omega)]
    unfold y_okt
    rw [if_neg (by omega), if_neg (by omega), if_neg (by omega), if_neg (by omega), if_pos (by omega)]
    rw [if_neg (by omega), if_neg (by omega), if_neg (by omega), if_neg (by omega), if_neg (by omega), if_neg (by omega), if_neg (by omega), if_pos (by omega)]
    exact hv
  · unfold y_nu; omega
theorem nf_wh9 {i : Int} (hi : 0 ≤ i ∧ i < 60) : ¬ y_fr 0 (88 + i) 9 := by
  show ¬ (_ ∨ _ ∨ y_lc _ _)
  unfold y_lc
  omega
theorem ty_ca1 {i : Int} {M : Int → Int → Int} (hT : y_TC M) (hi : 0 ≤ i ∧ i < 3) : (0 : Int) ≤ M (149 + 2 * i) 1 ∧ M (149 + 2 * i) 1 ≤ 8 := by
  have h := hT.1 (149 + 2 * i) 1
  exact (by
    rw [okv_m (by omega)] at h
    unfold y_okt at h
    rw [if_neg (by omega), if_neg (by omega), if_neg (by omega), if_neg (by omega), if_neg (by omega), if_neg (by omega), if_pos (by omega)] at h
    rw [if_pos (by omega)] at h
    exact h)
theorem sl_ca1 {i : Int} {v : Int} (hi : 0 ≤ i ∧ i < 3) (hv : 0 ≤ v ∧ v ≤ 8) : y_sl (149 + 2 * i) 1 v := by
  refine ⟨?_, ?_⟩
  · rw [okv_m (by omega)]
    unfold y_okt
    rw [if_neg (by omega), if_neg (by omega), if_neg (by omega), if_neg (by omega), if_neg (by omega), if_neg (by omega), if_pos (by omega)]
    rw [if_pos (by omega)]
    exact hv
  · unfold y_nu; omega
theorem nf_ca1 {i : Int} (hi : 0 ≤ i ∧ i < 3) : ¬ y_fr 0 (149 + 2 * i) 1 := by
  show ¬ (_ ∨ _ ∨ y_lc _ _)
  unfold y_lc
  omega
theorem ty_ca2 {i : Int} {M : Int → Int → Int} (hT : y_TC M) (hi : 0 ≤ i ∧ i < 3) : (0 : Int) ≤ M (149 + 2 * i) 2 ∧ M (149 + 2 * i) 2 ≤ 11 := by
  have h := hT.1 (149 + 2 * i) 2
  exact (by
    rw [okv_m (by omega)] at h
    unfold y_okt at h
    rw [if_neg (by omega), if_neg (by omega), if_neg (by omega), if_neg (by omega), if_neg (by omega), if_neg (by omega), if_pos (by omega)] at h
    rw [if_neg (by omega), if_pos (by omega)] at h
    exact h)
theorem sl_ca2 {i : Int} {v : Int} (hi : 0 ≤ i ∧ i < 3) (hv : 0 ≤ v ∧ v ≤ 11) : y_sl (149 + 2 * i) 2 v := by
  refine ⟨?_, ?_⟩
  · rw [okv_m (by omega)]
    unfold y_okt
    rw [if_neg (by omega), if_neg (by omega), if_neg (by omega), if_neg (by omega), if_neg (by omega), if_neg (by omega), if_pos (by omega)]
    rw [if_neg (by omega), if_pos (by omega)]
    exact hv
  · unfold y_nu; omega
theorem nf_ca2 {i : Int} (hi : 0 ≤ i ∧ i < 3) : ¬ y_fr 0 (149 + 2 * i) 2 := by
  show ¬ (_ ∨ _ ∨ y_lc _ _)
  unfold y_lc
  omega
theorem sl_ca3 {i : Int} {v : Int} (hi : 0 ≤ i ∧ i < 3)  : y_sl (149 + 2 * i) 3 v := by
  refine ⟨?_, ?_⟩
  · rw [okv_m (by omega)]
    unfold y_okt
    rw [if_neg (by omega), if_neg (by omega), if_neg (by omega), if_neg (by omega), if_neg (by omega), if_neg (by omega), if_pos (by omega)]
    rw [if_neg (by omega), if_neg (by omega), if_neg (by omega)]
    exact trivial
  · unfold y_nu; omega
theorem nf_ca3 {i : Int} (hi : 0 ≤ i ∧ i < 3) : ¬ y_fr 0 (149 + 2 * i) 3 := by
  show ¬ (_ ∨ _ ∨ y_lc _ _)
  unfold y_lc
  omega
theorem sl_ca4 {i : Int} {v : Int} (hi : 0 ≤ i ∧ i < 3)  : y_sl (149 + 2 * i) 4 v := by
  refine ⟨?_, ?_⟩
  · rw [okv_m (by omega)]
    unfold y_okt
    rw [if_neg (by omega), if_neg (by omega), if_neg (by omega), if_neg (by omega), if_neg (by omega), if_neg (by omega), if_pos (by omega)]
    rw [if_neg (by omega), if_neg (by omega), if_neg (by omega)]
    exact trivial
  · unfold y_nu; omega
theorem nf_ca4 {i : Int} (hi : 0 ≤ i ∧ i < 3) : ¬ y_fr 0 (149 + 2 * i) 4 := by
  show ¬ (_ ∨ _ ∨ y_lc _ _)
  unfold y_lc
  omega
theorem ty_ca6 {i : Int} {M : Int → Int → Int} (hT : y_TC M) (hi : 0 ≤ i ∧ i < 3) : (0 : Int) ≤ M (149 + 2 * i) 6 ∧ M (149 + 2 * i) 6 ≤ 8 := by
  have h := hT.1 (149 + 2 * i) 6
  exact (by
    rw [okv_m (by omega)] at h
    unfold y_okt at h
    rw [if_neg (by omega), if_neg (by omega), if_neg (by omega), if_neg (by omega), if_neg (by omega), if_neg (by omega), if_pos (by omega)] at h
    rw [if_neg (by omega), if_neg (by omega), if_pos (by omega)] at h
    exact h)
theorem sl_ca6 {i : Int} {v : Int} (hi : 0 ≤ i ∧ i < 3) (hv : 0 ≤ v ∧ v ≤ 8) : y_sl (149 + 2 * i) 6 v := by
  refine ⟨?_, ?_⟩
  · rw [okv_m (by omega)]
    unfold y_okt
    rw [if_neg (by omega), if_neg (by omega), if_neg (by omega), if_neg (by omega), if_neg (by omega), if_neg (by omega), if_pos (by omega)]
    rw [if_neg (by omega), if_neg (by omega), if_pos (by omega)]
    exact hv
  · unfold y_nu; omega
theorem nf_ca6 {i : Int} (hi : 0 ≤ i ∧ i < 3) : ¬ y_fr 0 (149 + 2 * i) 6 := by
  show ¬ (_ ∨ _ ∨ y_lc _ _)
  unfold y_lc
  omega
theorem ty_row {i : Int} {j : Int} {M : Int → Int → Int} (hT : y_TC M) (hi : 0 ≤ i ∧ i < 3) (hj : 0 ≤ j ∧ j < 8) : (0 : Int) ≤ M (150 + 2 * i) j ∧ M (150 + 2 * i) j ≤ 59 := by
  have h := hT.1 (150 + 2 * i) j
  rw [okv_m (by omega)] at h
  unfold y_okt at h
  rw [if_neg (by omega), if_neg (by omega), if_neg (by omega), if_neg (by omega), if_neg (by omega), if_neg (by omega), if_neg (by omega)] at h
  exact h hj
theorem sl_row {i : Int} {j v : Int} (hi : 0 ≤ i ∧ i < 3) (hv : 0 ≤ v ∧ v ≤ 59) : y_sl (150 + 2 * i) j v := by
  refine ⟨?_, ?_⟩
  · rw [okv_m (by omega)]
    unfold y_okt
    rw [if_neg (by omega), if_neg (by omega), if_neg (by omega), if_neg (by omega), if_neg (by omega), if_neg (by omega), if_neg (by omega)]
    exact fun _ => hv
  · unfold y_nu; omega
theorem nf_row {i : Int} {j : Int} (hi : 0 ≤ i ∧ i < 3) : ¬ y_fr 0 (150 + 2 * i) j := by
  show ¬ (_ ∨ _ ∨ y_lc _ _)
  unfold y_lc
  omega
theorem nu_st {i : Int} {M : Int → Int → Int} (hT : y_TC M) (hi : 0 ≤ i ∧ i < 12) : M (3 + 7 * i) 0 = i := x_Pe (hT.2.1 i hi) (by omega) rfl
theorem nu_wh {i : Int} {M : Int → Int → Int} (hT : y_TC M) (hi : 0 ≤ i ∧ i < 60) : M (88 + i) 0 = i := x_Pe (hT.2.2.1 i hi) (by omega) rfl
theorem nu_ca {i : Int} {M : Int → Int → Int} (hT : y_TC M) (hi : 0 ≤ i ∧ i < 3) : M (149 + 2 * i) 0 = i := x_Pe (hT.2.2.2 i hi) (by omega) rfl
theorem ty_tour1 {M : Int → Int → Int} (hT : y_TC M) : (0 : Int) ≤ M 156 1 ∧ M 156 1 ≤ 7 := by
  have h := hT.1 156 1
  rw [okv_o (by omega)] at h
  simpa [y_okm] using h
theorem sl_tour1 {v : Int} (hv : 0 ≤ v ∧ v ≤ 7) : y_sl 156 1 v := by
  refine ⟨?_, ?_⟩
  · rw [okv_o (by omega)]
    simp [y_okm]
    exact hv
  · unfold y_nu; omega
theorem nf_tour1 : ¬ y_fr 0 156 1 := by
  show ¬ (_ ∨ _ ∨ y_lc _ _)
  unfold y_lc
  omega
theorem ty_tour4 {M : Int → Int → Int} (hT : y_TC M) : (0 : Int) ≤ M 156 4 ∧ M 156 4 ≤ 7 := by
  have h := hT.1 156 4
  rw [okv_o (by omega)] at h
  simpa [y_okm] using h
theorem sl_tour4 {v : Int} (hv : 0 ≤ v ∧ v ≤ 7) : y_sl 156 4 v := by
  refine ⟨?_, ?_⟩
  · rw [okv_o (by omega)]
    simp [y_okm]
    exact hv
  · unfold y_nu; omega
theorem nf_tour4 : ¬ y_fr 0 156 4 := by
  show ¬ (_ ∨ _ ∨ y_lc _ _)
  unfold y_lc
  omega
theorem sl_mo2 {v : Int}  : y_sl 162 2 v := by
  refine ⟨?_, ?_⟩
  · rw [okv_o (by omega)]
    simp [y_okm]
  · unfold y_nu; omega
theorem nf_mo2 : ¬ y_fr 1 162 2 := by
  show ¬ (_ ∨ _ ∨ y_lm _ _)
  unfold y_lm
  omega
theorem sl_mo3 {v : Int}  : y_sl 162 3 v := by
  refine ⟨?_, ?_⟩
  · rw [okv_o (by omega)]
    simp [y_okm]
  · unfold y_nu; omega
theorem nf_mo3 : ¬ y_fr 1 162 3 := by
  show ¬ (_ ∨ _ ∨ y_lm _ _)
  unfold y_lm
  omega
theorem sl_mo4 {v : Int}  : y_sl 162 4 v := by
  refine ⟨?_, ?_⟩
  · rw [okv_o (by omega)]
    simp [y_okm]
  · unfold y_nu; omega
theorem nf_mo4 : ¬ y_fr 1 162 4 := by
  show ¬ (_ ∨ _ ∨ y_lm _ _)
  unfold y_lm
  omega
theorem ty_mo7 {M : Int → Int → Int} (hT : y_TC M) : (0 : Int) ≤ M 162 7 ∧ M 162 7 ≤ 12 := by
  have h := hT.1 162 7
  rw [okv_o (by omega)] at h
  simpa [y_okm] using h
theorem sl_mo7 {v : Int} (hv : 0 ≤ v ∧ v ≤ 12) : y_sl 162 7 v := by
  refine ⟨?_, ?_⟩
  · rw [okv_o (by omega)]
    simp [y_okm]
    exact hv
  · unfold y_nu; omega
theorem nf_mo7 : ¬ y_fr 1 162 7 := by
  show ¬ (_ ∨ _ ∨ y_lm _ _)
  unfold y_lm
  omega
theorem ty_mo11 {M : Int → Int → Int} (hT : y_TC M) : (0 : Int) ≤ M 162 11 ∧ M 162 11 ≤ 7 := by
  have h := hT.1 162 11
  rw [okv_o (by omega)] at h
  simpa [y_okm] using h
theorem sl_mo11 {v : Int} (hv : 0 ≤ v ∧ v ≤ 7) : y_sl 162 11 v := by
  refine ⟨?_, ?_⟩
  · rw [okv_o (by omega)]
    simp [y_okm]
    exact hv
  · unfold y_nu; omega
theorem nf_mo11 : ¬ y_fr 1 162 11 := by
  show ¬ (_ ∨ _ ∨ y_lm _ _)
  unfold y_lm
  omega
theorem ty_t0 {j : Int} {M : Int → Int → Int} (hT : y_TC M) : (0 : Int) ≤ M 157 j ∧ M 157 j ≤ 11 := by
  have h := hT.1 157 j
  rw [okv_o (by omega)] at h
  simpa [y_okm] using h
theorem sl_t0 {j v : Int} (hv : 0 ≤ v ∧ v ≤ 11) : y_sl 157 j v := by
  refine ⟨?_, ?_⟩
  · rw [okv_o (by omega)]
    simp [y_okm]
    exact hv
  · unfold y_nu; omega
theorem nf_t0 {j : Int} : ¬ y_fr 0 157 j := by
  show ¬ (_ ∨ _ ∨ y_lc _ _)
  unfold y_lc
  omega
theorem ty_t2 {j : Int} {M : Int → Int → Int} (hT : y_TC M) : (0 : Int) ≤ M 158 j ∧ M 158 j ≤ 11 := by
  have h := hT.1 158 j
  rw [okv_o (by omega)] at h
  simpa [y_okm] using h
theorem sl_t2 {j v : Int} (hv : 0 ≤ v ∧ v ≤ 11) : y_sl 158 j v := by
  refine ⟨?_, ?_⟩
  · rw [okv_o (by omega)]
    simp [y_okm]
    exact hv
  · unfold y_nu; omega
theorem nf_t2 {j : Int} : ¬ y_fr 0 158 j := by
  show ¬ (_ ∨ _ ∨ y_lc _ _)
  unfold y_lc
  omega
theorem ty_t3 {j : Int} {M : Int → Int → Int} (hT : y_TC M) : (-12 : Int) ≤ M 159 j ∧ M 159 j ≤ 60 := by
  have h := hT.1 159 j
  rw [okv_o (by omega)] at h
  simpa [y_okm] using h
theorem sl_t3 {j v : Int} (hv : -12 ≤ v ∧ v ≤ 60) : y_sl 159 j v := by
  refine ⟨?_, ?_⟩
  · rw [okv_o (by omega)]
    simp [y_okm]
    exact hv
  · unfold y_nu; omega
theorem nf_t3 {j : Int} : ¬ y_fr 0 159 j := by
  show ¬ (_ ∨ _ ∨ y_lc _ _)
  unfold y_lc
  omega
theorem sl_t5 {j v : Int}  : y_sl 160 j v := by
  refine ⟨?_, ?_⟩
  · rw [okv_o (by omega)]
    simp [y_okm]
  · unfold y_nu; omega
theorem nf_t5 {j : Int} : ¬ y_fr 0 160 j := by
  show ¬ (_ ∨ _ ∨ y_lc _ _)
  unfold y_lc
  omega
theorem ty_t6 {j : Int} {M : Int → Int → Int} (hT : y_TC M) : (0 : Int) ≤ M 161 j ∧ M 161 j ≤ 1000000 := by
  have h := hT.1 161 j
  rw [okv_o (by omega)] at h
  simpa [y_okm] using h
theorem sl_t6 {j v : Int} (hv : 0 ≤ v ∧ v ≤ 1000000) : y_sl 161 j v := by
  refine ⟨?_, ?_⟩
  · rw [okv_o (by omega)]
    simp [y_okm]
    exact hv
  · unfold y_nu; omega
theorem nf_t6 {j : Int} : ¬ y_fr 0 161 j := by
  show ¬ (_ ∨ _ ∨ y_lc _ _)
  unfold y_lc
  omega
theorem ty_has {j : Int} {M : Int → Int → Int} (hT : y_TC M) : (0 : Int) ≤ M 164 j ∧ M 164 j ≤ 1 := by
  have h := hT.1 164 j
  rw [okv_o (by omega)] at h
  simpa [y_okm] using h
theorem sl_has {j v : Int} (hv : 0 ≤ v ∧ v ≤ 1) : y_sl 164 j v := by
  refine ⟨?_, ?_⟩
  · rw [okv_o (by omega)]
    simp [y_okm]
    exact hv
  · unfold y_nu; omega
theorem ty_outs {j : Int} {M : Int → Int → Int} (hT : y_TC M) : (0 : Int) ≤ M 165 j ∧ M 165 j ≤ 11 := by
  have h := hT.1 165 j
  rw [okv_o (by omega)] at h
  simpa [y_okm] using h
theorem sl_outs {j v : Int} (hv : 0 ≤ v ∧ v ≤ 11) : y_sl 165 j v := by
  refine ⟨?_, ?_⟩
  · rw [okv_o (by omega)]
    simp [y_okm]
    exact hv
  · unfold y_nu; omega
theorem nf_outs {j : Int} : ¬ y_fr 1 165 j := by
  show ¬ (_ ∨ _ ∨ y_lm _ _)
  unfold y_lm
  omega
theorem ty_over {j : Int} {M : Int → Int → Int} (hT : y_TC M) : (-12 : Int) ≤ M 166 j ∧ M 166 j ≤ 60 := by
  have h := hT.1 166 j
  rw [okv_o (by omega)] at h
  simpa [y_okm] using h
theorem sl_over {j v : Int} (hv : -12 ≤ v ∧ v ≤ 60) : y_sl 166 j v := by
  refine ⟨?_, ?_⟩
  · rw [okv_o (by omega)]
    simp [y_okm]
    exact hv
  · unfold y_nu; omega
theorem nf_over {j : Int} : ¬ y_fr 1 166 j := by
  show ¬ (_ ∨ _ ∨ y_lm _ _)
  unfold y_lm
  omega
theorem ty_tried {j : Int} {M : Int → Int → Int} (hT : y_TC M) : (0 : Int) ≤ M 167 j ∧ M 167 j ≤ 6 := by
  have h := hT.1 167 j
  rw [okv_o (by omega)] at h
  simpa [y_okm] using h
theorem sl_tried {j v : Int} (hv : 0 ≤ v ∧ v ≤ 6) : y_sl 167 j v := by
  refine ⟨?_, ?_⟩
  · rw [okv_o (by omega)]
    simp [y_okm]
    exact hv
  · unfold y_nu; omega
theorem nf_tried {j : Int} : ¬ y_fr 1 167 j := by
  show ¬ (_ ∨ _ ∨ y_lm _ _)
  unfold y_lm
  omega
theorem ty_best {j : Int} {M : Int → Int → Int} (hT : y_TC M) : (0 : Int) ≤ M 168 j ∧ M 168 j ≤ 11 := by
  have h := hT.1 168 j
  rw [okv_o (by omega)] at h
  simpa [y_okm] using h
theorem sl_best {j v : Int} (hv : 0 ≤ v ∧ v ≤ 11) : y_sl 168 j v := by
  refine ⟨?_, ?_⟩
  · rw [okv_o (by omega)]
    simp [y_okm]
    exact hv
  · unfold y_nu; omega
theorem nf_best {j : Int} : ¬ y_fr 1 168 j := by
  show ¬ (_ ∨ _ ∨ y_lm _ _)
  unfold y_lm
  omega
theorem ty_round {j : Int} {M : Int → Int → Int} (hT : y_TC M) : (0 : Int) ≤ M 169 j ∧ M 169 j ≤ 11 := by
  have h := hT.1 169 j
  rw [okv_o (by omega)] at h
  simpa [y_okm] using h
theorem sl_round {j v : Int} (hv : 0 ≤ v ∧ v ≤ 11) : y_sl 169 j v := by
  refine ⟨?_, ?_⟩
  · rw [okv_o (by omega)]
    simp [y_okm]
    exact hv
  · unfold y_nu; omega
theorem nf_round {j : Int} : ¬ y_fr 1 169 j := by
  show ¬ (_ ∨ _ ∨ y_lm _ _)
  unfold y_lm
  omega
theorem okv_A {i v : Int} (h : 0 ≤ i ∧ i < 1640) : y_okv 163 i v = y_oA i v := by
  rw [okv_o (by omega)]
  unfold y_okm
  rw [if_neg (by omega), if_neg (by omega), if_neg (by omega), if_neg (by omega), if_neg (by omega), if_neg (by omega), if_pos rfl, show i % 1640 = i by omega]
theorem sl_A {i v : Int} (h : 0 ≤ i ∧ i < 1640) (hv : y_oA i v) : y_sl 163 i v := ⟨by rw [okv_A h]; exact hv, by unfold y_nu; omega⟩
theorem ty_A {i : Int} {M : Int → Int → Int} (hT : y_TC M) (h : 0 ≤ i ∧ i < 1640) : y_oA i (M 163 i) := by
  have q := hT.1 163 i
  rw [okv_A h] at q
  exact q
theorem ty_a0 {M : Int → Int → Int} (hT : y_TC M) : (0 : Int) ≤ M 163 0 ∧ M 163 0 ≤ 12 := by
  have h := ty_A (i := 0) hT (by omega)
  unfold y_oA at h
  rw [if_pos (by omega), if_pos (by omega)] at h
  exact h
theorem sl_a0 {v : Int} (hv : 0 ≤ v ∧ v ≤ 12) : y_sl 163 0 v := sl_A (by omega) (by
  unfold y_oA
  rw [if_pos (by omega), if_pos (by omega)]
  exact hv)
theorem ty_a1 {M : Int → Int → Int} (hT : y_TC M) : (0 : Int) ≤ M 163 1 ∧ M 163 1 ≤ 60 := by
  have h := ty_A (i := 1) hT (by omega)
  unfold y_oA at h
  rw [if_pos (by omega), if_neg (by omega), if_pos (by omega)] at h
  exact h
theorem sl_a1 {v : Int} (hv : 0 ≤ v ∧ v ≤ 60) : y_sl 163 1 v := sl_A (by omega) (by
  unfold y_oA
  rw [if_pos (by omega), if_neg (by omega), if_pos (by omega)]
  exact hv)
theorem ty_a2 {M : Int → Int → Int} (hT : y_TC M) : (0 : Int) ≤ M 163 2 ∧ M 163 2 ≤ 3 := by
  have h := ty_A (i := 2) hT (by omega)
  unfold y_oA at h
  rw [if_pos (by omega), if_neg (by omega), if_neg (by omega), if_pos (by omega)] at h
  exact h
theorem sl_a2 {v : Int} (hv : 0 ≤ v ∧ v ≤ 3) : y_sl 163 2 v := sl_A (by omega) (by
  unfold y_oA
  rw [if_pos (by omega), if_neg (by omega), if_neg (by omega), if_pos (by omega)]
  exact hv)
theorem ty_a3 {M : Int → Int → Int} (hT : y_TC M) : (0 : Int) ≤ M 163 3 ∧ M 163 3 ≤ 23 := by
  have h := ty_A (i := 3) hT (by omega)
  unfold y_oA at h
  rw [if_pos (by omega), if_neg (by omega), if_neg (by omega), if_neg (by omega), if_pos (by omega)] at h
  exact h
theorem sl_a3 {v : Int} (hv : 0 ≤ v ∧ v ≤ 23) : y_sl 163 3 v := sl_A (by omega) (by
  unfold y_oA
  rw [if_pos (by omega), if_neg (by omega), if_neg (by omega), if_neg (by omega), if_pos (by omega)]
  exact hv)
theorem ty_aD {i s : Int} {M : Int → Int → Int} (hT : y_TC M) (hs : 0 ≤ s ∧ s < 12) (hi : i = 10 + 80 * s) : (-1 : Int) ≤ M 163 i ∧ M 163 i ≤ 12 := by
  have h := ty_A (i := i) hT (by omega)
  unfold y_oA at h
  rw [if_neg (by omega), if_pos (by omega)] at h
  rw [show (i - 10) % 80 = 0 by omega] at h
  unfold y_oAS at h
  rw [if_pos (by omega)] at h
  exact h
theorem sl_aD {i s v : Int} (hs : 0 ≤ s ∧ s < 12) (hi : i = 10 + 80 * s) (hv : -1 ≤ v ∧ v ≤ 12) : y_sl 163 i v := sl_A (by omega) (by
  unfold y_oA
  rw [if_neg (by omega), if_pos (by omega)]
  rw [show (i - 10) % 80 = 0 by omega]
  unfold y_oAS
  rw [if_pos (by omega)]
  exact hv)
theorem nf_aD {i s : Int} (hs : 0 ≤ s ∧ s < 12) (hi : i = 10 + 80 * s) : ¬ y_fr 1 163 i := by
  show ¬ (_ ∨ _ ∨ y_lm _ _)
  unfold y_lm
  omega
theorem sl_aF {i s v : Int} (hs : 0 ≤ s ∧ s < 12) (hi : i = 23 + 80 * s)  : y_sl 163 i v := sl_A (by omega) (by
  unfold y_oA
  rw [if_neg (by omega), if_pos (by omega)]
  rw [show (i - 10) % 80 = 13 by omega]
  unfold y_oAS
  rw [if_neg (by omega), if_neg (by omega), if_pos (by omega)]
  exact trivial)
theorem nf_aF {i s : Int} (hs : 0 ≤ s ∧ s < 12) (hi : i = 23 + 80 * s) : ¬ y_fr 1 163 i := by
  show ¬ (_ ∨ _ ∨ y_lm _ _)
  unfold y_lm
  omega
theorem ty_aWt {i s : Int} {M : Int → Int → Int} (hT : y_TC M) (hs : 0 ≤ s ∧ s < 12) (hi : i = 24 + 80 * s) : (-1 : Int) ≤ M 163 i ∧ M 163 i ≤ 12 := by
  have h := ty_A (i := i) hT (by omega)
  unfold y_oA at h
  rw [if_neg (by omega), if_pos (by omega)] at h
  rw [show (i - 10) % 80 = 14 by omega] at h
  unfold y_oAS at h
  rw [if_neg (by omega), if_neg (by omega), if_neg (by omega), if_pos (by omega)] at h
  exact h
theorem sl_aWt {i s v : Int} (hs : 0 ≤ s ∧ s < 12) (hi : i = 24 + 80 * s) (hv : -1 ≤ v ∧ v ≤ 12) : y_sl 163 i v := sl_A (by omega) (by
  unfold y_oA
  rw [if_neg (by omega), if_pos (by omega)]
  rw [show (i - 10) % 80 = 14 by omega]
  unfold y_oAS
  rw [if_neg (by omega), if_neg (by omega), if_neg (by omega), if_pos (by omega)]
  exact hv)
theorem nf_aWt {i s : Int} (hs : 0 ≤ s ∧ s < 12) (hi : i = 24 + 80 * s) : ¬ y_fr 1 163 i := by
  show ¬ (_ ∨ _ ∨ y_lm _ _)
  unfold y_lm
  omega
theorem ty_aOc {i s : Int} {M : Int → Int → Int} (hT : y_TC M) (hs : 0 ≤ s ∧ s < 12) (hi : i = 25 + 80 * s) : (-1 : Int) ≤ M 163 i ∧ M 163 i ≤ 8 := by
  have h := ty_A (i := i) hT (by omega)
  unfold y_oA at h
  rw [if_neg (by omega), if_pos (by omega)] at h
  rw [show (i - 10) % 80 = 15 by omega] at h
  unfold y_oAS at h
  rw [if_neg (by omega), if_neg (by omega), if_neg (by omega), if_neg (by omega), if_pos (by omega)] at h
  exact h
theorem sl_aOc {i s v : Int} (hs : 0 ≤ s ∧ s < 12) (hi : i = 25 + 80 * s) (hv : -1 ≤ v ∧ v ≤ 8) : y_sl 163 i v := sl_A (by omega) (by
  unfold y_oA
  rw [if_neg (by omega), if_pos (by omega)]
  rw [show (i - 10) % 80 = 15 by omega]
  unfold y_oAS
  rw [if_neg (by omega), if_neg (by omega), if_neg (by omega), if_neg (by omega), if_pos (by omega)]
  exact hv)
theorem ty_aFl {i s : Int} {M : Int → Int → Int} (hT : y_TC M) (hs : 0 ≤ s ∧ s < 12) (hi : i = 34 + 80 * s) : (0 : Int) ≤ M 163 i ∧ M 163 i ≤ 1 := by
  have h := ty_A (i := i) hT (by omega)
  unfold y_oA at h
  rw [if_neg (by omega), if_pos (by omega)] at h
  rw [show (i - 10) % 80 = 24 by omega] at h
  unfold y_oAS at h
  rw [if_neg (by omega), if_neg (by omega), if_neg (by omega), if_neg (by omega), if_neg (by omega), if_neg (by omega), if_pos (by omega)] at h
  exact h
theorem sl_aFl {i s v : Int} (hs : 0 ≤ s ∧ s < 12) (hi : i = 34 + 80 * s) (hv : 0 ≤ v ∧ v ≤ 1) : y_sl 163 i v := sl_A (by omega) (by
  unfold y_oA
  rw [if_neg (by omega), if_pos (by omega)]
  rw [show (i - 10) % 80 = 24 by omega]
  unfold y_oAS
  rw [if_neg (by omega), if_neg (by omega), if_neg (by omega), if_neg (by omega), if_neg (by omega), if_neg (by omega), if_pos (by omega)]
  exact hv)
theorem ty_aC {i s d : Int} {M : Int → Int → Int} (hT : y_TC M) (hs : 0 ≤ s ∧ s < 12) (hd : 0 ≤ d ∧ d < 12) (hi : i = 11 + 80 * s + d) : (-2 : Int) ≤ M 163 i ∧ M 163 i ≤ 59 := by
  have h := ty_A (i := i) hT (by omega)
  unfold y_oA at h
  rw [if_neg (by omega), if_pos (by omega)] at h
  rw [show (i - 10) % 80 = 1 + d by omega] at h
  unfold y_oAS at h
  rw [if_neg (by omega), if_pos (by omega)] at h
  exact h
theorem sl_aC {i s d v : Int} (hs : 0 ≤ s ∧ s < 12) (hd : 0 ≤ d ∧ d < 12) (hi : i = 11 + 80 * s + d) (hv : -2 ≤ v ∧ v ≤ 59) : y_sl 163 i v := sl_A (by omega) (by
  unfold y_oA
  rw [if_neg (by omega), if_pos (by omega)]
  rw [show (i - 10) % 80 = 1 + d by omega]
  unfold y_oAS
  rw [if_neg (by omega), if_pos (by omega)]
  exact hv)
theorem nf_aC {i s d : Int} (hs : 0 ≤ s ∧ s < 12) (hd : 0 ≤ d ∧ d < 12) (hi : i = 11 + 80 * s + d) : ¬ y_fr 1 163 i := by
  show ¬ (_ ∨ _ ∨ y_lm _ _)
  unfold y_lm
  omega
theorem ty_aO {i s d : Int} {M : Int → Int → Int} (hT : y_TC M) (hs : 0 ≤ s ∧ s < 12) (hd : 0 ≤ d ∧ d < 8) (hi : i = 26 + 80 * s + d) : (0 : Int) ≤ M 163 i ∧ M 163 i ≤ 11 := by
  have h := ty_A (i := i) hT (by omega)
  unfold y_oA at h
  rw [if_neg (by omega), if_pos (by omega)] at h
  rw [show (i - 10) % 80 = 16 + d by omega] at h
  unfold y_oAS at h
  rw [if_neg (by omega), if_neg (by omega), if_neg (by omega), if_neg (by omega), if_neg (by omega), if_pos (by omega)] at h
  exact h
theorem sl_aO {i s d v : Int} (hs : 0 ≤ s ∧ s < 12) (hd : 0 ≤ d ∧ d < 8) (hi : i = 26 + 80 * s + d) (hv : 0 ≤ v ∧ v ≤ 11) : y_sl 163 i v := sl_A (by omega) (by
  unfold y_oA
  rw [if_neg (by omega), if_pos (by omega)]
  rw [show (i - 10) % 80 = 16 + d by omega]
  unfold y_oAS
  rw [if_neg (by omega), if_neg (by omega), if_neg (by omega), if_neg (by omega), if_neg (by omega), if_pos (by omega)]
  exact hv)
theorem nf_aO {i s d : Int} (hs : 0 ≤ s ∧ s < 12) (hd : 0 ≤ d ∧ d < 8) (hi : i = 26 + 80 * s + d) : ¬ y_fr 1 163 i := by
  show ¬ (_ ∨ _ ∨ y_lm _ _)
  unfold y_lm
  omega
theorem ty_aB {i s d : Int} {M : Int → Int → Int} (hT : y_TC M) (hs : 0 ≤ s ∧ s < 12) (hd : 0 ≤ d ∧ d < 48) (hi : i = 35 + 80 * s + d) : (0 : Int) ≤ M 163 i ∧ M 163 i ≤ 99 := by
  have h := ty_A (i := i) hT (by omega)
  unfold y_oA at h
  rw [if_neg (by omega), if_pos (by omega)] at h
  rw [show (i - 10) % 80 = 25 + d by omega] at h
  unfold y_oAS at h
  rw [if_neg (by omega), if_neg (by omega), if_neg (by omega), if_neg (by omega), if_neg (by omega), if_neg (by omega), if_neg (by omega), if_pos (by omega)] at h
  exact h
theorem sl_aB {i s d v : Int} (hs : 0 ≤ s ∧ s < 12) (hd : 0 ≤ d ∧ d < 48) (hi : i = 35 + 80 * s + d) (hv : 0 ≤ v ∧ v ≤ 99) : y_sl 163 i v := sl_A (by omega) (by
  unfold y_oA
  rw [if_neg (by omega), if_pos (by omega)]
  rw [show (i - 10) % 80 = 25 + d by omega]
  unfold y_oAS
  rw [if_neg (by omega), if_neg (by omega), if_neg (by omega), if_neg (by omega), if_neg (by omega), if_neg (by omega), if_neg (by omega), if_pos (by omega)]
  exact hv)
theorem nf_aB {i s d : Int} (hs : 0 ≤ s ∧ s < 12) (hd : 0 ≤ d ∧ d < 48) (hi : i = 35 + 80 * s + d) : ¬ y_fr 1 163 i := by
  show ¬ (_ ∨ _ ∨ y_lm _ _)
  unfold y_lm
  omega
theorem ty_aL {i a b : Int} {M : Int → Int → Int} (hT : y_TC M) (ha : 0 ≤ a ∧ a < 12) (hb : 0 ≤ b ∧ b < 12) (hi : i = 970 + 12 * a + b) : (0 : Int) ≤ M 163 i ∧ M 163 i ≤ 999 := by
  have h := ty_A (i := i) hT (by omega)
  unfold y_oA at h
  rw [if_neg (by omega), if_neg (by omega), if_pos (by omega)] at h
  exact h
theorem sl_aL {i a b v : Int} (ha : 0 ≤ a ∧ a < 12) (hb : 0 ≤ b ∧ b < 12) (hi : i = 970 + 12 * a + b) (hv : 0 ≤ v ∧ v ≤ 999) : y_sl 163 i v := sl_A (by omega) (by
  unfold y_oA
  rw [if_neg (by omega), if_neg (by omega), if_pos (by omega)]
  exact hv)
theorem nf_aL {i a b : Int} (ha : 0 ≤ a ∧ a < 12) (hb : 0 ≤ b ∧ b < 12) (hi : i = 970 + 12 * a + b) : ¬ y_fr 1 163 i := by
  show ¬ (_ ∨ _ ∨ y_lm _ _)
  unfold y_lm
  omega
theorem ty_aW0 {i w : Int} {M : Int → Int → Int} (hT : y_TC M) (hw : 0 ≤ w ∧ w < 60) (hi : i = 1114 + 8 * w) : (0 : Int) ≤ M 163 i ∧ M 163 i ≤ 3 := by
  have h := ty_A (i := i) hT (by omega)
  unfold y_oA at h
  rw [if_neg (by omega), if_neg (by omega), if_neg (by omega), if_pos (by omega)] at h
  rw [show (i - 1114) % 8 = 0 by omega] at h
  unfold y_oAW at h
  rw [if_pos (by omega)] at h
  exact h
theorem sl_aW0 {i w v : Int} (hw : 0 ≤ w ∧ w < 60) (hi : i = 1114 + 8 * w) (hv : 0 ≤ v ∧ v ≤ 3) : y_sl 163 i v := sl_A (by omega) (by
  unfold y_oA
  rw [if_neg (by omega), if_neg (by omega), if_neg (by omega), if_pos (by omega)]
  rw [show (i - 1114) % 8 = 0 by omega]
  unfold y_oAW
  rw [if_pos (by omega)]
  exact hv)
theorem nf_aW0 {i w : Int} (hw : 0 ≤ w ∧ w < 60) (hi : i = 1114 + 8 * w) : ¬ y_fr 1 163 i := by
  show ¬ (_ ∨ _ ∨ y_lm _ _)
  unfold y_lm
  omega
theorem ty_aW1 {i w : Int} {M : Int → Int → Int} (hT : y_TC M) (hw : 0 ≤ w ∧ w < 60) (hi : i = 1115 + 8 * w) : (0 : Int) ≤ M 163 i ∧ M 163 i ≤ 1000 := by
  have h := ty_A (i := i) hT (by omega)
  unfold y_oA at h
  rw [if_neg (by omega), if_neg (by omega), if_neg (by omega), if_pos (by omega)] at h
  rw [show (i - 1114) % 8 = 1 by omega] at h
  unfold y_oAW at h
  rw [if_neg (by omega), if_pos (by omega)] at h
  exact h
theorem sl_aW1 {i w v : Int} (hw : 0 ≤ w ∧ w < 60) (hi : i = 1115 + 8 * w) (hv : 0 ≤ v ∧ v ≤ 1000) : y_sl 163 i v := sl_A (by omega) (by
  unfold y_oA
  rw [if_neg (by omega), if_neg (by omega), if_neg (by omega), if_pos (by omega)]
  rw [show (i - 1114) % 8 = 1 by omega]
  unfold y_oAW
  rw [if_neg (by omega), if_pos (by omega)]
  exact hv)
theorem nf_aW1 {i w : Int} (hw : 0 ≤ w ∧ w < 60) (hi : i = 1115 + 8 * w) : ¬ y_fr 1 163 i := by
  show ¬ (_ ∨ _ ∨ y_lm _ _)
  unfold y_lm
  omega
theorem ty_aW2 {i w : Int} {M : Int → Int → Int} (hT : y_TC M) (hw : 0 ≤ w ∧ w < 60) (hi : i = 1116 + 8 * w) : (0 : Int) ≤ M 163 i ∧ M 163 i ≤ 3 := by
  have h := ty_A (i := i) hT (by omega)
  unfold y_oA at h
  rw [if_neg (by omega), if_neg (by omega), if_neg (by omega), if_pos (by omega)] at h
  rw [show (i - 1114) % 8 = 2 by omega] at h
  unfold y_oAW at h
  rw [if_neg (by omega), if_neg (by omega), if_pos (by omega)] at h
  exact h
theorem sl_aW2 {i w v : Int} (hw : 0 ≤ w ∧ w < 60) (hi : i = 1116 + 8 * w) (hv : 0 ≤ v ∧ v ≤ 3) : y_sl 163 i v := sl_A (by omega) (by
  unfold y_oA
  rw [if_neg (by omega), if_neg (by omega), if_neg (by omega), if_pos (by omega)]
  rw [show (i - 1114) % 8 = 2 by omega]
  unfold y_oAW
  rw [if_neg (by omega), if_neg (by omega), if_pos (by omega)]
  exact hv)
theorem nf_aW2 {i w : Int} (hw : 0 ≤ w ∧ w < 60) (hi : i = 1116 + 8 * w) : ¬ y_fr 1 163 i := by
  show ¬ (_ ∨ _ ∨ y_lm _ _)
  unfold y_lm
  omega
theorem ty_aW3 {i w : Int} {M : Int → Int → Int} (hT : y_TC M) (hw : 0 ≤ w ∧ w < 60) (hi : i = 1117 + 8 * w) : (0 : Int) ≤ M 163 i ∧ M 163 i ≤ 11 := by
  have h := ty_A (i := i) hT (by omega)
  unfold y_oA at h
  rw [if_neg (by omega), if_neg (by omega), if_neg (by omega), if_pos (by omega)] at h
  rw [show (i - 1114) % 8 = 3 by omega] at h
  unfold y_oAW at h
  rw [if_neg (by omega), if_neg (by omega), if_neg (by omega), if_pos (by omega)] at h
  exact h
theorem sl_aW3 {i w v : Int} (hw : 0 ≤ w ∧ w < 60) (hi : i = 1117 + 8 * w) (hv : 0 ≤ v ∧ v ≤ 11) : y_sl 163 i v := sl_A (by omega) (by
  unfold y_oA
  rw [if_neg (by omega), if_neg (by omega), if_neg (by omega), if_pos (by omega)]
  rw [show (i - 1114) % 8 = 3 by omega]
  unfold y_oAW
  rw [if_neg (by omega), if_neg (by omega), if_neg (by omega), if_pos (by omega)]
  exact hv)
theorem nf_aW3 {i w : Int} (hw : 0 ≤ w ∧ w < 60) (hi : i = 1117 + 8 * w) : ¬ y_fr 1 163 i := by
  show ¬ (_ ∨ _ ∨ y_lm _ _)
  unfold y_lm
  omega
theorem ty_aW4 {i w : Int} {M : Int → Int → Int} (hT : y_TC M) (hw : 0 ≤ w ∧ w < 60) (hi : i = 1118 + 8 * w) : (-1 : Int) ≤ M 163 i ∧ M 163 i ≤ 11 := by
  have h := ty_A (i := i) hT (by omega)
  unfold y_oA at h
  rw [if_neg (by omega), if_neg (by omega), if_neg (by omega), if_pos (by omega)] at h
  rw [show (i - 1114) % 8 = 4 by omega] at h
  unfold y_oAW at h
  rw [if_neg (by omega), if_neg (by omega), if_neg (by omega), if_neg (by omega), if_pos (by omega)] at h
  exact h
theorem sl_aW4 {i w v : Int} (hw : 0 ≤ w ∧ w < 60) (hi : i = 1118 + 8 * w) (hv : -1 ≤ v ∧ v ≤ 11) : y_sl 163 i v := sl_A (by omega) (by
  unfold y_oA
  rw [if_neg (by omega), if_neg (by omega), if_neg (by omega), if_pos (by omega)]
  rw [show (i - 1114) % 8 = 4 by omega]
  unfold y_oAW
  rw [if_neg (by omega), if_neg (by omega), if_neg (by omega), if_neg (by omega), if_pos (by omega)]
  exact hv)
theorem nf_aW4 {i w : Int} (hw : 0 ≤ w ∧ w < 60) (hi : i = 1118 + 8 * w) : ¬ y_fr 1 163 i := by
  show ¬ (_ ∨ _ ∨ y_lm _ _)
  unfold y_lm
  omega
theorem sl_aW5 {i w v : Int} (hw : 0 ≤ w ∧ w < 60) (hi : i = 1119 + 8 * w)  : y_sl 163 i v := sl_A (by omega) (by
  unfold y_oA
  rw [if_neg (by omega), if_neg (by omega), if_neg (by omega), if_pos (by omega)]
  rw [show (i - 1114) % 8 = 5 by omega]
  unfold y_oAW
  rw [if_neg (by omega), if_neg (by omega), if_neg (by omega), if_neg (by omega), if_neg (by omega), if_pos (by omega)]
  exact trivial)
theorem nf_aW5 {i w : Int} (hw : 0 ≤ w ∧ w < 60) (hi : i = 1119 + 8 * w) : ¬ y_fr 1 163 i := by
  show ¬ (_ ∨ _ ∨ y_lm _ _)
  unfold y_lm
  omega
theorem ty_aW6 {i w : Int} {M : Int → Int → Int} (hT : y_TC M) (hw : 0 ≤ w ∧ w < 60) (hi : i = 1120 + 8 * w) : (0 : Int) ≤ M 163 i ∧ M 163 i ≤ 2 := by
  have h := ty_A (i := i) hT (by omega)
  unfold y_oA at h
  rw [if_neg (by omega), if_neg (by omega), if_neg (by omega), if_pos (by omega)] at h
  rw [show (i - 1114) % 8 = 6 by omega] at h
  unfold y_oAW at h
  rw [if_neg (by omega), if_neg (by omega), if_neg (by omega), if_neg (by omega), if_neg (by omega), if_neg (by omega), if_pos (by omega)] at h
  exact h
theorem sl_aW6 {i w v : Int} (hw : 0 ≤ w ∧ w < 60) (hi : i = 1120 + 8 * w) (hv : 0 ≤ v ∧ v ≤ 2) : y_sl 163 i v := sl_A (by omega) (by
  unfold y_oA
  rw [if_neg (by omega), if_neg (by omega), if_neg (by omega), if_pos (by omega)]
  rw [show (i - 1114) % 8 = 6 by omega]
  unfold y_oAW
  rw [if_neg (by omega), if_neg (by omega), if_neg (by omega), if_neg (by omega), if_neg (by omega), if_neg (by omega), if_pos (by omega)]
  exact hv)
theorem nf_aW6 {i w : Int} (hw : 0 ≤ w ∧ w < 60) (hi : i = 1120 + 8 * w) : ¬ y_fr 1 163 i := by
  show ¬ (_ ∨ _ ∨ y_lm _ _)
  unfold y_lm
  omega
theorem ty_aW7 {i w : Int} {M : Int → Int → Int} (hT : y_TC M) (hw : 0 ≤ w ∧ w < 60) (hi : i = 1121 + 8 * w) : (-1 : Int) ≤ M 163 i ∧ M 163 i ≤ 59 := by
  have h := ty_A (i := i) hT (by omega)
  unfold y_oA at h
  rw [if_neg (by omega), if_neg (by omega), if_neg (by omega), if_pos (by omega)] at h
  rw [show (i - 1114) % 8 = 7 by omega] at h
  unfold y_oAW at h
  rw [if_neg (by omega), if_neg (by omega), if_neg (by omega), if_neg (by omega), if_neg (by omega), if_neg (by omega), if_neg (by omega)] at h
  exact h
theorem sl_aW7 {i w v : Int} (hw : 0 ≤ w ∧ w < 60) (hi : i = 1121 + 8 * w) (hv : -1 ≤ v ∧ v ≤ 59) : y_sl 163 i v := sl_A (by omega) (by
  unfold y_oA
  rw [if_neg (by omega), if_neg (by omega), if_neg (by omega), if_pos (by omega)]
  rw [show (i - 1114) % 8 = 7 by omega]
  unfold y_oAW
  rw [if_neg (by omega), if_neg (by omega), if_neg (by omega), if_neg (by omega), if_neg (by omega), if_neg (by omega), if_neg (by omega)]
  exact hv)
theorem nf_aW7 {i w : Int} (hw : 0 ≤ w ∧ w < 60) (hi : i = 1121 + 8 * w) : ¬ y_fr 1 163 i := by
  show ¬ (_ ∨ _ ∨ y_lm _ _)
  unfold y_lm
  omega
theorem ty_aG0 {i c : Int} {M : Int → Int → Int} (hT : y_TC M) (hc : 0 ≤ c ∧ c < 3) (hi : i = 1594 + 12 * c) : (0 : Int) ≤ M 163 i ∧ M 163 i ≤ 8 := by
  have h := ty_A (i := i) hT (by omega)
  unfold y_oA at h
  rw [if_neg (by omega), if_neg (by omega), if_neg (by omega), if_neg (by omega), if_pos (by omega)] at h
  rw [show (i - 1594) % 12 = 0 by omega] at h
  unfold y_oAC at h
  rw [if_pos (by omega)] at h
  exact h
theorem sl_aG0 {i c v : Int} (hc : 0 ≤ c ∧ c < 3) (hi : i = 1594 + 12 * c) (hv : 0 ≤ v ∧ v ≤ 8) : y_sl 163 i v := sl_A (by omega) (by
  unfold y_oA
  rw [if_neg (by omega), if_neg (by omega), if_neg (by omega), if_neg (by omega), if_pos (by omega)]
  rw [show (i - 1594) % 12 = 0 by omega]
  unfold y_oAC
  rw [if_pos (by omega)]
  exact hv)
theorem nf_aG0 {i c : Int} (hc : 0 ≤ c ∧ c < 3) (hi : i = 1594 + 12 * c) : ¬ y_fr 1 163 i := by
  show ¬ (_ ∨ _ ∨ y_lm _ _)
  unfold y_lm
  omega
theorem ty_aG1 {i c : Int} {M : Int → Int → Int} (hT : y_TC M) (hc : 0 ≤ c ∧ c < 3) (hi : i = 1595 + 12 * c) : (0 : Int) ≤ M 163 i ∧ M 163 i ≤ 11 := by
  have h := ty_A (i := i) hT (by omega)
  unfold y_oA at h
  rw [if_neg (by omega), if_neg (by omega), if_neg (by omega), if_neg (by omega), if_pos (by omega)] at h
  rw [show (i - 1594) % 12 = 1 by omega] at h
  unfold y_oAC at h
  rw [if_neg (by omega), if_pos (by omega)] at h
  exact h
theorem sl_aG1 {i c v : Int} (hc : 0 ≤ c ∧ c < 3) (hi : i = 1595 + 12 * c) (hv : 0 ≤ v ∧ v ≤ 11) : y_sl 163 i v := sl_A (by omega) (by
  unfold y_oA
  rw [if_neg (by omega), if_neg (by omega), if_neg (by omega), if_neg (by omega), if_pos (by omega)]
  rw [show (i - 1594) % 12 = 1 by omega]
  unfold y_oAC
  rw [if_neg (by omega), if_pos (by omega)]
  exact hv)
theorem nf_aG1 {i c : Int} (hc : 0 ≤ c ∧ c < 3) (hi : i = 1595 + 12 * c) : ¬ y_fr 1 163 i := by
  show ¬ (_ ∨ _ ∨ y_lm _ _)
  unfold y_lm
  omega
theorem sl_aG2 {i c v : Int} (hc : 0 ≤ c ∧ c < 3) (hi : i = 1596 + 12 * c)  : y_sl 163 i v := sl_A (by omega) (by
  unfold y_oA
  rw [if_neg (by omega), if_neg (by omega), if_neg (by omega), if_neg (by omega), if_pos (by omega)]
  rw [show (i - 1594) % 12 = 2 by omega]
  unfold y_oAC
  rw [if_neg (by omega), if_neg (by omega), if_pos (by omega)]
  exact trivial)
theorem nf_aG2 {i c : Int} (hc : 0 ≤ c ∧ c < 3) (hi : i = 1596 + 12 * c) : ¬ y_fr 1 163 i := by
  show ¬ (_ ∨ _ ∨ y_lm _ _)
  unfold y_lm
  omega
theorem ty_aG3 {i c : Int} {M : Int → Int → Int} (hT : y_TC M) (hc : 0 ≤ c ∧ c < 3) (hi : i = 1597 + 12 * c) : (0 : Int) ≤ M 163 i ∧ M 163 i ≤ 8 := by
  have h := ty_A (i := i) hT (by omega)
  unfold y_oA at h
  rw [if_neg (by omega), if_neg (by omega), if_neg (by omega), if_neg (by omega), if_pos (by omega)] at h
  rw [show (i - 1594) % 12 = 3 by omega] at h
  unfold y_oAC at h
  rw [if_neg (by omega), if_neg (by omega), if_neg (by omega), if_pos (by omega)] at h
  exact h
theorem sl_aG3 {i c v : Int} (hc : 0 ≤ c ∧ c < 3) (hi : i = 1597 + 12 * c) (hv : 0 ≤ v ∧ v ≤ 8) : y_sl 163 i v := sl_A (by omega) (by
  unfold y_oA
  rw [if_neg (by omega), if_neg (by omega), if_neg (by omega), if_neg (by omega), if_pos (by omega)]
  rw [show (i - 1594) % 12 = 3 by omega]
  unfold y_oAC
  rw [if_neg (by omega), if_neg (by omega), if_neg (by omega), if_pos (by omega)]
  exact hv)
theorem nf_aG3 {i c : Int} (hc : 0 ≤ c ∧ c < 3) (hi : i = 1597 + 12 * c) : ¬ y_fr 1 163 i := by
  show ¬ (_ ∨ _ ∨ y_lm _ _)
  unfold y_lm
  omega
theorem ty_aR {i c d : Int} {M : Int → Int → Int} (hT : y_TC M) (hc : 0 ≤ c ∧ c < 3) (hd : 0 ≤ d ∧ d < 8) (hi : i = 1598 + 12 * c + d) : (0 : Int) ≤ M 163 i ∧ M 163 i ≤ 59 := by
  have h := ty_A (i := i) hT (by omega)
  unfold y_oA at h
  rw [if_neg (by omega), if_neg (by omega), if_neg (by omega), if_neg (by omega), if_pos (by omega)] at h
  rw [show (i - 1594) % 12 = 4 + d by omega] at h
  unfold y_oAC at h
  rw [if_neg (by omega), if_neg (by omega), if_neg (by omega), if_neg (by omega)] at h
  exact h
theorem sl_aR {i c d v : Int} (hc : 0 ≤ c ∧ c < 3) (hd : 0 ≤ d ∧ d < 8) (hi : i = 1598 + 12 * c + d) (hv : 0 ≤ v ∧ v ≤ 59) : y_sl 163 i v := sl_A (by omega) (by
  unfold y_oA
  rw [if_neg (by omega), if_neg (by omega), if_neg (by omega), if_neg (by omega), if_pos (by omega)]
  rw [show (i - 1594) % 12 = 4 + d by omega]
  unfold y_oAC
  rw [if_neg (by omega), if_neg (by omega), if_neg (by omega), if_neg (by omega)]
  exact hv)
theorem nf_aR {i c d : Int} (hc : 0 ≤ c ∧ c < 3) (hd : 0 ≤ d ∧ d < 8) (hi : i = 1598 + 12 * c + d) : ¬ y_fr 1 163 i := by
  show ¬ (_ ∨ _ ∨ y_lm _ _)
  unfold y_lm
  omega
theorem sl_aX {i s d : Int} (hs : 0 ≤ s ∧ s < 12) (hd : -1 ≤ d ∧ d < 13) (hi : i = 11 + 80 * s + d) : y_sl 163 i (-1) := by
  refine sl_A (by omega) ?_
  unfold y_oA
  rw [if_neg (by omega), if_pos (by omega), show (i - 10) % 80 = 1 + d by omega]
  unfold y_oAS
  by_cases q : 1 + d = 0
  · rw [if_pos q]; omega
  · rw [if_neg q]
    by_cases q2 : 1 + d ≤ 12
    · rw [if_pos q2]; omega
    · rw [if_neg q2, if_pos (by omega)]; trivial
theorem sl_aZ {i s d v : Int} (hs : 0 ≤ s ∧ s < 12) (hd : 0 ≤ d ∧ d < 13) (hi : i = 11 + 80 * s + d) (hv : -2 ≤ v ∧ v ≤ 59) : y_sl 163 i v := by
  refine sl_A (by omega) ?_
  unfold y_oA
  rw [if_neg (by omega), if_pos (by omega), show (i - 10) % 80 = 1 + d by omega]
  unfold y_oAS
  rw [if_neg (by omega)]
  by_cases q2 : 1 + d ≤ 12
  · rw [if_pos q2]; exact hv
  · rw [if_neg q2, if_pos (by omega)]; trivial
theorem nf_aZ {i s d : Int} (hs : 0 ≤ s ∧ s < 12) (hd : 0 ≤ d ∧ d < 13) (hi : i = 11 + 80 * s + d) : ¬ y_fr 1 163 i := by
  show ¬ (_ ∨ _ ∨ y_lm _ _)
  unfold y_lm
  omega
theorem y_cpI {M : Int → Int → Int} {i j a : Int} (hT : y_TC M) (h : 0 ≤ i ∧ i < 1640) (ha : 0 ≤ a) (hj : j = 1640 + 1640 * a + i) : y_sl 163 j (M 163 i) := by
  have q := ty_A (i := i) hT h
  refine ⟨?_, by unfold y_nu; omega⟩
  rw [okv_o (by omega)]
  unfold y_okm
  rw [if_neg (by omega), if_neg (by omega), if_neg (by omega), if_neg (by omega), if_neg (by omega), if_neg (by omega), if_pos rfl, show j % 1640 = i by omega]
  exact q
theorem y_cpA {M : Int → Int → Int} {i j a : Int} (hT : y_TC M) (h : 0 ≤ i ∧ i < 1640) (ha : 0 ≤ a) (hj : j = 1640 + 1640 * a + i) : y_sl 163 i (M 163 j) := by
  have q := hT.1 163 j
  rw [okv_o (by omega)] at q
  unfold y_okm at q
  rw [if_neg (by omega), if_neg (by omega), if_neg (by omega), if_neg (by omega), if_neg (by omega), if_neg (by omega), if_pos rfl, show j % 1640 = i by omega] at q
  exact sl_A h q
theorem nf_aX {i s d : Int} (hs : 0 ≤ s ∧ s < 12) (hd : -1 ≤ d ∧ d < 13) (hi : i = 11 + 80 * s + d) : ¬ y_fr 1 163 i := by
  show ¬ (_ ∨ _ ∨ y_lm _ _)
  unfold y_lm
  omega
theorem x_vB {c d : Prop} [Decidable c] [Decidable d] {h : xH} (e : c ↔ d) : ((some (.inl (x_b c)), h) : Option xV × xH) = (some (.inl (x_b d)), h) := by
  unfold x_b
  by_cases q : c
  · rw [if_pos q, if_pos (e.mp q)]
  · rw [if_neg q, if_neg (fun p => q (e.mpr p))]
theorem x_vR {v w : Int} {h : xH} (e : v = w) : ((some (.inr v), h) : Option xV × xH) = (some (.inr w), h) := by rw [e]
theorem y_fV {v v' : Int} {h : xH} {Q : Int → Prop} (ev : v' = v) (q : Q v) : ((some (.inl v), h) : Option xV × xH) = (some (.inl v'), h) ∧ Q v' := by rw [ev]; exact ⟨rfl, q⟩
theorem y_fU {c : Nat} {z : Int} {P M0 m m' : Int → Int → Int} (eu : m' = m) (tl : y_TL c M0 m) : ((none, (z, P, m)) : Option xV × xH) = (none, (z, P, m')) ∧ y_TL c M0 m' := by rw [eu]; exact ⟨rfl, tl⟩
theorem y_fW {c : Nat} {v v' : Int} {z : Int} {P M0 m m' : Int → Int → Int} {Q : Int → Prop} (ev : v' = v) (eu : m' = m) (tl : y_TL c M0 m) (q : Q v) : ((some (.inl v), (z, P, m)) : Option xV × xH) = (some (.inl v'), (z, P, m')) ∧ y_TL c M0 m' ∧ Q v' := by rw [ev, eu]; exact ⟨rfl, tl, q⟩
