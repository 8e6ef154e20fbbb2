/-! RUNS, SHORTAGE -/
theorem B_cong {C A C2 A2 : Int → Int → Int} (h : y_B C A) (hc : ∀ a k, 1 ≤ a → a < 155 → C2 a k = C a k) (ha : ∀ k, 0 ≤ k → k < 1640 → A2 163 k = A 163 k) : y_B C2 A2 := by
  refine ⟨⟨FS_fr h.f.toy_FS (fun a k q1 q2 => hc a k (by omega) (by omega)) (fun k q1 q2 => ha k (by omega) (by omega)), FW_fr h.f.toy_FW (fun a k q1 q2 q3 => hc a k (by omega) (by omega)) (fun k q1 q2 q3 => ha k (by omega) (by omega)), FK_fr h.f.toy_FK (fun a k q1 q2 => hc a k (by omega) (by omega)) (fun k q1 q2 => ha k (by omega) (by omega))⟩, ⟨?_, ?_, ?_⟩, ?_⟩
  · exact IS_fr h.i.toy_IS (by rw [ha 1 (by omega) (by omega)]; exact h.i.nw) (fun k q1 q2 q3 q4 => ha k (by omega) (by omega))
  · exact IW_fr h.i.toy_IW (ha 0 (by omega) (by omega)) (ha 1 (by omega) (by omega)) (fun k q1 q2 q3 => ha k (by omega) (by omega)) (fun k q1 q2 q3 => ha k (by omega) (by omega))
  · exact IK_fr h.i.toy_IK (ha 0 (by omega) (by omega)) (by rw [ha 1 (by omega) (by omega)]; omega) (ha 2 (by omega) (by omega)) (fun k q1 q2 => ha k (by omega) (by omega)) (fun w q1 q2 q3 q4 => ⟨(ha _ (by omega) (by omega)).trans q4, ha _ (by omega) (by omega)⟩)
  · exact FT_fr h.t h.i.toy_IK (fun c q1 q2 => hc _ _ (by omega) (by omega)) (ha 2 (by omega) (by omega)) (fun k q1 q2 => ha k (by omega) (by omega)) (fun w q1 q2 q3 => ha _ (by omega) (by omega))
theorem F_thr_b {C : Int → Int → Int} {s w w2 dk x fh h ts hd B W : Int} (hB : C (8 + 7 * s) h = B) (hW : C (9 + 7 * s) h = W) (hd0 : 0 ≤ dk ∧ dk ≤ 12) (hts : max B W = ts) : ∀ (k km : Nat) (M : Int → Int → Int) (nw aw tu br wn : Int), ts - tu < (k : Int) → br + wn < (km : Int) → br = max 0 (B - tu) → wn = max 0 (W - tu) → 0 ≤ tu → (0 ≤ nw ∧ nw ≤ dk) → (0 ≤ aw ∧ aw + 2 * max 0 (ts - tu) ≤ 100000) → M 162 4 = nw → M 162 2 = aw → (l_m_through_b s w2 dk h hd km M br wn).1 162 4 = (l_runFrom_b s w dk x fh h ts C k nw aw tu).1 ∧ (l_m_through_b s w2 dk h hd km M br wn).1 162 2 = (l_runFrom_b s w dk x fh h ts C k nw aw tu).2.1 ∧ (0 ≤ (l_runFrom_b s w dk x fh h ts C k nw aw tu).1 ∧ (l_runFrom_b s w dk x fh h ts C k nw aw tu).1 ≤ dk) ∧ (aw ≤ (l_runFrom_b s w dk x fh h ts C k nw aw tu).2.1 ∧ (l_runFrom_b s w dk x fh h ts C k nw aw tu).2.1 ≤ aw + 2 * max 0 (ts - tu)) ∧ ∀ a j, ¬ (a = 162 ∧ (j = 4 ∨ j = 2)) → (l_m_through_b s w2 dk h hd km M br wn).1 a j = M a j := by
  intro k
  induction k with
  | zero =>
    intro km M nw aw tu br wn z1 z2 z3 z4 z5 z6 z7 z8 z9
    have e : l_m_through_b s w2 dk h hd km M br wn = (M, br, wn) := by
      cases km with
      | zero => rfl
      | succ km => rw [l_m_through_b, if_neg (by omega), if_pos (by omega)]
    rw [e, l_runFrom_b]
    exact ⟨z8, z9, z6, (by show aw ≤ aw ∧ aw ≤ _; omega), fun a j _ => rfl⟩
  | succ k ih =>
    intro km M nw aw tu br wn z1 z2 z3 z4 z5 z6 z7 z8 z9
    rw [l_runFrom_b, hB, hW]
    by_cases q : ts ≤ tu
    · have e : l_m_through_b s w2 dk h hd km M br wn = (M, br, wn) := by
        cases km with
        | zero => rfl
        | succ km => rw [l_m_through_b, if_neg (by omega), if_pos (by omega)]
      rw [e, if_pos q]
      exact ⟨z8, z9, z6, (by show aw ≤ aw ∧ aw ≤ _; omega), fun a j _ => rfl⟩
    rw [if_neg q]
    cases km with
    | zero => omega
    | succ km =>
    rw [l_m_through_b, z8, z9]
    have W4 : ∀ v : Int, -10 ≤ v → v ≤ 200000 → x_w v = v := fun v q1 q2 => x_wn ⟨rfl, by omega, by omega⟩
    have step : ∀ (M2 : Int → Int → Int) (nw2 aw2 br2 wn2 : Int), br2 = max 0 (B - (1 + tu)) → wn2 = max 0 (W - (1 + tu)) → (0 ≤ nw2 ∧ nw2 ≤ dk) → (aw ≤ aw2 ∧ aw2 ≤ aw + 2) → M2 162 4 = nw2 → M2 162 2 = aw2 → (∀ a j, ¬ (a = 162 ∧ (j = 4 ∨ j = 2)) → M2 a j = M a j) → (l_m_through_b s w2 dk h hd km M2 br2 wn2).1 162 4 = (l_runFrom_b s w dk x fh h ts C k nw2 aw2 (1 + tu)).1 ∧ (l_m_through_b s w2 dk h hd km M2 br2 wn2).1 162 2 = (l_runFrom_b s w dk x fh h ts C k nw2 aw2 (1 + tu)).2.1 ∧ (0 ≤ (l_runFrom_b s w dk x fh h ts C k nw2 aw2 (1 + tu)).1 ∧ (l_runFrom_b s w dk x fh h ts C k nw2 aw2 (1 + tu)).1 ≤ dk) ∧ (aw ≤ (l_runFrom_b s w dk x fh h ts C k nw2 aw2 (1 + tu)).2.1 ∧ (l_runFrom_b s w dk x fh h ts C k nw2 aw2 (1 + tu)).2.1 ≤ aw + 2 * max 0 (ts - tu)) ∧ ∀ a j, ¬ (a = 162 ∧ (j = 4 ∨ j = 2)) → (l_m_through_b s w2 dk h hd km M2 br2 wn2).1 a j = M a j := by
      intro M2 nw2 aw2 br2 wn2 y1 y2 y3 y4 y5 y6 y7
      have I := ih km M2 nw2 aw2 (1 + tu) br2 wn2 (by omega) (by omega) y1 y2 (by omega) y3 (by omega) y5 y6
      exact ⟨I.1, I.2.1, I.2.2.1, by omega, fun a j g => (I.2.2.2.2 a j g).trans (y7 a j g)⟩
    clear ih
    have fr1 : ∀ (v : Int) (j : Int), (j = 4 ∨ j = 2) → ∀ a i, ¬ (a = 162 ∧ (i = 4 ∨ i = 2)) → x_up M 162 j v a i = M a i := fun v j hj a i g => x_up_no (by omega)
    have fr2 : ∀ (v v2 : Int) (j j2 : Int), (j = 4 ∨ j = 2) → (j2 = 4 ∨ j2 = 2) → ∀ a i, ¬ (a = 162 ∧ (i = 4 ∨ i = 2)) → x_up (x_up M 162 j v) 162 j2 v2 a i = M a i := fun v v2 j j2 hj hj2 a i g => by rw [x_up_no (by omega), x_up_no (by omega)]
    by_cases b : B ≤ tu
    · rw [if_pos b, if_neg (show ¬ W ≤ tu by omega), if_neg (show ¬ 0 < br by omega), if_neg (show ¬ wn ≤ 0 by omega), if_pos (show br ≤ 0 by omega), if_neg (show ¬ wn ≤ 0 by omega)]
      by_cases n : nw ≤ 0
      · rw [if_pos n, if_neg (show ¬ ¬ nw = 0 by omega)]
        exact step _ _ _ _ _ (by omega) (by omega) z6 (by omega) (by rw [x_up_nk (by omega)]; exact z8) (by rw [x_up_self]; exact W4 _ (by omega) (by omega)) (fr1 _ _ (by omega))
      · rw [if_neg n, if_pos (show ¬ nw = 0 by omega)]
        exact step _ _ _ _ _ (by omega) (by omega) (by omega) (by omega) (by rw [x_up_self]; exact W4 _ (by omega) (by omega)) (by rw [x_up_nk (by omega)]; exact z9) (fr1 _ _ (by omega))
    · rw [if_neg b, if_pos (show 0 < br by omega), if_neg (show ¬ br ≤ 0 by omega)]
      by_cases d : dk ≤ nw
      · rw [if_pos d, if_neg (show ¬ ¬ nw = dk by omega)]
        by_cases c : W ≤ tu
        · rw [if_pos c, if_pos (show wn ≤ 0 by omega)]
          exact step _ _ _ _ _ (by omega) (by omega) z6 (by omega) (by rw [x_up_nk (by omega)]; exact z8) (by rw [x_up_self]; exact W4 _ (by omega) (by omega)) (fr1 _ _ (by omega))
        · rw [if_neg c, if_neg (show ¬ wn ≤ 0 by omega)]
          by_cases n : nw ≤ 0
          · rw [if_pos n, if_neg (show ¬ ¬ nw = 0 by omega), W4 (1 + aw) (by omega) (by omega)]
            exact step _ _ _ _ _ (by omega) (by omega) z6 (by omega) (by rw [x_up_nk (by omega), x_up_nk (by omega)]; exact z8) (by rw [x_up_self, W4 _ (by omega) (by omega)]; omega) (fr2 _ _ _ _ (by omega) (by omega))
          · rw [if_neg n, if_pos (show ¬ nw = 0 by omega)]
            exact step _ _ _ _ _ (by omega) (by omega) (by omega) (by omega) (by rw [x_up_self]; exact W4 _ (by omega) (by omega)) (by rw [x_up_nk (by omega), x_up_self]; exact W4 _ (by omega) (by omega)) (fr2 _ _ _ _ (by omega) (by omega))
      · rw [if_neg d, if_pos (show ¬ nw = dk by omega)]
        by_cases c : W ≤ tu
        · rw [if_pos c, if_pos (show wn ≤ 0 by omega)]
          exact step _ _ _ _ _ (by omega) (by omega) (by omega) (by omega) (by rw [x_up_self]; exact W4 _ (by omega) (by omega)) (by rw [x_up_nk (by omega)]; exact z9) (fr1 _ _ (by omega))
        · rw [if_neg c, if_neg (show ¬ wn ≤ 0 by omega), W4 (1 + nw) (by omega) (by omega), if_neg (show ¬ 1 + nw ≤ 0 by omega), if_pos (show ¬ 1 + nw = 0 by omega)]
          exact step _ _ _ _ _ (by omega) (by omega) z6 (by omega) (by rw [x_up_self, W4 _ (by omega) (by omega)]; omega) (by rw [x_up_nk (by omega), x_up_nk (by omega)]; exact z9) (fr2 _ _ _ _ (by omega) (by omega))
theorem F_thr_1 {C A : Int → Int → Int} (F : y_F C A) (I : y_I A) {s w w2 dk x : Int} (hs : 0 ≤ s ∧ s < 12) (h1 : A 163 (34 + 80 * s) = 1) (hd0 : 0 ≤ dk ∧ dk ≤ 12) : ∀ (k : Nat) (M : Int → Int → Int) (nw aw fh h : Int), 24 - h < (k : Int) → 0 ≤ h → h ≤ 24 → (0 ≤ nw ∧ nw ≤ dk) → (0 ≤ aw ∧ aw ≤ 200 * h) → ((fh = -1 ∧ aw = 0) ∨ (0 ≤ fh ∧ 0 < aw)) → M 162 4 = nw → M 162 2 = aw → M 162 3 = fh → (∀ j, M 163 j = A 163 j) → (l_m_through_a s w2 dk k M h).1 162 4 = (l_runFrom_a s w dk x C k nw aw fh h).1 ∧ (l_m_through_a s w2 dk k M h).1 162 2 = (l_runFrom_a s w dk x C k nw aw fh h).2.1 ∧ (l_m_through_a s w2 dk k M h).1 162 3 = (l_runFrom_a s w dk x C k nw aw fh h).2.2.1 ∧ 0 ≤ (l_runFrom_a s w dk x C k nw aw fh h).2.1 ∧ ∀ a j, ¬ (a = 162 ∧ 2 ≤ j ∧ j ≤ 4) → (l_m_through_a s w2 dk k M h).1 a j = M a j := by
  intro k
  induction k with
  | zero => intro M nw aw fh h z1 z2 z3; omega
  | succ k ih =>
    intro M nw aw fh h z1 z2 z3 z4 z5 z6 z7 z8 z9 zA
    rw [l_runFrom_a, l_m_through_a]
    by_cases q : 24 ≤ h
    · rw [if_pos q, if_pos q]; exact ⟨z7, z8, z9, z5.1, fun a j _ => rfl⟩
    rw [if_neg q, if_neg q, zA, h1, if_neg (show ¬ ¬ (1 : Int) = 1 by omega)]
    have db := F.db s h hs.1 hs.2 z2 (by omega)
    have dw := F.dw s h hs.1 hs.2 z2 (by omega)
    rw [if_neg (by omega)] at db dw
    have i1 := I.db s h hs.1 hs.2 z2 (by omega) h1
    have i2 := I.db s (24 + h) hs.1 hs.2 (by omega) (by omega) h1
    rw [show 35 + 80 * s + (24 + h) = 59 + 80 * s + h by omega] at i2
    rw [zA, zA, db, dw]
    generalize hB : A 163 (35 + 80 * s + h) = B at *
    generalize hW : A 163 (59 + 80 * s + h) = W at *
    have T := F_thr_b (w := w) (w2 := w2) (x := x) (fh := fh) (hd := M 162 2) db dw hd0 rfl 100 199 M nw aw 0 B W (by omega) (by omega) (by omega) (by omega) (by omega) z4 (by omega) z7 z8
    revert T
    generalize (l_m_through_b s w2 dk h (M 162 2) 199 M B W).1 = M2
    generalize hR : l_runFrom_b s w dk x fh h (max B W) C 100 nw aw 0 = R
    intro T
    obtain ⟨t1, t2, t3, t4, t5⟩ := T
    have e3 : M2 162 3 = fh := (t5 162 3 (by omega)).trans z9
    have eA : ∀ j, M2 163 j = A 163 j := fun j => (t5 163 j (by omega)).trans (zA j)
    rw [t2, z8, e3]
    by_cases c1 : R.2.1 ≤ 0
    · rw [if_pos c1, if_pos (show R.2.1 ≤ aw by omega)]
      have J := ih M2 R.1 R.2.1 fh (1 + h) (by omega) (by omega) (by omega) t3 (by omega) (by omega) t1 t2 e3 eA
      exact ⟨J.1, J.2.1, J.2.2.1, J.2.2.2.1, fun a j g => (J.2.2.2.2 a j g).trans (t5 a j (by omega))⟩
    · rw [if_neg c1]
      by_cases c2 : fh = -1
      · rw [if_neg (show ¬ ¬ fh = -1 by omega), if_neg (show ¬ R.2.1 ≤ aw by omega), if_neg (show ¬ 0 ≤ fh by omega)]
        have J := ih (x_up M2 162 3 h) R.1 R.2.1 h (1 + h) (by omega) (by omega) (by omega) t3 (by omega) (by omega) (by rw [x_up_nk (by omega)]; exact t1) (by rw [x_up_nk (by omega)]; exact t2) x_up_self (fun j => by rw [x_up_ne (by omega)]; exact eA j)
        exact ⟨J.1, J.2.1, J.2.2.1, J.2.2.2.1, fun a j g => (J.2.2.2.2 a j g).trans ((x_up_no (by omega)).trans (t5 a j (by omega)))⟩
      · rw [if_pos c2]
        have J := ih M2 R.1 R.2.1 fh (1 + h) (by omega) (by omega) (by omega) t3 (by omega) (by omega) t1 t2 e3 eA
        have e : (if R.2.1 ≤ aw then l_m_through_a s w2 dk k M2 (1 + h) else if 0 ≤ fh then l_m_through_a s w2 dk k M2 (1 + h) else l_m_through_a s w2 dk k (x_up M2 162 3 h) (1 + h)) = l_m_through_a s w2 dk k M2 (1 + h) := by
          split
          · rfl
          · rw [if_pos (by omega)]
        rw [e]
        exact ⟨J.1, J.2.1, J.2.2.1, J.2.2.2.1, fun a j g => (J.2.2.2.2 a j g).trans (t5 a j (by omega))⟩
theorem F_thr_0 {C A : Int → Int → Int} (F : y_F C A) {s w dk x : Int} (hs : 0 ≤ s ∧ s < 12) (h0 : A 163 (34 + 80 * s) = 0) : ∀ (k : Nat) (nw h : Int), 0 ≤ h → l_runFrom_a s w dk x C k nw 0 (-1) h = (nw, 0, -1, (l_runFrom_a s w dk x C k nw 0 (-1) h).2.2.2) := by
  intro k
  induction k with
  | zero => intro nw h z; rfl
  | succ k ih =>
    intro nw h z
    rw [l_runFrom_a]
    by_cases q : 24 ≤ h
    · rw [if_pos q]
    · rw [if_neg q]
      have db := F.db s h hs.1 hs.2 z (by omega)
      have dw := F.dw s h hs.1 hs.2 z (by omega)
      rw [if_pos h0] at db dw
      have e : l_runFrom_b s w dk x (-1) h (max (C (8 + 7 * s) h) (C (9 + 7 * s) h)) C 100 nw 0 0 = (nw, 0, 0) := by
        rw [l_runFrom_b, db, dw, if_pos (by omega)]
      rw [e, if_pos (show ((nw, (0 : Int), (0 : Int)).2.1 ≤ 0) by exact Int.le_refl 0)]
      exact ih nw (1 + h) (by omega)
theorem F_thr {C A : Int → Int → Int} (h : y_B C A) {s w : Int} (x : Int) (hs : 0 ≤ s ∧ s < A 163 0) (hw : 0 ≤ w ∧ w ≤ v_m_cntD s (-2) A) : (∀ x, v_runFrom s w (v_usableDocks s C) x C = if x = 0 then u_m_through s w A 162 2 else if x = 1 then u_m_through s w A 162 3 else if x = 2 then u_m_through s w A 162 4 else -3) ∧ 0 ≤ u_m_through s w A 162 2 ∧ ∀ a j, ¬ (a = 162 ∧ 2 ≤ j ∧ j ≤ 4) → u_m_through s w A a j = A a j := by
  have hn := h.i.n
  have hD := h.i.dk s hs.1 (by omega) hs.2
  have U := F_usa h.f (s := s) ⟨hs.1, by omega⟩ ⟨by omega, hD.2⟩
  have hU : v_usableDocks s C ≤ 12 := by
    have := F_usa_a h.f (s := s) ⟨hs.1, by omega⟩ hD.2 13 0 0 0 (by omega) (by omega) (by omega) (by omega)
    have P : ∀ (k : Nat) (n d : Int), n ≤ (l_docksWith_a s (-2) C k n d).1 := by
      intro k
      induction k with
      | zero => intro n d; exact Int.le_refl n
      | succ k ih =>
        intro n d
        rw [l_docksWith_a]
        split
        · exact Int.le_refl n
        · split
          · exact ih _ _
          · have := ih (1 + n) (1 + d); omega
    have := P 13 0 0
    unfold v_usableDocks v_docksWith
    rw [h.f.dk s hs.1 (by omega)]; omega
  have hd0 : 0 ≤ v_usableDocks s C ∧ v_usableDocks s C ≤ 12 := ⟨by rw [U]; omega, hU⟩
  rw [← U] at hw
  unfold u_m_through
  rw [← U]
  have dm := h.i.dm s hs.1 (by omega)
  have L : ∀ x, (l_m_through_a s w (v_usableDocks s C) 25 (x_up (x_up (x_up A 162 2 0) 162 3 (-1)) 162 4 w) 0).1 162 4 = (l_runFrom_a s w (v_usableDocks s C) x C 25 w 0 (-1) 0).1 ∧ (l_m_through_a s w (v_usableDocks s C) 25 (x_up (x_up (x_up A 162 2 0) 162 3 (-1)) 162 4 w) 0).1 162 2 = (l_runFrom_a s w (v_usableDocks s C) x C 25 w 0 (-1) 0).2.1 ∧ (l_m_through_a s w (v_usableDocks s C) 25 (x_up (x_up (x_up A 162 2 0) 162 3 (-1)) 162 4 w) 0).1 162 3 = (l_runFrom_a s w (v_usableDocks s C) x C 25 w 0 (-1) 0).2.2.1 ∧ 0 ≤ (l_runFrom_a s w (v_usableDocks s C) x C 25 w 0 (-1) 0).2.1 ∧ ∀ a j, ¬ (a = 162 ∧ 2 ≤ j ∧ j ≤ 4) → (l_m_through_a s w (v_usableDocks s C) 25 (x_up (x_up (x_up A 162 2 0) 162 3 (-1)) 162 4 w) 0).1 a j = (x_up (x_up (x_up A 162 2 0) 162 3 (-1)) 162 4 w) a j := by
    intro x
    rcases dm with d0 | d1
    · rw [F_thr_0 h.f ⟨hs.1, by omega⟩ d0 25 w 0 (by omega), l_m_through_a, if_neg (by omega), if_pos (by rw [x_up_ne (by omega), x_up_ne (by omega), x_up_ne (by omega)]; omega)]
      exact ⟨(by show x_up (x_up (x_up A 162 2 0) 162 3 (-1)) 162 4 w 162 4 = w; exact x_up_self), (by show x_up (x_up (x_up A 162 2 0) 162 3 (-1)) 162 4 w 162 2 = 0; rw [x_up_nk (by omega), x_up_nk (by omega), x_up_self]), (by show x_up (x_up (x_up A 162 2 0) 162 3 (-1)) 162 4 w 162 3 = -1; rw [x_up_nk (by omega), x_up_self]), (by show (0 : Int) ≤ 0; omega), fun a j _ => rfl⟩
    · exact F_thr_1 h.f h.i ⟨hs.1, by omega⟩ d1 hd0 25 _ w 0 (-1) 0 (by omega) (by omega) (by omega) hw (by omega) (by omega) x_up_self (by rw [x_up_nk (by omega), x_up_nk (by omega), x_up_self]) (by rw [x_up_nk (by omega), x_up_self]) (fun j => by rw [x_up_ne (by omega), x_up_ne (by omega), x_up_ne (by omega)])
  refine ⟨fun x => ?_, by rw [(L x).2.1]; exact (L x).2.2.2.1, fun a j g => ((L x).2.2.2.2 a j g).trans ?_⟩
  · unfold v_runFrom
    rw [(L x).1, (L x).2.1, (L x).2.2.1]
  · rw [x_up_no (by omega), x_up_no (by omega), x_up_no (by omega)]
theorem O_runs {C A : Int → Int → Int} (h : y_B C A) (a b d : Int) : v_x_runs a b d C = v_n_runs a b d A ∧ y_B C (u_n_runs a b d A) := by
  have hn := h.i.n
  unfold v_x_runs v_n_runs u_n_runs
  rw [h.f.n]
  by_cases ha : 0 ≤ a ∧ a < A 163 0
  · have hD := h.i.dk a ha.1 (by omega) ha.2
    have U := F_usa h.f (s := a) ⟨ha.1, by omega⟩ ⟨by omega, hD.2⟩
    simp only [if_pos ha]
    by_cases hb : b < 0
    · simp only [if_pos hb]; exact ⟨trivial, h⟩
    · simp only [if_neg hb]
      by_cases hc : v_m_cntD a (-2) A < b
      · rw [U]
        simp only [if_pos hc, if_neg (show ¬ b ≤ v_m_cntD a (-2) A by omega)]; exact ⟨trivial, h⟩
      · have T := F_thr h 0 ha (w := b) ⟨by omega, by omega⟩
        have B2 : y_B C (u_m_through a b A) := B_cong h (fun _ _ _ _ => rfl) (fun k _ _ => T.2.2 163 k (by omega))
        rw [T.1 d, U]
        simp only [if_neg hc, if_pos (show b ≤ v_m_cntD a (-2) A by omega)]
        by_cases d0 : d = 0
        · subst d0; exact ⟨rfl, B2⟩
        · by_cases d1 : d = 1
          · subst d1; exact ⟨rfl, B2⟩
          · by_cases d2 : d = 2
            · subst d2; exact ⟨rfl, B2⟩
            · simp only [if_neg d0, if_neg d1, if_neg d2, if_neg (show ¬ (0 ≤ d ∧ d < 3) by omega)]; exact ⟨trivial, h⟩
  · simp only [if_neg ha]; exact ⟨trivial, h⟩
theorem cntD_cg {A A2 : Int → Int → Int} {s x : Int} (e : ∀ j, A2 163 j = A 163 j) : v_m_cntD s x A2 = v_m_cntD s x A := by
  unfold v_m_cntD
  have P : ∀ (k : Nat) (n d : Int), l_m_cntD_a s x A2 k n d = l_m_cntD_a s x A k n d := by
    intro k
    induction k with
    | zero => intro n d; rfl
    | succ k ih => intro n d; simp only [l_m_cntD_a, e, ih]
  rw [P]
theorem cntW_cg {A A2 : Int → Int → Int} {s p x : Int} (e : ∀ j, A2 163 j = A 163 j) : v_m_cntW s p x A2 = v_m_cntW s p x A := by
  unfold v_m_cntW
  have P : ∀ (k : Nat) (n d : Int), l_m_cntW_a s p x A2 k n d = l_m_cntW_a s p x A k n d := by
    intro k
    induction k with
    | zero => intro n d; rfl
    | succ k ih => intro n d; simp only [l_m_cntW_a, e, ih]
  rw [P]
theorem F_sho {C A : Int → Int → Int} (h : y_B C A) {s : Int} (hs : 0 ≤ s ∧ s < A 163 0) : ∀ (k : Nat) (M : Int → Int → Int) (be fw wl : Int), (∀ a j, ¬ (a = 162 ∧ 2 ≤ j ∧ j ≤ 4) → M a j = A a j) → 0 ≤ fw → 0 ≤ wl → (l_n_shortage_a s k M be fw wl).2.1 = (l_bestStart_a s (v_usableDocks s C) C k be fw wl).1 ∧ ∀ a j, ¬ (a = 162 ∧ 2 ≤ j ∧ j ≤ 4) → (l_n_shortage_a s k M be fw wl).1 a j = A a j := by
  have hn := h.i.n
  have hD := h.i.dk s hs.1 (by omega) hs.2
  have U := F_usa h.f (s := s) ⟨hs.1, by omega⟩ ⟨by omega, hD.2⟩
  intro k
  induction k with
  | zero => intro M be fw wl z1 z2 z3; exact ⟨rfl, z1⟩
  | succ k ih =>
    intro M be fw wl z1 z2 z3
    have e163 : ∀ j, M 163 j = A 163 j := fun j => z1 163 j (by omega)
    have hM : y_B C M := B_cong h (fun _ _ _ _ => rfl) (fun k _ _ => e163 k)
    rw [l_n_shortage_a, l_bestStart_a, cntD_cg e163, U]
    by_cases q : v_m_cntD s (-2) A < wl
    · rw [if_pos q, if_pos q]; exact ⟨rfl, z1⟩
    · rw [if_neg q, if_neg q, if_neg (show ¬ fw < 0 by omega)]
      have T := F_thr hM 0 (s := s) (w := wl) (by rw [e163]; exact hs) ⟨z3, by rw [cntD_cg e163]; omega⟩
      have t0 := T.1 0
      rw [if_pos rfl, U] at t0
      rw [t0]
      have fr : ∀ a j, ¬ (a = 162 ∧ 2 ≤ j ∧ j ≤ 4) → u_m_through s wl M a j = A a j := fun a j g => (T.2.2 a j g).trans (z1 a j g)
      by_cases q2 : fw ≤ u_m_through s wl M 162 2
      · rw [if_pos q2, if_pos q2, ← U]; exact ih _ _ _ _ fr z2 (by omega)
      · rw [if_neg q2, if_neg q2, ← U]; exact ih _ _ _ _ fr T.2.1 (by omega)
theorem O_shortage {C A : Int → Int → Int} (h : y_B C A) (a : Int) : v_x_shortage a C = v_n_shortage a A ∧ y_B C (u_n_shortage a A) := by
  have hn := h.i.n
  unfold v_x_shortage v_n_shortage u_n_shortage
  rw [h.f.n]
  by_cases ha : 0 ≤ a ∧ a < A 163 0
  · have hD := h.i.dk a ha.1 (by omega) ha.2
    have U := F_usa h.f (s := a) ⟨ha.1, by omega⟩ ⟨by omega, hD.2⟩
    simp only [if_pos ha]
    have c0 : 0 ≤ v_m_cntD a (-2) A := by
      have P : ∀ (k : Nat) (n d : Int), n ≤ (l_m_cntD_a a (-2) A k n d).1 := by
        intro k
        induction k with
        | zero => intro n d; exact Int.le_refl n
        | succ k ih =>
          intro n d
          rw [l_m_cntD_a]
          have i1 := ih n (1 + d)
          have i2 := ih (1 + n) (1 + d)
          split
          · exact Int.le_refl n
          · split <;> (try split) <;> omega
      exact P 13 0 0
    have T := F_thr h 0 ha (w := 0) ⟨by omega, c0⟩
    have t0 := T.1 0
    rw [if_pos rfl] at t0
    rw [l_n_shortage_a, if_neg (show ¬ v_m_cntD a (-2) A < 0 by omega), if_pos (show (-1 : Int) < 0 by omega)]
    have S := F_sho h ha 13 (u_m_through a 0 A) 0 (u_m_through a 0 A 162 2) 1 T.2.2 T.2.1 (by omega)
    rw [show (1 : Int) + 0 = 1 by omega]
    have e163 : ∀ j, (l_n_shortage_a a 13 (u_m_through a 0 A) 0 (u_m_through a 0 A 162 2) 1).1 163 j = A 163 j := fun j => S.2 163 j (by omega)
    have hU : v_m_cntD a (-2) A ≤ 12 := by
      have Q : ∀ (k : Nat) (n d : Int), 0 ≤ d → n ≤ d → d ≤ A 163 (10 + 80 * a) → (l_m_cntD_a a (-2) A k n d).1 ≤ A 163 (10 + 80 * a) := by
        intro k
        induction k with
        | zero => intro n d g0 g1 g2; show n ≤ _; omega
        | succ k ih =>
          intro n d g0 g1 g2
          rw [l_m_cntD_a]
          split
          · show n ≤ _; omega
          · split <;> (try split) <;> exact ih _ _ (by omega) (by omega) (by omega)
      have := Q 13 0 0 (by omega) (by omega) (by omega)
      unfold v_m_cntD
      omega
    have R : ∀ (k : Nat) (be fw wl : Int), l_bestStart_a a (v_usableDocks a C) C (k + 1) be fw wl = if (v_usableDocks a C) < wl then (be, fw, wl) else if fw ≤ v_runFrom a wl (v_usableDocks a C) 0 C then l_bestStart_a a (v_usableDocks a C) C k be fw (1 + wl) else l_bestStart_a a (v_usableDocks a C) C k wl (v_runFrom a wl (v_usableDocks a C) 0 C) (1 + wl) := fun k be fw wl => by rw [l_bestStart_a]
    have P : ∀ (k : Nat) (be fw wl : Int), (v_usableDocks a C) + 1 - wl ≤ (k : Int) → (l_bestStart_a a (v_usableDocks a C) C (k + 1) be fw wl).1 = (l_bestStart_a a (v_usableDocks a C) C k be fw wl).1 := by
      intro k
      induction k with
      | zero =>
        intro be fw wl z
        show (l_bestStart_a a (v_usableDocks a C) C (0 + 1) be fw wl).1 = be
        rw [l_bestStart_a, if_pos (by omega)]
      | succ k ih =>
        intro be fw wl z
        rw [R (k + 1) be fw wl, R k be fw wl]
        split
        · rfl
        · split <;> exact ih _ _ _ (by omega)
    have P14 : (l_bestStart_a a (v_usableDocks a C) C 14 0 (u_m_through a 0 A 162 2) 1).1 = (l_bestStart_a a (v_usableDocks a C) C 13 0 (u_m_through a 0 A 162 2) 1).1 := P 13 _ _ _ (by rw [U]; omega)
    have eB : v_bestStart a (v_usableDocks a C) C = (l_n_shortage_a a 13 (u_m_through a 0 A) 0 (u_m_through a 0 A 162 2) 1).2.1 := by
      unfold v_bestStart
      rw [t0, P14]; exact S.1.symm
    refine ⟨?_, B_cong h (fun _ _ _ _ => rfl) (fun k _ _ => e163 k)⟩
    rw [eB, cntW_cg e163, F_wat h.f h.i.nw.2 (by omega)]
  · simp only [if_neg ha]; exact ⟨trivial, h⟩
