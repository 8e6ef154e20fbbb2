/-! CARTS -/
theorem s1_in {A : Int → Int → Int} {c k : Int} : 0 ≤ y_s1 A c k ∧ y_s1 A c k ≤ 2 ∧ (k < A 163 (1597 + 12 * c) → 1 ≤ y_s1 A c k) ∧ (¬ k < A 163 (1597 + 12 * c) → y_s1 A c k = 0) := by
  unfold y_s1
  split
  · split <;> omega
  · omega
theorem tk_cnt {A : Int → Int → Int} {c : Int} (h : 0 ≤ A 163 (1597 + 12 * c) ∧ A 163 (1597 + 12 * c) ≤ 8) : A 163 (1597 + 12 * c) ≤ y_tk A c ∧ y_tk A c ≤ 16 ∧ 0 ≤ y_tk A c := by
  have q0 := s1_in (A := A) (c := c) (k := 0)
  have q1 := s1_in (A := A) (c := c) (k := 1)
  have q2 := s1_in (A := A) (c := c) (k := 2)
  have q3 := s1_in (A := A) (c := c) (k := 3)
  have q4 := s1_in (A := A) (c := c) (k := 4)
  have q5 := s1_in (A := A) (c := c) (k := 5)
  have q6 := s1_in (A := A) (c := c) (k := 6)
  have q7 := s1_in (A := A) (c := c) (k := 7)
  unfold y_tk
  omega
theorem P_taken {A : Int → Int → Int} {c : Int} (h : 0 ≤ A 163 (1597 + 12 * c) ∧ A 163 (1597 + 12 * c) ≤ 8) : v_m_taken c A = y_tk A c := by
  have st : ∀ (k : Nat) (n j : Int), (l_m_taken_a c A (k + 1) n j).1 = if A 163 (1597 + 12 * c) ≤ j then n else (l_m_taken_a c A k (n + y_s1 A c j) (1 + j)).1 := fun k n j => by
    rw [l_m_taken_a]
    by_cases q : A 163 (1597 + 12 * c) ≤ j
    · rw [if_pos q, if_pos q]
    · rw [if_neg q, if_neg q]
      unfold y_s1
      rw [if_pos (show j < A 163 (1597 + 12 * c) by omega)]
      by_cases q2 : A 163 (1114 + 8 * A 163 (1598 + 12 * c + j)) = 2
      · rw [if_neg (by omega), if_pos q2, show n + 2 = 2 + n by omega]
      · rw [if_pos q2, if_neg q2, show n + 1 = 1 + n by omega]
  have q0 := s1_in (A := A) (c := c) (k := 0)
  have q1 := s1_in (A := A) (c := c) (k := 1)
  have q2 := s1_in (A := A) (c := c) (k := 2)
  have q3 := s1_in (A := A) (c := c) (k := 3)
  have q4 := s1_in (A := A) (c := c) (k := 4)
  have q5 := s1_in (A := A) (c := c) (k := 5)
  have q6 := s1_in (A := A) (c := c) (k := 6)
  have q7 := s1_in (A := A) (c := c) (k := 7)
  unfold v_m_taken y_tk
  rw [show (9 : Nat) = 8 + 1 by rfl, st, st, st, st, st, st, st, st, st]
  simp only [show (1 : Int) + 0 = 1 by omega, show (1 : Int) + 1 = 2 by omega, show (1 : Int) + 2 = 3 by omega, show (1 : Int) + 3 = 4 by omega, show (1 : Int) + 4 = 5 by omega, show (1 : Int) + 5 = 6 by omega, show (1 : Int) + 6 = 7 by omega, show (1 : Int) + 7 = 8 by omega]
  repeat' split
  all_goals omega
theorem P_allows {A : Int → Int → Int} {c w : Int} (h : 0 ≤ A 163 (1597 + 12 * c) ∧ A 163 (1597 + 12 * c) ≤ 8) : ¬ v_m_allows c w A = 0 ↔ y_tk A c + y_sz (A 163 (1114 + 8 * w)) ≤ A 163 (1594 + 12 * c) := by
  unfold v_m_allows
  rw [P_taken h]
  have z := y_sz_in (A 163 (1114 + 8 * w))
  by_cases q : A 163 (1114 + 8 * w) = 2
  · have := z.2.2.1 q
    rw [if_neg (by omega)]; split <;> omega
  · have := z.2.2.2 q
    rw [if_pos q]; split <;> omega
theorem F_room2 {C A : Int → Int → Int} (F : y_F C A) (K : y_IK A) (T : y_FT C A) {c w : Int} (hN : A 163 2 ≤ 3) (hW : A 163 1 ≤ 60) (hc : 0 ≤ c ∧ c < A 163 2) (hw : 0 ≤ w ∧ w < A 163 1) : (x_w (C (149 + 2 * c) 3 + y_sz (C (88 + w) 1)) ≤ C (149 + 2 * c) 1 ∧ C (149 + 2 * c) 6 < 8) ↔ y_tk A c + y_sz (A 163 (1114 + 8 * w)) ≤ A 163 (1594 + 12 * c) := by
  have kk := K.kk c hc.1 (by omega)
  have kl := K.kl c hc.1 (by omega) hc.2
  have t := tk_cnt (A := A) (c := c) ⟨kk.1, kk.2.1⟩
  have z := y_sz_in (A 163 (1114 + 8 * w))
  rw [(T c hc.1 (by omega)).1, F.w0 w hw.1 (by omega), F.k0 c hc.1 (by omega), F.k3 c hc.1 (by omega), x_wn (w := y_tk A c + y_sz (A 163 (1114 + 8 * w))) ⟨rfl, by omega, by omega⟩]
  omega
theorem C_climb0 {C A : Int → Int → Int} (F : y_F C A) (S : y_IS A) {w c n0 t0 : Int} (X : y_IX A w (-1)) (K : y_IK A) (T : y_FT C A) (hc : 0 ≤ c ∧ c < A 163 2) (hw : 0 ≤ w ∧ w < A 163 1) (hp : A 163 (1116 + 8 * w) ≠ 1) (hn0 : A 163 (1597 + 12 * c) = n0) (h8 : 0 ≤ n0 ∧ n0 < 8) (ht : t0 = y_tk A c + y_sz (A 163 (1114 + 8 * w))) (hl : t0 ≤ A 163 (1594 + 12 * c)) : y_Bx (x_up ((x_up ((x_up ((x_up ((x_up ((x_up C (150 + 2 * c) n0 w)) (149 + 2 * c) 6 (1 + n0))) (149 + 2 * c) 3 t0)) (88 + w) 3 1)) (88 + w) 4 (-1))) (88 + w) 5 c) (x_up ((x_up ((x_up ((x_up ((x_up A 163 (1598 + 12 * c + n0) w)) 163 (1597 + 12 * c) (1 + n0))) 163 (1116 + 8 * w) 1)) 163 (1117 + 8 * w) c)) 163 (1118 + 8 * w) (-1)) := by
  have hn := S.n
  have hN := S.nc
  have hW := S.nw
  refine ⟨⟨?_, ?_, ?_⟩, ?_, ?_, ?_, ?_⟩
  · exact FS_fr F.toy_FS (fun a k q1 q2 => (by simp only [x_up]; grind)) (fun k q1 q2 => (by simp only [x_up]; grind))
  · refine ⟨?_, ?_, ?_, ?_, ?_, ?_, ?_, ?_⟩
    · intro w g0 g1
      have e := F.w0 w
      simp only [x_up] at *
      grind (splits := 24)
    · intro w g0 g1
      have e := F.w1 w
      simp only [x_up] at *
      grind (splits := 24)
    · intro w g0 g1
      have e := F.w2 w
      simp only [x_up] at *
      grind (splits := 24)
    · intro w g0 g1
      have e := F.w3 w
      simp only [x_up] at *
      grind (splits := 24)
    · intro w g0 g1
      have e := F.w4 w
      simp only [x_up] at *
      grind (splits := 24)
    · intro w g0 g1
      have e := F.w6 w
      simp only [x_up] at *
      grind (splits := 24)
    · intro w g0 g1
      have e := F.wn w
      simp only [x_up] at *
      grind (splits := 24)
    · intro w g0 g1
      have e := F.w7 w
      simp only [x_up] at *
      grind (splits := 24)
  · refine ⟨?_, ?_, ?_, ?_, ?_⟩
    · intro c g0 g1
      have e := F.k0 c
      simp only [x_up] at *
      grind (splits := 24)
    · intro c g0 g1
      have e := F.k1 c
      simp only [x_up] at *
      grind (splits := 24)
    · intro c g0 g1
      have e := F.k2 c
      simp only [x_up] at *
      grind (splits := 24)
    · intro c g0 g1
      have e := F.k3 c
      simp only [x_up] at *
      grind (splits := 24)
    · intro c k g0 g1 g2 g3
      have e := F.kr c k
      simp only [x_up] at *
      grind (splits := 24)
  · exact IS_fr S (by simp only [x_up]; grind) (fun k q1 q2 q3 q4 => by simp only [x_up]; grind)
  · refine X_in (w := w) (c := -1) (X_rec X ⟨hw.1, by omega⟩ (fun k q1 q2 => by simp only [x_up]; grind) (fun _ => ?_) ?_) (by simp only [x_up]; grind) (by simp only [x_up]; grind) (fun q => absurd (by simp only [x_up]; grind) q)
    · have e := X.kd w hw.1 (by omega) hw.2
      simp only [x_up]; grind
    · have e := X.bk w hw.1 (by omega)
      simp only [x_up]; grind
  · refine ⟨?_, ?_, ?_, ?_⟩
    · intro v g0 g1 g2; have e := K.kl v; simp only [x_up] at *; grind
    · intro v g0 g1; have e := K.kk v; simp only [x_up] at *; grind
    · intro v k g0 g1 g2 g3 g4
      have e := K.kr v k g0 g1 g2 g3
      have l1 : (x_up ((x_up ((x_up ((x_up ((x_up A 163 (1598 + 12 * c + n0) w)) 163 (1597 + 12 * c) (1 + n0))) 163 (1116 + 8 * w) 1)) 163 (1117 + 8 * w) c)) 163 (1118 + 8 * w) (-1)) 163 (1598 + 12 * v + k) = if v = c ∧ k = n0 then w else A 163 (1598 + 12 * v + k) := by simp only [x_up]; grind
      have l2 : (x_up ((x_up ((x_up ((x_up ((x_up A 163 (1598 + 12 * c + n0) w)) 163 (1597 + 12 * c) (1 + n0))) 163 (1116 + 8 * w) 1)) 163 (1117 + 8 * w) c)) 163 (1118 + 8 * w) (-1)) 163 (1597 + 12 * v) = if v = c then 1 + n0 else A 163 (1597 + 12 * v) := by simp only [x_up]; grind
      have l3 : (x_up ((x_up ((x_up ((x_up ((x_up A 163 (1598 + 12 * c + n0) w)) 163 (1597 + 12 * c) (1 + n0))) 163 (1116 + 8 * w) 1)) 163 (1117 + 8 * w) c)) 163 (1118 + 8 * w) (-1)) 163 1 = A 163 1 := by simp only [x_up]; grind
      have l4 : ∀ x, 0 ≤ x → x < 60 → (x_up ((x_up ((x_up ((x_up ((x_up A 163 (1598 + 12 * c + n0) w)) 163 (1597 + 12 * c) (1 + n0))) 163 (1116 + 8 * w) 1)) 163 (1117 + 8 * w) c)) 163 (1118 + 8 * w) (-1)) 163 (1116 + 8 * x) = if x = w then 1 else A 163 (1116 + 8 * x) := fun x x0 x1 => by simp only [x_up]; grind
      have l5 : ∀ x, 0 ≤ x → x < 60 → (x_up ((x_up ((x_up ((x_up ((x_up A 163 (1598 + 12 * c + n0) w)) 163 (1597 + 12 * c) (1 + n0))) 163 (1116 + 8 * w) 1)) 163 (1117 + 8 * w) c)) 163 (1118 + 8 * w) (-1)) 163 (1117 + 8 * x) = if x = w then c else A 163 (1117 + 8 * x) := fun x x0 x1 => by simp only [x_up]; grind
      rw [l2] at g4
      rw [l1, l3]
      by_cases q : v = c ∧ k = n0
      · rw [if_pos q, l4 w hw.1 (by omega), l5 w hw.1 (by omega), if_pos rfl, if_pos rfl]; exact ⟨⟨hw.1, by omega⟩, hw.2, rfl, q.1.symm⟩
      · have g5 : k < A 163 (1597 + 12 * v) := by
          split at g4
          · rename_i z; subst z; omega
          · exact g4
        have e2 := e g5
        have nw : A 163 (1598 + 12 * v + k) ≠ w := by intro z; rw [z] at e2; exact hp e2.2.2.1
        rw [if_neg q, l4 _ e2.1.1 e2.1.2, l5 _ e2.1.1 e2.1.2, if_neg nw, if_neg nw]; exact e2
    · intro v k l g0 g1 g2 g3 g4 g5
      have l1 : ∀ k, 0 ≤ k → k < 8 → (x_up ((x_up ((x_up ((x_up ((x_up A 163 (1598 + 12 * c + n0) w)) 163 (1597 + 12 * c) (1 + n0))) 163 (1116 + 8 * w) 1)) 163 (1117 + 8 * w) c)) 163 (1118 + 8 * w) (-1)) 163 (1598 + 12 * v + k) = if v = c ∧ k = n0 then w else A 163 (1598 + 12 * v + k) := fun k k0 k1 => by simp only [x_up]; grind
      have l2 : (x_up ((x_up ((x_up ((x_up ((x_up A 163 (1598 + 12 * c + n0) w)) 163 (1597 + 12 * c) (1 + n0))) 163 (1116 + 8 * w) 1)) 163 (1117 + 8 * w) c)) 163 (1118 + 8 * w) (-1)) 163 (1597 + 12 * v) = if v = c then 1 + n0 else A 163 (1597 + 12 * v) := by simp only [x_up]; grind
      rw [l2] at g5
      rw [l1 k g2 (by omega), l1 l (by omega) g4, if_neg (by split at g5 <;> omega)]
      have g6 : k < A 163 (1597 + 12 * v) := by
        split at g5
        · rename_i z; subst z; omega
        · omega
      by_cases q : v = c ∧ l = n0
      · rw [if_pos q]
        have e2 := K.kr v k g0 g1 g2 (by omega) g6
        intro z; rw [z] at e2; exact hp e2.2.2.1
      · rw [if_neg q]
        exact K.ki v k l g0 g1 g2 g3 g4 (by
          split at g5
          · rename_i z; subst z; omega
          · omega)
  · intro v g0 g1
    have e := T v g0 g1
    have l1 : ∀ k, 0 ≤ k → k < 8 → (x_up ((x_up ((x_up ((x_up ((x_up A 163 (1598 + 12 * c + n0) w)) 163 (1597 + 12 * c) (1 + n0))) 163 (1116 + 8 * w) 1)) 163 (1117 + 8 * w) c)) 163 (1118 + 8 * w) (-1)) 163 (1598 + 12 * v + k) = if v = c ∧ k = n0 then w else A 163 (1598 + 12 * v + k) := fun k k0 k1 => by simp only [x_up]; grind
    have l2 : (x_up ((x_up ((x_up ((x_up ((x_up A 163 (1598 + 12 * c + n0) w)) 163 (1597 + 12 * c) (1 + n0))) 163 (1116 + 8 * w) 1)) 163 (1117 + 8 * w) c)) 163 (1118 + 8 * w) (-1)) 163 (1597 + 12 * v) = if v = c then 1 + n0 else A 163 (1597 + 12 * v) := by simp only [x_up]; grind
    have l3 : (x_up ((x_up ((x_up ((x_up ((x_up A 163 (1598 + 12 * c + n0) w)) 163 (1597 + 12 * c) (1 + n0))) 163 (1116 + 8 * w) 1)) 163 (1117 + 8 * w) c)) 163 (1118 + 8 * w) (-1)) 163 2 = A 163 2 := by simp only [x_up]; grind
    have l4 : ∀ x, 0 ≤ x → x < 60 → (x_up ((x_up ((x_up ((x_up ((x_up A 163 (1598 + 12 * c + n0) w)) 163 (1597 + 12 * c) (1 + n0))) 163 (1116 + 8 * w) 1)) 163 (1117 + 8 * w) c)) 163 (1118 + 8 * w) (-1)) 163 (1114 + 8 * x) = A 163 (1114 + 8 * x) := fun x x0 x1 => by simp only [x_up]; grind
    have l5 : (x_up ((x_up ((x_up ((x_up ((x_up A 163 (1598 + 12 * c + n0) w)) 163 (1597 + 12 * c) (1 + n0))) 163 (1116 + 8 * w) 1)) 163 (1117 + 8 * w) c)) 163 (1118 + 8 * w) (-1)) 163 (1594 + 12 * v) = A 163 (1594 + 12 * v) := by simp only [x_up]; grind
    by_cases q : v = c
    · subst q
      have key : ∀ k, 0 ≤ k → k < 8 → y_s1 (x_up ((x_up ((x_up ((x_up ((x_up A 163 (1598 + 12 * v + n0) w)) 163 (1597 + 12 * v) (1 + n0))) 163 (1116 + 8 * w) 1)) 163 (1117 + 8 * w) v)) 163 (1118 + 8 * w) (-1)) v k = y_s1 A v k + if k = n0 then y_sz (A 163 (1114 + 8 * w)) else 0 := fun k k0 k1 => by
        unfold y_s1
        rw [l2, if_pos rfl, l1 k k0 k1, hn0]
        by_cases z : k = n0
        · rw [if_pos (show k < 1 + n0 by omega), if_pos (show v = v ∧ k = n0 from ⟨rfl, z⟩), if_pos z, if_neg (show ¬ k < n0 by omega), l4 w hw.1 (by omega)]
          unfold y_sz; omega
        · rw [if_neg (show ¬ (v = v ∧ k = n0) from fun h => z h.2), if_neg z]
          by_cases z2 : k < n0
          · have r := K.kr v k hc.1 (by omega) k0 k1 (by omega)
            rw [if_pos (show k < 1 + n0 by omega), if_pos z2, l4 _ r.1.1 r.1.2]; omega
          · rw [if_neg (show ¬ k < 1 + n0 by omega), if_neg z2]; omega
      have tk : y_tk (x_up ((x_up ((x_up ((x_up ((x_up A 163 (1598 + 12 * v + n0) w)) 163 (1597 + 12 * v) (1 + n0))) 163 (1116 + 8 * w) 1)) 163 (1117 + 8 * w) v)) 163 (1118 + 8 * w) (-1)) v = t0 := by
        rw [ht]
        unfold y_tk
        rw [key 0 (by omega) (by omega), key 1 (by omega) (by omega), key 2 (by omega) (by omega), key 3 (by omega) (by omega), key 4 (by omega) (by omega), key 5 (by omega) (by omega), key 6 (by omega) (by omega), key 7 (by omega) (by omega)]
        rcases (show n0 = 0 ∨ n0 = 1 ∨ n0 = 2 ∨ n0 = 3 ∨ n0 = 4 ∨ n0 = 5 ∨ n0 = 6 ∨ n0 = 7 by omega) with z | z | z | z | z | z | z | z <;> (rw [z]; simp only [if_true]; simp; omega)
      rw [tk, l5]
      exact ⟨by simp only [x_up]; grind, fun _ => hl⟩
    · have tk : y_tk (x_up ((x_up ((x_up ((x_up ((x_up A 163 (1598 + 12 * c + n0) w)) 163 (1597 + 12 * c) (1 + n0))) 163 (1116 + 8 * w) 1)) 163 (1117 + 8 * w) c)) 163 (1118 + 8 * w) (-1)) v = y_tk A v := tk_fr (by rw [l2, if_neg q]) (fun k k0 k1 k2 => by
        have r := K.kr v k g0 g1 k0 k1 k2
        exact ⟨by rw [l1 k k0 k1, if_neg (fun h => q h.1)], l4 _ r.1.1 r.1.2⟩)
      rw [tk, l3, l5]
      refine ⟨?_, e.2⟩
      rw [← e.1]; simp only [x_up]; grind
