/-! WHEELS MOVE: the invariant outside two wheels -/
def y_IX (A : Int → Int → Int) (w c : Int) : Prop := (0 ≤ A 163 0 ∧ A 163 0 ≤ 12) ∧ (0 ≤ A 163 1 ∧ A 163 1 ≤ 60) ∧ (∀ s, 0 ≤ s → s < 12 → s < A 163 0 → 2 ≤ A 163 (10 + 80 * s) ∧ A 163 (10 + 80 * s) ≤ 12) ∧ (∀ s d, 0 ≤ s → s < 12 → 0 ≤ d → d < 12 → s < A 163 0 → d < A 163 (10 + 80 * s) → (-2 ≤ A 163 (11 + 80 * s + d) ∧ A 163 (11 + 80 * s + d) < A 163 1) ∧ (0 ≤ A 163 (11 + 80 * s + d) → A 163 (11 + 80 * s + d) ≠ w ∧ A 163 (11 + 80 * s + d) ≠ c)) ∧ (∀ s d x, 0 ≤ s → s < 12 → 0 ≤ d → d < 12 → 0 ≤ x → x < 60 → s < A 163 0 → d < A 163 (10 + 80 * s) → A 163 (11 + 80 * s + d) = x → A 163 (1116 + 8 * x) = 0 ∧ A 163 (1117 + 8 * x) = s ∧ A 163 (1118 + 8 * x) ≤ d ∧ d < A 163 (1118 + 8 * x) + (if A 163 (1114 + 8 * x) = 2 then 2 else 1)) ∧ (∀ x, 0 ≤ x → x < 60 → x < A 163 1 → (0 ≤ A 163 (1114 + 8 * x) ∧ A 163 (1114 + 8 * x) ≤ 3) ∧ (0 ≤ A 163 (1116 + 8 * x) ∧ A 163 (1116 + 8 * x) ≤ 3) ∧ 0 ≤ A 163 (1115 + 8 * x) ∧ A 163 (1115 + 8 * x) ≤ 1000) ∧ (∀ x, 0 ≤ x → x < 60 → x < A 163 1 → x ≠ w → x ≠ c → A 163 (1116 + 8 * x) = 0 → (0 ≤ A 163 (1117 + 8 * x) ∧ A 163 (1117 + 8 * x) < 12) ∧ (0 ≤ A 163 (1118 + 8 * x) ∧ A 163 (1118 + 8 * x) + (if A 163 (1114 + 8 * x) = 2 then 2 else 1) ≤ 12) ∧ A 163 (1118 + 8 * x) + (if A 163 (1114 + 8 * x) = 2 then 2 else 1) ≤ A 163 (10 + 80 * A 163 (1117 + 8 * x)) ∧ A 163 (11 + 80 * A 163 (1117 + 8 * x) + A 163 (1118 + 8 * x)) = x ∧ (A 163 (1114 + 8 * x) = 2 → A 163 (12 + 80 * A 163 (1117 + 8 * x) + A 163 (1118 + 8 * x)) = x)) ∧ (∀ x, 0 ≤ x → x < 60 → x < A 163 1 → x ≠ w → x ≠ c → A 163 (1116 + 8 * x) ≠ 1 → 0 ≤ A 163 (1117 + 8 * x) ∧ A 163 (1117 + 8 * x) < A 163 0) ∧ (∀ x, 0 ≤ x → x < 60 → x < A 163 1 → x ≠ w → x ≠ c → A 163 (1116 + 8 * x) ≠ 0 → A 163 (1118 + 8 * x) = -1) ∧ (∀ x, 0 ≤ x → x < 60 → 0 ≤ A 163 (1120 + 8 * x))
theorem y_IX.n {A : Int → Int → Int} {w c : Int} (h : y_IX A w c) : 0 ≤ A 163 0 ∧ A 163 0 ≤ 12 := h.1
theorem y_IX.nw {A : Int → Int → Int} {w c : Int} (h : y_IX A w c) : 0 ≤ A 163 1 ∧ A 163 1 ≤ 60 := h.2.1
theorem y_IX.dk {A : Int → Int → Int} {w c : Int} (h : y_IX A w c) : ∀ s, 0 ≤ s → s < 12 → s < A 163 0 → 2 ≤ A 163 (10 + 80 * s) ∧ A 163 (10 + 80 * s) ≤ 12 := h.2.2.1
theorem y_IX.cr {A : Int → Int → Int} {w c : Int} (h : y_IX A w c) : ∀ s d, 0 ≤ s → s < 12 → 0 ≤ d → d < 12 → s < A 163 0 → d < A 163 (10 + 80 * s) → (-2 ≤ A 163 (11 + 80 * s + d) ∧ A 163 (11 + 80 * s + d) < A 163 1) ∧ (0 ≤ A 163 (11 + 80 * s + d) → A 163 (11 + 80 * s + d) ≠ w ∧ A 163 (11 + 80 * s + d) ≠ c) := h.2.2.2.1
theorem y_IX.ct {A : Int → Int → Int} {w c : Int} (h : y_IX A w c) : ∀ s d x, 0 ≤ s → s < 12 → 0 ≤ d → d < 12 → 0 ≤ x → x < 60 → s < A 163 0 → d < A 163 (10 + 80 * s) → A 163 (11 + 80 * s + d) = x → A 163 (1116 + 8 * x) = 0 ∧ A 163 (1117 + 8 * x) = s ∧ A 163 (1118 + 8 * x) ≤ d ∧ d < A 163 (1118 + 8 * x) + (if A 163 (1114 + 8 * x) = 2 then 2 else 1) := h.2.2.2.2.1
theorem y_IX.kd {A : Int → Int → Int} {w c : Int} (h : y_IX A w c) : ∀ x, 0 ≤ x → x < 60 → x < A 163 1 → (0 ≤ A 163 (1114 + 8 * x) ∧ A 163 (1114 + 8 * x) ≤ 3) ∧ (0 ≤ A 163 (1116 + 8 * x) ∧ A 163 (1116 + 8 * x) ≤ 3) ∧ 0 ≤ A 163 (1115 + 8 * x) ∧ A 163 (1115 + 8 * x) ≤ 1000 := h.2.2.2.2.2.1
theorem y_IX.pd {A : Int → Int → Int} {w c : Int} (h : y_IX A w c) : ∀ x, 0 ≤ x → x < 60 → x < A 163 1 → x ≠ w → x ≠ c → A 163 (1116 + 8 * x) = 0 → (0 ≤ A 163 (1117 + 8 * x) ∧ A 163 (1117 + 8 * x) < 12) ∧ (0 ≤ A 163 (1118 + 8 * x) ∧ A 163 (1118 + 8 * x) + (if A 163 (1114 + 8 * x) = 2 then 2 else 1) ≤ 12) ∧ A 163 (1118 + 8 * x) + (if A 163 (1114 + 8 * x) = 2 then 2 else 1) ≤ A 163 (10 + 80 * A 163 (1117 + 8 * x)) ∧ A 163 (11 + 80 * A 163 (1117 + 8 * x) + A 163 (1118 + 8 * x)) = x ∧ (A 163 (1114 + 8 * x) = 2 → A 163 (12 + 80 * A 163 (1117 + 8 * x) + A 163 (1118 + 8 * x)) = x) := h.2.2.2.2.2.2.1
theorem y_IX.ps {A : Int → Int → Int} {w c : Int} (h : y_IX A w c) : ∀ x, 0 ≤ x → x < 60 → x < A 163 1 → x ≠ w → x ≠ c → A 163 (1116 + 8 * x) ≠ 1 → 0 ≤ A 163 (1117 + 8 * x) ∧ A 163 (1117 + 8 * x) < A 163 0 := h.2.2.2.2.2.2.2.1
theorem y_IX.pn {A : Int → Int → Int} {w c : Int} (h : y_IX A w c) : ∀ x, 0 ≤ x → x < 60 → x < A 163 1 → x ≠ w → x ≠ c → A 163 (1116 + 8 * x) ≠ 0 → A 163 (1118 + 8 * x) = -1 := h.2.2.2.2.2.2.2.2.1
theorem y_IX.bk {A : Int → Int → Int} {w c : Int} (h : y_IX A w c) : ∀ x, 0 ≤ x → x < 60 → 0 ≤ A 163 (1120 + 8 * x) := h.2.2.2.2.2.2.2.2.2
theorem X_of {A : Int → Int → Int} (h : y_I A) : y_IX A (-1) (-1) :=
  ⟨h.n, h.nw, h.dk, fun s d s0 s1 d0 d1 s2 d2 => ⟨h.cr s d s0 s1 d0 d1 s2 d2, fun q => ⟨by omega, by omega⟩⟩, h.ct, h.kd, fun x x0 x1 x2 _ _ => h.pd x x0 x1 x2, fun x x0 x1 x2 _ _ => h.ps x x0 x1 x2, fun x x0 x1 x2 _ _ => h.pn x x0 x1 x2, h.bk⟩
theorem X_to {A : Int → Int → Int} (h : y_IX A (-1) (-1)) (pa : ∀ w, 0 ≤ w → w < 60 → w < A 163 1 → A 163 (1121 + 8 * w) = -1 ∨ (A 163 (1116 + 8 * w) = 2 ∧ (0 ≤ A 163 (1121 + 8 * w) ∧ A 163 (1121 + 8 * w) < 60) ∧ A 163 (1121 + 8 * w) < A 163 1 ∧ A 163 (1116 + 8 * A 163 (1121 + 8 * w)) = 2 ∧ A 163 (1121 + 8 * A 163 (1121 + 8 * w)) = w ∧ (A 163 (1114 + 8 * w) = 3 ↔ ¬ A 163 (1114 + 8 * A 163 (1121 + 8 * w)) = 3))) : y_IW A :=
  ⟨fun s d s0 s1 d0 d1 s2 d2 => (h.cr s d s0 s1 d0 d1 s2 d2).1, h.ct, h.kd, fun x x0 x1 x2 => h.pd x x0 x1 x2 (by omega) (by omega), fun x x0 x1 x2 => h.ps x x0 x1 x2 (by omega) (by omega), fun x x0 x1 x2 => h.pn x x0 x1 x2 (by omega) (by omega), pa, h.bk⟩
theorem X_sw {A : Int → Int → Int} {w c : Int} (h : y_IX A w c) : y_IX A c w :=
  ⟨h.n, h.nw, h.dk, fun s d s0 s1 d0 d1 s2 d2 => ⟨(h.cr s d s0 s1 d0 d1 s2 d2).1, fun q => ((h.cr s d s0 s1 d0 d1 s2 d2).2 q).symm⟩, h.ct, h.kd, fun x x0 x1 x2 a b => h.pd x x0 x1 x2 b a, fun x x0 x1 x2 a b => h.ps x x0 x1 x2 b a, fun x x0 x1 x2 a b => h.pn x x0 x1 x2 b a, h.bk⟩
theorem P_comes {A : Int → Int → Int} {w s d : Int} (c k : Int) : u_m_comes w s d A c k = if c = 163 ∧ k = 1118 + 8 * w then d else if c = 163 ∧ k = 1117 + 8 * w then s else if c = 163 ∧ k = 1116 + 8 * w then 0 else if c = 163 ∧ (k = 11 + 80 * s + d ∨ (A 163 (1114 + 8 * w) = 2 ∧ k = 12 + 80 * s + d)) then w else A c k := by
  unfold u_m_comes
  by_cases q : A 163 (1114 + 8 * w) = 2
  · rw [if_neg (by omega)]; simp only [x_up]; grind
  · rw [if_pos q]; simp only [x_up]; grind
theorem P_leaves {A : Int → Int → Int} {w : Int} (c k : Int) : u_m_leaves w A c k = if c = 163 ∧ (k = 11 + 80 * A 163 (1117 + 8 * w) + A 163 (1118 + 8 * w) ∨ (A 163 (1114 + 8 * w) = 2 ∧ k = 12 + 80 * A 163 (1117 + 8 * w) + A 163 (1118 + 8 * w))) then -1 else A c k := by
  unfold u_m_leaves
  by_cases q : A 163 (1114 + 8 * w) = 2
  · rw [if_neg (by omega)]; simp only [x_up]; grind
  · rw [if_pos q]; simp only [x_up]; grind
/-- a wheel leaves its dock -/
theorem X_leaves {A : Int → Int → Int} {w c : Int} (h : y_IX A w (-1)) (hc : 0 ≤ c ∧ c < A 163 1) (hcw : c ≠ w) (hp : A 163 (1116 + 8 * c) = 0) : y_IX (u_m_leaves c A) w c := by
  have hn := h.n
  have hw := h.nw
  have pd := h.pd c hc.1 (by omega) hc.2 hcw (by omega) hp
  have ps := h.ps c hc.1 (by omega) hc.2 hcw (by omega) (by omega)
  have cd := h.dk _ ps.1 pd.1.2 ps.2
  have q9 : A 163 (1118 + 8 * c) < 12 ∧ (A 163 (1114 + 8 * c) = 2 → A 163 (1118 + 8 * c) < 11) := by have := pd.2.1.2; split at this <;> omega
  have P := fun k => P_leaves (A := A) (w := c) 163 k
  have l0 : ∀ k, k < 11 → (u_m_leaves c A) 163 k = A 163 k := fun k q => by rw [P, if_neg (by omega)]
  have ld : ∀ s, 0 ≤ s → s < 12 → (u_m_leaves c A) 163 (10 + 80 * s) = A 163 (10 + 80 * s) := fun s s0 s1 => by rw [P, if_neg (by omega)]
  have lw : ∀ k, 1114 ≤ k → (u_m_leaves c A) 163 k = A 163 k := fun k q => by rw [P, if_neg (by omega)]
  have lc : ∀ s d, 0 ≤ s → s < 12 → 0 ≤ d → d < 12 → (u_m_leaves c A) 163 (11 + 80 * s + d) = if s = A 163 (1117 + 8 * c) ∧ (d = A 163 (1118 + 8 * c) ∨ (A 163 (1114 + 8 * c) = 2 ∧ d = 1 + A 163 (1118 + 8 * c))) then -1 else A 163 (11 + 80 * s + d) := fun s d s0 s1 d0 d1 => by
    rw [P]
    by_cases q : s = A 163 (1117 + 8 * c) ∧ (d = A 163 (1118 + 8 * c) ∨ (A 163 (1114 + 8 * c) = 2 ∧ d = 1 + A 163 (1118 + 8 * c)))
    · rw [if_pos q, if_pos (by omega)]
    · rw [if_neg q, if_neg (by omega)]
  clear P
  have e0 := l0 0 (by omega)
  have e1 := l0 1 (by omega)
  have kc : A 163 (1114 + 8 * c) = 2 ∨ A 163 (1114 + 8 * c) ≠ 2 := by omega
  revert l0 ld lw lc e0 e1
  generalize u_m_leaves c A = A2
  intro l0 ld lw lc e0 e1
  refine ⟨by rw [e0]; exact hn, by rw [e1]; exact hw, ?_, ?_, ?_, ?_, ?_, ?_, ?_, ?_⟩
  · intro s s0 s1 s2; rw [ld s s0 s1]; rw [e0] at s2; exact h.dk s s0 s1 s2
  · intro s d s0 s1 d0 d1 s2 d2
    rw [e0] at s2; rw [ld s s0 s1] at d2
    have a := h.cr s d s0 s1 d0 d1 s2 d2
    have b := h.ct s d c s0 s1 d0 d1 hc.1 (by omega) s2 d2
    rw [lc s d s0 s1 d0 d1, e1]
    clear l0 ld lw lc e0 e1
    grind
  · intro s d x s0 s1 d0 d1 x0 x1 s2 d2 e
    rw [e0] at s2; rw [ld s s0 s1] at d2; rw [lc s d s0 s1 d0 d1] at e
    rw [lw _ (by omega), lw _ (by omega), lw _ (by omega), lw _ (by omega)]
    split at e
    · omega
    · exact h.ct s d x s0 s1 d0 d1 x0 x1 s2 d2 e
  · intro x x0 x1 x2; rw [e1] at x2; rw [lw _ (by omega), lw _ (by omega), lw _ (by omega)]; exact h.kd x x0 x1 x2
  · intro x x0 x1 x2 xw xc xp
    rw [e1] at x2; rw [lw _ (by omega)] at xp
    have a := h.pd x x0 x1 x2 xw (by omega) xp
    have b := h.ps x x0 x1 x2 xw (by omega) (by omega)
    have q8 : A 163 (1118 + 8 * x) < 12 ∧ (A 163 (1114 + 8 * x) = 2 → A 163 (1118 + 8 * x) < 11) := by have := a.2.1.2; split at this <;> omega
    have f1 := lc (A 163 (1117 + 8 * x)) (A 163 (1118 + 8 * x)) a.1.1 a.1.2 a.2.1.1 q8.1
    rw [lw (1114 + 8 * x) (by omega), lw (1117 + 8 * x) (by omega), lw (1118 + 8 * x) (by omega), ld _ a.1.1 a.1.2, f1]
    refine ⟨a.1, a.2.1, a.2.2.1, ?_, fun k2 => ?_⟩
    · rw [if_neg]
      · exact a.2.2.2.1
      · intro z
        have v := a.2.2.2.1
        have v1 := pd.2.2.2.1
        have v2 := pd.2.2.2.2
        rcases z with ⟨z1, z2 | ⟨z3, z2⟩⟩
        · rw [z1, z2] at v; omega
        · rw [z1, z2] at v; have := v2 z3; rw [show (12 : Int) + 80 * A 163 (1117 + 8 * c) + A 163 (1118 + 8 * c) = 11 + 80 * A 163 (1117 + 8 * c) + (1 + A 163 (1118 + 8 * c)) by omega] at this; omega
    · have f2 := lc (A 163 (1117 + 8 * x)) (1 + A 163 (1118 + 8 * x)) a.1.1 a.1.2 (by omega) (by have := q8.2 k2; omega)
      rw [show (12 : Int) + 80 * A 163 (1117 + 8 * x) + A 163 (1118 + 8 * x) = 11 + 80 * A 163 (1117 + 8 * x) + (1 + A 163 (1118 + 8 * x)) by omega, f2, if_neg]
      · have := a.2.2.2.2 k2
        rwa [show (12 : Int) + 80 * A 163 (1117 + 8 * x) + A 163 (1118 + 8 * x) = 11 + 80 * A 163 (1117 + 8 * x) + (1 + A 163 (1118 + 8 * x)) by omega] at this
      · intro z
        have v := a.2.2.2.2 k2
        rw [show (12 : Int) + 80 * A 163 (1117 + 8 * x) + A 163 (1118 + 8 * x) = 11 + 80 * A 163 (1117 + 8 * x) + (1 + A 163 (1118 + 8 * x)) by omega] at v
        have v1 := pd.2.2.2.1
        have v2 := pd.2.2.2.2
        rcases z with ⟨z1, z2 | ⟨z3, z2⟩⟩
        · rw [z1, z2] at v; omega
        · rw [z1, z2] at v; have := v2 z3; rw [show (12 : Int) + 80 * A 163 (1117 + 8 * c) + A 163 (1118 + 8 * c) = 11 + 80 * A 163 (1117 + 8 * c) + (1 + A 163 (1118 + 8 * c)) by omega] at this; omega
  · intro x x0 x1 x2 xw xc; rw [e1] at x2; rw [lw _ (by omega), lw _ (by omega), e0]; exact h.ps x x0 x1 x2 xw (by omega)
  · intro x x0 x1 x2 xw xc; rw [e1] at x2; rw [lw _ (by omega), lw _ (by omega)]; exact h.pn x x0 x1 x2 xw (by omega)
  · intro x x0 x1; rw [lw _ (by omega)]; exact h.bk x x0 x1
/-- a wheel comes to free docks -/
theorem X_comes {A : Int → Int → Int} {w c s0 d0 : Int} (h : y_IX A w c) (hw : 0 ≤ w ∧ w < A 163 1) (hwc : w ≠ c) (hs : 0 ≤ s0 ∧ s0 < A 163 0) (hd : 0 ≤ d0 ∧ d0 + y_sz (A 163 (1114 + 8 * w)) ≤ A 163 (10 + 80 * s0)) (f0 : A 163 (11 + 80 * s0 + d0) = -1) (f1 : A 163 (1114 + 8 * w) = 2 → A 163 (12 + 80 * s0 + d0) = -1) : y_IX (u_m_comes w s0 d0 A) c (-1) := by
  have hn := h.n
  have hN := h.nw
  have cd := h.dk s0 hs.1 (by omega) hs.2
  have q9 : d0 < 12 ∧ (A 163 (1114 + 8 * w) = 2 → d0 < 11) := by have := hd.2; unfold y_sz at this; split at this <;> omega
  have P := fun k => P_comes (A := A) (w := w) (s := s0) (d := d0) 163 k
  have l0 : ∀ k, k < 11 → (u_m_comes w s0 d0 A) 163 k = A 163 k := fun k q => by rw [P, if_neg (by omega), if_neg (by omega), if_neg (by omega), if_neg (by omega)]
  have ld : ∀ s, 0 ≤ s → s < 12 → (u_m_comes w s0 d0 A) 163 (10 + 80 * s) = A 163 (10 + 80 * s) := fun s g0 g1 => by rw [P, if_neg (by omega), if_neg (by omega), if_neg (by omega), if_neg (by omega)]
  have lw : ∀ x j, 0 ≤ x → 0 ≤ j → j < 8 → x ≠ w → (u_m_comes w s0 d0 A) 163 (1114 + j + 8 * x) = A 163 (1114 + j + 8 * x) := fun x j q1 q2 q3 q4 => by rw [P, if_neg (by omega), if_neg (by omega), if_neg (by omega), if_neg (by omega)]
  have lv : ∀ j, j = 0 ∨ j = 1 ∨ j = 6 ∨ j = 7 → (u_m_comes w s0 d0 A) 163 (1114 + j + 8 * w) = A 163 (1114 + j + 8 * w) := fun j q => by rw [P, if_neg (by omega), if_neg (by omega), if_neg (by omega), if_neg (by omega)]
  have v2 : (u_m_comes w s0 d0 A) 163 (1116 + 8 * w) = 0 := by rw [P, if_neg (by omega), if_neg (by omega), if_pos (by omega)]
  have v3 : (u_m_comes w s0 d0 A) 163 (1117 + 8 * w) = s0 := by rw [P, if_neg (by omega), if_pos (by omega)]
  have v4 : (u_m_comes w s0 d0 A) 163 (1118 + 8 * w) = d0 := by rw [P, if_pos (by omega)]
  have lc : ∀ s d, 0 ≤ s → s < 12 → 0 ≤ d → d < 12 → (u_m_comes w s0 d0 A) 163 (11 + 80 * s + d) = if s = s0 ∧ (d = d0 ∨ (A 163 (1114 + 8 * w) = 2 ∧ d = 1 + d0)) then w else A 163 (11 + 80 * s + d) := fun s d g0 g1 g2 g3 => by
    rw [P, if_neg (by omega), if_neg (by omega), if_neg (by omega)]
    by_cases q : s = s0 ∧ (d = d0 ∨ (A 163 (1114 + 8 * w) = 2 ∧ d = 1 + d0))
    · rw [if_pos q, if_pos (by omega)]
    · rw [if_neg q, if_neg (by omega)]
  clear P
  have e0 := l0 0 (by omega)
  have e1 := l0 1 (by omega)
  have k0 := lv 0 (by omega)
  have k1 := lv 1 (by omega)
  have k6 := lv 6 (by omega)
  rw [show (1114 : Int) + 0 = 1114 by omega] at k0
  rw [show (1114 : Int) + 1 = 1115 by omega] at k1
  rw [show (1114 : Int) + 6 = 1120 by omega] at k6
  have w0 : ∀ x, 0 ≤ x → x ≠ w → (u_m_comes w s0 d0 A) 163 (1114 + 8 * x) = A 163 (1114 + 8 * x) := fun x q1 q2 => lw x 0 q1 (by omega) (by omega) q2
  have w1 : ∀ x, 0 ≤ x → x ≠ w → (u_m_comes w s0 d0 A) 163 (1115 + 8 * x) = A 163 (1115 + 8 * x) := fun x q1 q2 => lw x 1 q1 (by omega) (by omega) q2
  have w2 : ∀ x, 0 ≤ x → x ≠ w → (u_m_comes w s0 d0 A) 163 (1116 + 8 * x) = A 163 (1116 + 8 * x) := fun x q1 q2 => lw x 2 q1 (by omega) (by omega) q2
  have w3 : ∀ x, 0 ≤ x → x ≠ w → (u_m_comes w s0 d0 A) 163 (1117 + 8 * x) = A 163 (1117 + 8 * x) := fun x q1 q2 => lw x 3 q1 (by omega) (by omega) q2
  have w4 : ∀ x, 0 ≤ x → x ≠ w → (u_m_comes w s0 d0 A) 163 (1118 + 8 * x) = A 163 (1118 + 8 * x) := fun x q1 q2 => lw x 4 q1 (by omega) (by omega) q2
  have w6 : ∀ x, 0 ≤ x → x ≠ w → (u_m_comes w s0 d0 A) 163 (1120 + 8 * x) = A 163 (1120 + 8 * x) := fun x q1 q2 => lw x 6 q1 (by omega) (by omega) q2
  clear lw lv
  revert l0 ld lc e0 e1 v2 v3 v4 k0 k1 k6 w0 w1 w2 w3 w4 w6
  generalize u_m_comes w s0 d0 A = A2
  intro l0 ld v2 v3 v4 lc e0 e1 k0 k1 k6 w0 w1 w2 w3 w4 w6
  refine ⟨by rw [e0]; exact hn, by rw [e1]; exact hN, ?_, ?_, ?_, ?_, ?_, ?_, ?_, ?_⟩
  · intro s g0 g1 s2; rw [ld s g0 g1]; rw [e0] at s2; exact h.dk s g0 g1 s2
  · intro s d g0 g1 g2 g3 s2 d2
    rw [e0] at s2; rw [ld s g0 g1] at d2
    have a := h.cr s d g0 g1 g2 g3 s2 d2
    rw [lc s d g0 g1 g2 g3, e1]
    split
    · exact ⟨⟨by omega, hw.2⟩, fun _ => ⟨hwc, by omega⟩⟩
    · exact ⟨a.1, fun q => ⟨(a.2 q).2, by omega⟩⟩
  · intro s d x g0 g1 g2 g3 x0 x1 s2 d2 e
    rw [e0] at s2; rw [ld s g0 g1] at d2; rw [lc s d g0 g1 g2 g3] at e
    by_cases xw : x = w
    · subst xw
      rw [v2, v3, v4, k0]
      have a := h.cr s d g0 g1 g2 g3 s2 d2
      have a2 := h.ct s d x g0 g1 g2 g3 x0 x1 s2 d2
      split at e
      · rename_i z
        refine ⟨rfl, z.1.symm, by omega, ?_⟩
        split <;> omega
      · exact absurd e (a.2 (by omega)).1
    · rw [w0 x x0 xw, w2 x x0 xw, w3 x x0 xw, w4 x x0 xw]
      split at e
      · exact absurd e.symm xw
      · exact h.ct s d x g0 g1 g2 g3 x0 x1 s2 d2 e
  · intro x x0 x1 x2
    rw [e1] at x2
    have a := h.kd x x0 x1 x2
    by_cases xw : x = w
    · subst xw; rw [k0, v2, k1]; exact ⟨a.1, by omega, a.2.2⟩
    · rw [w0 x x0 xw, w1 x x0 xw, w2 x x0 xw]; exact a
  · intro x x0 x1 x2 xc _ xp
    rw [e1] at x2
    by_cases xw : x = w
    · subst xw
      have f0' := lc s0 d0 hs.1 (by omega) hd.1 q9.1
      rw [if_pos ⟨rfl, Or.inl rfl⟩] at f0'
      unfold y_sz at hd
      rw [k0, v3, v4, ld s0 hs.1 (by omega)]
      refine ⟨⟨hs.1, by omega⟩, ⟨hd.1, by omega⟩, hd.2, f0', fun k2 => ?_⟩
      have := lc s0 (1 + d0) hs.1 (by omega) (by omega) (by have := q9.2 k2; omega)
      rw [if_pos ⟨rfl, Or.inr ⟨k2, rfl⟩⟩] at this
      rwa [show (12 : Int) + 80 * s0 + d0 = 11 + 80 * s0 + (1 + d0) by omega]
    · rw [w2 x x0 xw] at xp
      have a := h.pd x x0 x1 x2 xw xc xp
      have q8 : A 163 (1118 + 8 * x) < 12 ∧ (A 163 (1114 + 8 * x) = 2 → A 163 (1118 + 8 * x) < 11) := by have := a.2.1.2; split at this <;> omega
      have g1 := lc (A 163 (1117 + 8 * x)) (A 163 (1118 + 8 * x)) a.1.1 a.1.2 a.2.1.1 q8.1
      rw [w0 x x0 xw, w3 x x0 xw, w4 x x0 xw, ld _ a.1.1 a.1.2, g1]
      have v := a.2.2.2.1
      refine ⟨a.1, a.2.1, a.2.2.1, ?_, fun k2 => ?_⟩
      · rw [if_neg]
        · exact v
        · rintro ⟨z1, z2 | ⟨z3, z2⟩⟩
          · rw [z1, z2] at v; omega
          · rw [z1, z2, show (11 : Int) + 80 * s0 + (1 + d0) = 12 + 80 * s0 + d0 by omega] at v
            have := f1 z3; omega
      · have v := a.2.2.2.2 k2
        have g2 := lc (A 163 (1117 + 8 * x)) (1 + A 163 (1118 + 8 * x)) a.1.1 a.1.2 (by omega) (by have := q8.2 k2; omega)
        rw [show (12 : Int) + 80 * A 163 (1117 + 8 * x) + A 163 (1118 + 8 * x) = 11 + 80 * A 163 (1117 + 8 * x) + (1 + A 163 (1118 + 8 * x)) by omega] at v ⊢
        rw [g2, if_neg]
        · exact v
        · rintro ⟨z1, z2 | ⟨z3, z2⟩⟩
          · rw [z1, z2] at v; omega
          · rw [z1, z2, show (11 : Int) + 80 * s0 + (1 + d0) = 12 + 80 * s0 + d0 by omega] at v
            have := f1 z3; omega
  · intro x x0 x1 x2 xc _ xp
    rw [e1] at x2
    by_cases xw : x = w
    · subst xw; rw [v3, e0]; exact hs
    · rw [w2 x x0 xw] at xp; rw [w3 x x0 xw, e0]; exact h.ps x x0 x1 x2 xw xc xp
  · intro x x0 x1 x2 xc _ xp
    rw [e1] at x2
    by_cases xw : x = w
    · subst xw; omega
    · rw [w2 x x0 xw] at xp; rw [w4 x x0 xw]; exact h.pn x x0 x1 x2 xw xc xp
  · intro x x0 x1
    by_cases xw : x = w
    · subst xw; rw [k6]; exact h.bk x x0 x1
    · rw [w6 x x0 xw]; exact h.bk x x0 x1
/-- what a row says of a wheel that is out may change -/
theorem X_rec {A A2 : Int → Int → Int} {w c : Int} (h : y_IX A w c) (hw : 0 ≤ w ∧ w < 60) (f : ∀ k, k < 1594 → ¬ (1114 + 8 * w ≤ k ∧ k < 1122 + 8 * w) → A2 163 k = A 163 k) (kd : w < A 163 1 → (0 ≤ A2 163 (1114 + 8 * w) ∧ A2 163 (1114 + 8 * w) ≤ 3) ∧ (0 ≤ A2 163 (1116 + 8 * w) ∧ A2 163 (1116 + 8 * w) ≤ 3) ∧ 0 ≤ A2 163 (1115 + 8 * w) ∧ A2 163 (1115 + 8 * w) ≤ 1000) (bk : 0 ≤ A2 163 (1120 + 8 * w)) : y_IX A2 w c := by
  have hn := h.n
  have hN := h.nw
  have e0 := f 0 (by omega) (by omega)
  have e1 := f 1 (by omega) (by omega)
  refine ⟨by rw [e0]; exact hn, by rw [e1]; exact hN, ?_, ?_, ?_, ?_, ?_, ?_, ?_, ?_⟩
  · intro s s0 s1; rw [f (10 + 80 * s) (by omega) (by omega), e0]; exact h.dk s s0 s1
  · intro s d g0 g1 d0 d1; rw [f (10 + 80 * s) (by omega) (by omega), f (11 + 80 * s + d) (by omega) (by omega), e0, e1]; exact h.cr s d g0 g1 d0 d1
  · intro s d x g0 g1 d0 d1 x0 x1 s2 d2 e
    rw [e0] at s2; rw [f (10 + 80 * s) (by omega) (by omega)] at d2; rw [f (11 + 80 * s + d) (by omega) (by omega)] at e
    have a := h.cr s d g0 g1 d0 d1 s2 d2
    have : x ≠ w := by have := (a.2 (by omega)).1; omega
    rw [f (1116 + 8 * x) (by omega) (by omega), f (1117 + 8 * x) (by omega) (by omega), f (1118 + 8 * x) (by omega) (by omega), f (1114 + 8 * x) (by omega) (by omega)]
    exact h.ct s d x g0 g1 d0 d1 x0 x1 s2 d2 e
  · intro x x0 x1 x2
    rw [e1] at x2
    by_cases xw : x = w
    · subst xw; exact kd x2
    · rw [f (1114 + 8 * x) (by omega) (by omega), f (1116 + 8 * x) (by omega) (by omega), f (1115 + 8 * x) (by omega) (by omega)]; exact h.kd x x0 x1 x2
  · intro x x0 x1 x2 xw xc xp
    rw [e1] at x2; rw [f (1116 + 8 * x) (by omega) (by omega)] at xp
    have a := h.pd x x0 x1 x2 xw xc xp
    have q8 : A 163 (1118 + 8 * x) < 12 ∧ (A 163 (1114 + 8 * x) = 2 → A 163 (1118 + 8 * x) < 11) := by have := a.2.1.2; split at this <;> omega
    rw [f (1114 + 8 * x) (by omega) (by omega), f (1117 + 8 * x) (by omega) (by omega), f (1118 + 8 * x) (by omega) (by omega), f (10 + 80 * A 163 (1117 + 8 * x)) (by omega) (by omega), f (11 + 80 * A 163 (1117 + 8 * x) + A 163 (1118 + 8 * x)) (by omega) (by omega), f (12 + 80 * A 163 (1117 + 8 * x) + A 163 (1118 + 8 * x)) (by omega) (by omega)]
    exact a
  · intro x x0 x1 x2 xw xc; rw [e1] at x2; rw [f (1116 + 8 * x) (by omega) (by omega), f (1117 + 8 * x) (by omega) (by omega), e0]; exact h.ps x x0 x1 x2 xw xc
  · intro x x0 x1 x2 xw xc; rw [e1] at x2; rw [f (1116 + 8 * x) (by omega) (by omega), f (1118 + 8 * x) (by omega) (by omega)]; exact h.pn x x0 x1 x2 xw xc
  · intro x x0 x1
    by_cases xw : x = w
    · subst xw; exact bk
    · rw [f (1120 + 8 * x) (by omega) (by omega)]; exact h.bk x x0 x1
/-- a wheel that is not in a dock is in order again -/
theorem X_in {A : Int → Int → Int} {w c : Int} (h : y_IX A w c) (hp : A 163 (1116 + 8 * w) ≠ 0) (hn : A 163 (1118 + 8 * w) = -1) (hs : A 163 (1116 + 8 * w) ≠ 1 → 0 ≤ A 163 (1117 + 8 * w) ∧ A 163 (1117 + 8 * w) < A 163 0) : y_IX A c (-1) := by
  refine ⟨h.n, h.nw, h.dk, fun s d s0 s1 d0 d1 s2 d2 => ⟨(h.cr s d s0 s1 d0 d1 s2 d2).1, fun q => ⟨((h.cr s d s0 s1 d0 d1 s2 d2).2 q).2, by omega⟩⟩, h.ct, h.kd, fun x x0 x1 x2 xc _ xp => ?_, fun x x0 x1 x2 xc _ => ?_, fun x x0 x1 x2 xc _ => ?_, h.bk⟩
  · by_cases xw : x = w
    · subst xw; exact absurd xp hp
    · exact h.pd x x0 x1 x2 xw xc xp
  · by_cases xw : x = w
    · subst xw; exact hs
    · exact h.ps x x0 x1 x2 xw xc
  · by_cases xw : x = w
    · subst xw; exact fun _ => hn
    · exact h.pn x x0 x1 x2 xw xc
/-- a wheel that is not in a dock may be left out -/
theorem X_open {A : Int → Int → Int} {w c : Int} (h : y_IX A c (-1)) (hw : 0 ≤ w) (hp : A 163 (1116 + 8 * w) ≠ 0) : y_IX A w c := by
  have hN := h.nw
  refine ⟨h.n, h.nw, h.dk, fun s d s0 s1 d0 d1 s2 d2 => ⟨(h.cr s d s0 s1 d0 d1 s2 d2).1, fun q => ⟨fun z => ?_, ((h.cr s d s0 s1 d0 d1 s2 d2).2 q).1⟩⟩, h.ct, h.kd, fun x x0 x1 x2 xw xc xp => h.pd x x0 x1 x2 xc (by omega) xp, fun x x0 x1 x2 xw xc => h.ps x x0 x1 x2 xc (by omega), fun x x0 x1 x2 xw xc => h.pn x x0 x1 x2 xc (by omega), h.bk⟩
  have a := h.cr s d s0 s1 d0 d1 s2 d2
  exact hp (h.ct s d w s0 s1 d0 d1 hw (by omega) s2 d2 z).1
