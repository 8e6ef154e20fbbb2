/-! THE FULL RELATION OVER ONE MEMORY -/
def y_E (C2 C : Int → Int → Int) : Prop := (C2 1 1 = C 1 1 ∧ C2 1 3 = C 1 3 ∧ C2 1 5 = C 1 5 ∧ C2 1 6 = C 1 6) ∧ (∀ s, 0 ≤ s → s < 12 → C2 (3 + 7 * s) 1 = C (3 + 7 * s) 1 ∧ C2 (3 + 7 * s) 5 = C (3 + 7 * s) 5 ∧ C2 (3 + 7 * s) 6 = C (3 + 7 * s) 6 ∧ C2 (3 + 7 * s) 7 = C (3 + 7 * s) 7 ∧ C2 (7 + 7 * s) 0 = C (7 + 7 * s) 0) ∧ (∀ s d, 0 ≤ s → s < 12 → 0 ≤ d → d < 12 → C2 (4 + 7 * s) d = C (4 + 7 * s) d ∧ C2 (5 + 7 * s) d = C (5 + 7 * s) d) ∧ (∀ s d, 0 ≤ s → s < 12 → 0 ≤ d → d < 8 → C2 (6 + 7 * s) d = C (6 + 7 * s) d) ∧ (∀ s d, 0 ≤ s → s < 12 → 0 ≤ d → d < 24 → C2 (8 + 7 * s) d = C (8 + 7 * s) d ∧ C2 (9 + 7 * s) d = C (9 + 7 * s) d) ∧ (∀ w j, 0 ≤ w → w < 60 → 1 ≤ j → j ≤ 9 → C2 (88 + w) j = C (88 + w) j) ∧ (∀ c, 0 ≤ c → c < 3 → C2 (149 + 2 * c) 1 = C (149 + 2 * c) 1 ∧ C2 (149 + 2 * c) 2 = C (149 + 2 * c) 2 ∧ C2 (149 + 2 * c) 3 = C (149 + 2 * c) 3 ∧ C2 (149 + 2 * c) 4 = C (149 + 2 * c) 4 ∧ C2 (149 + 2 * c) 6 = C (149 + 2 * c) 6) ∧ (∀ c j, 0 ≤ c → c < 3 → 0 ≤ j → j < 8 → C2 (150 + 2 * c) j = C (150 + 2 * c) j)
theorem y_E.t {C2 C : Int → Int → Int} (h : y_E C2 C) : C2 1 1 = C 1 1 ∧ C2 1 3 = C 1 3 ∧ C2 1 5 = C 1 5 ∧ C2 1 6 = C 1 6 := h.1
theorem y_E.s1 {C2 C : Int → Int → Int} (h : y_E C2 C) : ∀ s, 0 ≤ s → s < 12 → C2 (3 + 7 * s) 1 = C (3 + 7 * s) 1 ∧ C2 (3 + 7 * s) 5 = C (3 + 7 * s) 5 ∧ C2 (3 + 7 * s) 6 = C (3 + 7 * s) 6 ∧ C2 (3 + 7 * s) 7 = C (3 + 7 * s) 7 ∧ C2 (7 + 7 * s) 0 = C (7 + 7 * s) 0 := h.2.1
theorem y_E.s2 {C2 C : Int → Int → Int} (h : y_E C2 C) : ∀ s d, 0 ≤ s → s < 12 → 0 ≤ d → d < 12 → C2 (4 + 7 * s) d = C (4 + 7 * s) d ∧ C2 (5 + 7 * s) d = C (5 + 7 * s) d := h.2.2.1
theorem y_E.s3 {C2 C : Int → Int → Int} (h : y_E C2 C) : ∀ s d, 0 ≤ s → s < 12 → 0 ≤ d → d < 8 → C2 (6 + 7 * s) d = C (6 + 7 * s) d := h.2.2.2.1
theorem y_E.s4 {C2 C : Int → Int → Int} (h : y_E C2 C) : ∀ s d, 0 ≤ s → s < 12 → 0 ≤ d → d < 24 → C2 (8 + 7 * s) d = C (8 + 7 * s) d ∧ C2 (9 + 7 * s) d = C (9 + 7 * s) d := h.2.2.2.2.1
theorem y_E.w {C2 C : Int → Int → Int} (h : y_E C2 C) : ∀ w j, 0 ≤ w → w < 60 → 1 ≤ j → j ≤ 9 → C2 (88 + w) j = C (88 + w) j := h.2.2.2.2.2.1
theorem y_E.c1 {C2 C : Int → Int → Int} (h : y_E C2 C) : ∀ c, 0 ≤ c → c < 3 → C2 (149 + 2 * c) 1 = C (149 + 2 * c) 1 ∧ C2 (149 + 2 * c) 2 = C (149 + 2 * c) 2 ∧ C2 (149 + 2 * c) 3 = C (149 + 2 * c) 3 ∧ C2 (149 + 2 * c) 4 = C (149 + 2 * c) 4 ∧ C2 (149 + 2 * c) 6 = C (149 + 2 * c) 6 := h.2.2.2.2.2.2.1
theorem y_E.c2 {C2 C : Int → Int → Int} (h : y_E C2 C) : ∀ c j, 0 ≤ c → c < 3 → 0 ≤ j → j < 8 → C2 (150 + 2 * c) j = C (150 + 2 * c) j := h.2.2.2.2.2.2.2
theorem B_E {C A C2 A2 : Int → Int → Int} (h0 : y_B C A) (e : y_E C2 C) (ha : ∀ k, 0 ≤ k → k < 1640 → A2 163 k = A 163 k) : y_B C2 A2 := by
  have h : y_B C A2 := B_cong h0 (fun _ _ _ _ => rfl) ha
  refine ⟨⟨⟨?_, ?_, ?_, ?_, ?_, ?_, ?_, ?_, ?_, ?_, ?_, ?_, ?_, ?_⟩, ⟨?_, ?_, ?_, ?_, ?_, ?_, ?_, ?_⟩, ⟨?_, ?_, ?_, ?_, ?_⟩⟩, h.i, ?_⟩
  · rw [e.t.1]; exact h.f.n
  · rw [e.t.2.1]; exact h.f.nw
  · rw [e.t.2.2.1]; exact h.f.nc
  · rw [e.t.2.2.2]; exact h.f.hr
  · intro s s0 s1; rw [(e.s1 s s0 s1).1]; exact h.f.dk s s0 s1
  · intro s s0 s1; rw [(e.s1 s s0 s1).2.1]; exact h.f.oc s s0 s1
  · intro s s0 s1; rw [(e.s1 s s0 s1).2.2.1]; exact h.f.wa s s0 s1
  · intro s s0 s1; rw [(e.s1 s s0 s1).2.2.2.1]; exact h.f.fl s s0 s1
  · intro s d s0 s1 d0 d1; rw [(e.s2 s d s0 s1 d0 d1).1]; exact h.f.ct s d s0 s1 d0 d1
  · intro s d s0 s1 d0 d1; rw [(e.s2 s d s0 s1 d0 d1).2]; exact h.f.ln s d s0 s1 d0 d1
  · intro s d s0 s1 d0 d1; rw [e.s3 s d s0 s1 d0 d1]; exact h.f.ot s d s0 s1 d0 d1
  · intro s s0 s1; rw [(e.s1 s s0 s1).2.2.2.2]; exact h.f.dm s s0 s1
  · intro s d s0 s1 d0 d1; rw [(e.s4 s d s0 s1 d0 d1).1]; exact h.f.db s d s0 s1 d0 d1
  · intro s d s0 s1 d0 d1; rw [(e.s4 s d s0 s1 d0 d1).2]; exact h.f.dw s d s0 s1 d0 d1
  · intro w w0 w1; rw [e.w w _ w0 w1 (by omega) (by omega)]; exact h.f.w0 w w0 w1
  · intro w w0 w1; rw [e.w w _ w0 w1 (by omega) (by omega)]; exact h.f.w1 w w0 w1
  · intro w w0 w1; rw [e.w w _ w0 w1 (by omega) (by omega)]; exact h.f.w2 w w0 w1
  · intro w w0 w1; rw [e.w w _ w0 w1 (by omega) (by omega)]; exact h.f.w3 w w0 w1
  · intro w w0 w1; rw [e.w w _ w0 w1 (by omega) (by omega)]; exact h.f.w4 w w0 w1
  · intro w w0 w1; rw [e.w w _ w0 w1 (by omega) (by omega)]; exact h.f.w6 w w0 w1
  · intro w w0 w1; rw [e.w w _ w0 w1 (by omega) (by omega)]; exact h.f.wn w w0 w1
  · intro w w0 w1; rw [e.w w _ w0 w1 (by omega) (by omega)]; exact h.f.w7 w w0 w1
  · intro c c0 c1; rw [(e.c1 c c0 c1).1]; exact h.f.k0 c c0 c1
  · intro c c0 c1; rw [(e.c1 c c0 c1).2.1]; exact h.f.k1 c c0 c1
  · intro c c0 c1; rw [(e.c1 c c0 c1).2.2.2.1]; exact h.f.k2 c c0 c1
  · intro c c0 c1; rw [(e.c1 c c0 c1).2.2.2.2]; exact h.f.k3 c c0 c1
  · intro c j c0 c1 j0 j1; rw [e.c2 c j c0 c1 j0 j1]; exact h.f.kr c j c0 c1 j0 j1
  · intro c c0 c1; rw [(e.c1 c c0 c1).2.2.1]; exact h.t c c0 c1
def y_sh (o : Int) (M : Int → Int → Int) : Int → Int → Int := fun a j => M (a + (o - 1)) j
def y_sA (k : Int) (M : Int → Int → Int) : Int → Int → Int := fun a j => M a (j + (1640 + 1640 * k))
theorem E_C3 {o u : Int} {M M0 : Int → Int → Int} (h : x_C3 o u 3 M M0) : y_E (y_sh o M) (y_sh u M0) := by
  have e1 := h.1.1.2.2.1
  have es := h.1.1.2.2.2
  have ew := h.1.2
  have ec := h.2
  refine ⟨?_, fun s s0 s1 => ?_, fun s d s0 s1 d0 d1 => ?_, fun s d s0 s1 d0 d1 => ?_, fun s d s0 s1 d0 d1 => ?_, fun w j w0 w1 j0 j1 => ?_, fun c c0 c1 => ?_, fun c j c0 c1 j0 j1 => ?_⟩
  · unfold y_sh
    rw [show 1 + (o - 1) = o by omega, show 1 + (u - 1) = u by omega]; exact e1
  · have q := es s ⟨s0, s1⟩
    unfold y_sh
    rw [show 3 + 7 * s + (o - 1) = 2 + 7 * s + o by omega, show 3 + 7 * s + (u - 1) = 2 + 7 * s + u by omega, show 7 + 7 * s + (o - 1) = 6 + 7 * s + o by omega, show 7 + 7 * s + (u - 1) = 6 + 7 * s + u by omega]
    exact ⟨q.1.1, q.1.2.1, q.1.2.2.1, q.1.2.2.2, q.2.2.2.2.1⟩
  · have q := es s ⟨s0, s1⟩
    unfold y_sh
    rw [show 4 + 7 * s + (o - 1) = 3 + 7 * s + o by omega, show 4 + 7 * s + (u - 1) = 3 + 7 * s + u by omega, show 5 + 7 * s + (o - 1) = 4 + 7 * s + o by omega, show 5 + 7 * s + (u - 1) = 4 + 7 * s + u by omega]
    exact ⟨q.2.1 d ⟨d0, d1⟩, q.2.2.1 d ⟨d0, d1⟩⟩
  · have q := es s ⟨s0, s1⟩
    unfold y_sh
    rw [show 6 + 7 * s + (o - 1) = 5 + 7 * s + o by omega, show 6 + 7 * s + (u - 1) = 5 + 7 * s + u by omega]
    exact q.2.2.2.1 d ⟨d0, d1⟩
  · have q := es s ⟨s0, s1⟩
    unfold y_sh
    rw [show 8 + 7 * s + (o - 1) = 7 + 7 * s + o by omega, show 8 + 7 * s + (u - 1) = 7 + 7 * s + u by omega, show 9 + 7 * s + (o - 1) = 8 + 7 * s + o by omega, show 9 + 7 * s + (u - 1) = 8 + 7 * s + u by omega]
    exact ⟨q.2.2.2.2.2.1 d ⟨d0, d1⟩, q.2.2.2.2.2.2 d ⟨d0, d1⟩⟩
  · unfold y_sh
    rw [show 88 + w + (o - 1) = 87 + w + o by omega, show 88 + w + (u - 1) = 87 + w + u by omega]
    exact ew w ⟨w0, w1⟩ j ⟨j0, j1⟩
  · unfold y_sh
    rw [show 149 + 2 * c + (o - 1) = 148 + 2 * c + o by omega, show 149 + 2 * c + (u - 1) = 148 + 2 * c + u by omega]
    exact (ec c ⟨c0, c1⟩).1
  · unfold y_sh
    rw [show 150 + 2 * c + (o - 1) = 149 + 2 * c + o by omega, show 150 + 2 * c + (u - 1) = 149 + 2 * c + u by omega]
    exact (ec c ⟨c0, c1⟩).2 j ⟨j0, j1⟩
theorem sh_1 {M : Int → Int → Int} : y_sh 1 M = M := by
  funext a j; unfold y_sh; rw [show a + (1 - 1) = a by omega]
def y_JF (B z : Int) (P M : Int → Int → Int) : Prop := y_J z P M ∧ y_B M M ∧ y_R M M ∧ y_g B M ∧ ∀ k, 0 ≤ k → k < 4 → P 155 k ≠ -1 → y_B (y_sh (P 155 k) M) (y_sA k M) ∧ y_g B (y_sA k M)
theorem jf_o {B z : Int} {P M : Int → Int → Int} (h : y_JF B z P M) {k : Int} (h0 : 0 ≤ k) (h4 : k < 4) (ne : P 155 k ≠ -1) : 170 ≤ P 155 k := by
  rcases h.1.2.1.2.1 k h0 h4 with q | ⟨_, _, j, hj, e, _⟩
  · exact absurd q ne
  · omega
theorem g_mono {B B2 : Int} {A : Int → Int → Int} (h : y_g B A) (q : B ≤ B2) : y_g B2 A := fun c c0 c1 => by have := h c c0 c1; omega
/-- after a call of the class: its own row against the model's -/
theorem jf_1 {B z : Int} {P M M1 : Int → Int → Int} (h : y_JF B z P M) (t1 : ∀ a k, 162 ≤ a → M1 a k = M a k) : y_B M M1 ∧ y_R M M1 ∧ y_g B M1 := by
  refine ⟨B_cong h.2.1 (fun _ _ _ _ => rfl) (fun k _ _ => t1 163 k (by omega)), R_cong h.2.2.1 rfl (fun _ => rfl) (t1 _ _ (by omega)) (fun k => t1 _ _ (by omega)), fun c c0 c1 => ?_⟩
  rw [t1 _ _ (by omega)]; exact h.2.2.2.1 c c0 c1
theorem jf_gen {B z : Int} {P M M1 M2 : Int → Int → Int} (h : y_JF B z P M) (J2 : y_J z P M2) (t1 : ∀ a k, 162 ≤ a → M1 a k = M a k) (t2 : ∀ a k, (a < 162 ∨ 170 ≤ a ∨ (a = 163 ∧ 1640 ≤ k)) → M2 a k = M1 a k) (hb : y_B M1 M2) (hr : y_R M1 M2) (hg : y_g (B + 6993) M2) : y_JF (B + 6993) z P M2 := by
  refine ⟨J2, B_cong hb (fun a k _ q => t2 a k (by omega)) (fun _ _ _ => rfl), R_cong hr (t2 _ _ (by omega)) (fun k => t2 _ _ (by omega)) rfl (fun _ => rfl), hg, fun k h0 h4 ne => ?_⟩
  have o := jf_o h h0 h4 ne
  have I := h.2.2.2.2 k h0 h4 ne
  refine ⟨B_cong I.1 (fun a j q1 q2 => ?_) (fun j j0 j1 => ?_), fun c c0 c1 => ?_⟩
  · unfold y_sh; rw [t2 _ _ (by omega), t1 _ _ (by omega)]
  · unfold y_sA; rw [t2 _ _ (by omega), t1 _ _ (by omega)]
  · have := g_mono I.2 (show B ≤ B + 6993 by omega) c c0 c1
    unfold y_sA at this ⊢
    rw [t2 _ _ (by omega), t1 _ _ (by omega)]; exact this
theorem R_Q {C A C2 A2 : Int → Int → Int} (r : y_R C A) (qc : y_Qc C C2) (qm : y_Qm A A2) : y_R C2 A2 := R_cong r (qc _ _ (by omega)) (fun k => qc _ _ (by omega)) (qm.r _ _ (by omega) (fun _ => rfl)) (fun k => qm.r _ _ (by omega) (fun q => by omega))
theorem g_Q {A A2 : Int → Int → Int} {B : Int} (g : y_g B A) (qm : y_Qm A A2) : y_g (B + 6993) A2 := fun c c0 c1 => by rw [qm.g c c0 c1]; have := g c c0 c1; omega
theorem Qc_rf {C : Int → Int → Int} : y_Qc C C := fun _ _ _ => rfl
theorem JF_image {B a z z2 : Int} {P M P2 M2 : Int → Int → Int} (h : y_JF B z P M) (h1 : y_IP a z P M z2 P2 M2) (tn : y_TL 3 M2 (u_n_image a M2)) (J2 : y_J z2 P2 (u_n_image a M2)) : y_JF (B + 6993) z2 P2 (u_n_image a M2) := by
  obtain ⟨i1, i2, i3, i4, i5, i6, i7⟩ := h1
  by_cases ha : 0 ≤ a ∧ a < 4
  · obtain ⟨ne, M3, hC, f3⟩ := i6 ha
    have gm : ∀ b j, b < 170 → b ≠ 164 → (u_n_image a M2) b j = if b = 163 ∧ 1640 + 1640 * a ≤ j ∧ j < 3280 + 1640 * a then M 163 (j - 1640 - 1640 * a) else M b j := fun b j hb hb2 => by
      unfold u_n_image
      rw [if_pos ha, f_img ha.1 _ _ _ (by omega) (by omega)]
      by_cases q : b = 163 ∧ 1640 + 1640 * a ≤ j ∧ j < 3280 + 1640 * a
      · rw [if_pos ⟨q.1, by omega, q.2.2⟩, if_pos q, x_up_ne (by omega), i4 _ _ (by omega)]
      · rw [if_neg (by omega), if_neg q, x_up_ne (by omega), i4 _ _ (by omega)]
    have gi : ∀ c k, 170 ≤ c → (u_n_image a M2) c k = M2 c k := fun c k q => tn.2 c k (Or.inr q)
    refine ⟨J2, B_cong h.2.1 (fun b k _ q => by rw [gm _ _ (by omega) (by omega), if_neg (by omega)]) (fun k _ _ => by rw [gm _ _ (by omega) (by omega), if_neg (by omega)]), R_cong h.2.2.1 (by rw [gm _ _ (by omega) (by omega), if_neg (by omega)]) (fun k => by rw [gm _ _ (by omega) (by omega), if_neg (by omega)]) (by rw [gm _ _ (by omega) (by omega), if_neg (by omega)]) (fun k => by rw [gm _ _ (by omega) (by omega), if_neg (by omega)]), fun c c0 c1 => ?_, fun k h0 h4 nk => ?_⟩
    · rw [gm _ _ (by omega) (by omega), if_neg (by omega)]; have := h.2.2.2.1 c c0 c1; omega
    · rcases i2.2.1 k h0 h4 with q | ⟨_, _, j0, hj0, ej0, _⟩
      · exact absurd q nk
      by_cases hk : k = a
      · subst hk
        have E := E_C3 hC
        rw [sh_1] at E
        have B1 : y_B M3 M := B_cong h.2.1 (fun b k _ q => f3 b k (by omega)) (fun _ _ _ => rfl)
        refine ⟨B_E (C := M3) (A := M) B1 ⟨?_, ?_, ?_, ?_, ?_, ?_, ?_, ?_⟩ (fun j g0 g1 => ?_), fun c c0 c1 => ?_⟩
        · have := E.t; unfold y_sh at this ⊢; simp only [gi _ _ (show 170 ≤ 1 + (P2 155 k - 1) by omega)]; exact this
        · intro s s0 s1; have := E.s1 s s0 s1; unfold y_sh at this ⊢; simp only [gi _ _ (show 170 ≤ 3 + 7 * s + (P2 155 k - 1) by omega), gi _ _ (show 170 ≤ 7 + 7 * s + (P2 155 k - 1) by omega)]; exact this
        · intro s d s0 s1 d0 d1; have := E.s2 s d s0 s1 d0 d1; unfold y_sh at this ⊢; simp only [gi _ _ (show 170 ≤ 4 + 7 * s + (P2 155 k - 1) by omega), gi _ _ (show 170 ≤ 5 + 7 * s + (P2 155 k - 1) by omega)]; exact this
        · intro s d s0 s1 d0 d1; have := E.s3 s d s0 s1 d0 d1; unfold y_sh at this ⊢; simp only [gi _ _ (show 170 ≤ 6 + 7 * s + (P2 155 k - 1) by omega)]; exact this
        · intro s d s0 s1 d0 d1; have := E.s4 s d s0 s1 d0 d1; unfold y_sh at this ⊢; simp only [gi _ _ (show 170 ≤ 8 + 7 * s + (P2 155 k - 1) by omega), gi _ _ (show 170 ≤ 9 + 7 * s + (P2 155 k - 1) by omega)]; exact this
        · intro w j w0 w1 j0 j1; have := E.w w j w0 w1 j0 j1; unfold y_sh at this ⊢; simp only [gi _ _ (show 170 ≤ 88 + w + (P2 155 k - 1) by omega)]; exact this
        · intro c c0 c1; have := E.c1 c c0 c1; unfold y_sh at this ⊢; simp only [gi _ _ (show 170 ≤ 149 + 2 * c + (P2 155 k - 1) by omega)]; exact this
        · intro c j c0 c1 j0 j1; have := E.c2 c j c0 c1 j0 j1; unfold y_sh at this ⊢; simp only [gi _ _ (show 170 ≤ 150 + 2 * c + (P2 155 k - 1) by omega)]; exact this
        · unfold y_sA; rw [gm _ _ (by omega) (by omega), if_pos ⟨rfl, by omega, by omega⟩, show j + (1640 + 1640 * k) - 1640 - 1640 * k = j by omega]
        · have := h.2.2.2.1 c c0 c1
          unfold y_sA; rw [gm _ _ (by omega) (by omega), if_pos ⟨rfl, by omega, by omega⟩, show 1596 + 12 * c + (1640 + 1640 * k) - 1640 - 1640 * k = 1596 + 12 * c by omega]; omega
      · obtain ⟨p1, p2⟩ := i5 k h0 h4 hk
        rw [p1] at nk ⊢
        have o := jf_o h h0 h4 nk
        have I := h.2.2.2.2 k h0 h4 nk
        have p2 := p2 nk
        refine ⟨B_cong I.1 (fun b j q1 q2 => ?_) (fun j j0 j1 => ?_), fun c c0 c1 => ?_⟩
        · unfold y_sh; rw [gi _ _ (by omega), show b + (P 155 k - 1) = P 155 k + (b - 1) by omega, p2 _ _ (by omega) (by omega)]
        · unfold y_sA; rw [gm _ _ (by omega) (by omega), if_neg (by omega)]
        · have := I.2 c c0 c1
          unfold y_sA at this ⊢; rw [gm _ _ (by omega) (by omega), if_neg (by omega)]; omega
  · obtain ⟨rfl, rfl⟩ := i7 ha
    have e : u_n_image a M2 = M2 := by unfold u_n_image; rw [if_neg ha]
    rw [e] at J2 ⊢
    exact ⟨J2, h.2.1, h.2.2.1, g_mono h.2.2.2.1 (by omega), fun k h0 h4 nk => ⟨(h.2.2.2.2 k h0 h4 nk).1, g_mono (h.2.2.2.2 k h0 h4 nk).2 (by omega)⟩⟩
theorem JF_again {B a z : Int} {P M M2 : Int → Int → Int} (h : y_JF B z P M) (h1 : y_TL 2 M M2) (hC : (0 ≤ a ∧ a < 4) ∧ P 155 a ≠ -1 → x_C3 1 (P 155 a) 3 M2 M) (hN : ¬ ((0 ≤ a ∧ a < 4) ∧ P 155 a ≠ -1) → M2 = M) (J2 : y_J z P (u_n_again a M2)) : y_JF (B + 6993) z P (u_n_again a M2) := by
  by_cases ha : (0 ≤ a ∧ a < 4) ∧ P 155 a ≠ -1
  · have hC := hC ha
    have k1 := h.1.2.2.2.2 a ha.1.1 ha.1.2
    rw [if_neg ha.2] at k1
    have e4 : M2 164 a = 1 := (h1.2 164 a (Or.inr (by omega))).trans k1.1
    have o := jf_o h ha.1.1 ha.1.2 ha.2
    have I := h.2.2.2.2 a ha.1.1 ha.1.2 ha.2
    have gm : ∀ j, (u_n_again a M2) 163 j = if 0 ≤ j ∧ j < 1640 then M 163 (1640 + 1640 * a + j) else M 163 j := fun j => by
      unfold u_n_again
      rw [if_pos ha.1, if_pos (by omega), f_aga ha.1.1 _ _ _ (by omega) (by omega)]
      by_cases q : 0 ≤ j ∧ j < 1640
      · rw [if_pos ⟨rfl, q⟩, if_pos q, h1.2 163 _ (Or.inr (by omega))]
      · rw [if_neg (by omega), if_neg q, h1.2 163 _ (Or.inr (by omega))]
    have gh : ∀ c k, c ≠ 163 → (u_n_again a M2) c k = M2 c k := fun c k q => by
      unfold u_n_again
      rw [if_pos ha.1, if_pos (by omega), f_aga ha.1.1 _ _ _ (by omega) (by omega), if_neg (by omega)]
    have hi : ∀ c k, 162 ≤ c → c ≠ 163 → (u_n_again a M2) c k = M c k := fun c k q q2 => (gh c k q2).trans (h1.2 c k (Or.inr (by omega)))
    have ho : ∀ b j, 155 ≤ b → M2 b j = M b j := fun b j q => hC.1.1.1 b j (Or.inr (by omega))
    have E := E_C3 hC
    rw [sh_1] at E
    have B1 : y_B M2 (y_sA a M) := B_E I.1 E (fun _ _ _ => rfl)
    refine ⟨J2, B_cong B1 (fun b k _ q => gh b k (by omega)) (fun k k0 k1 => by rw [gm, if_pos ⟨k0, k1⟩]; unfold y_sA; rw [show 1640 + 1640 * a + k = k + (1640 + 1640 * a) by omega]), R_cong h.2.2.1 (by rw [gh _ _ (by omega)]; exact ho _ _ (by omega)) (fun k => by rw [gh _ _ (by omega)]; exact ho _ _ (by omega)) (hi _ _ (by omega) (by omega)) (fun k => hi _ _ (by omega) (by omega)), fun c c0 c1 => ?_, fun k h0 h4 nk => ?_⟩
    · have := I.2 c c0 c1
      unfold y_sA at this
      rw [gm, if_pos (by omega), show 1640 + 1640 * a + (1596 + 12 * c) = 1596 + 12 * c + (1640 + 1640 * a) by omega]; omega
    · have o := jf_o h h0 h4 nk
      have I := h.2.2.2.2 k h0 h4 nk
      refine ⟨B_cong I.1 (fun b j q1 q2 => ?_) (fun j j0 j1 => ?_), fun c c0 c1 => ?_⟩
      · unfold y_sh; exact hi _ _ (by omega) (by omega)
      · unfold y_sA; rw [gm, if_neg (by omega)]
      · have := I.2 c c0 c1
        unfold y_sA at this ⊢; rw [gm, if_neg (by omega)]; omega
  · have e := hN ha
    subst e
    have e2 : u_n_again a M2 = M2 := by
      unfold u_n_again
      by_cases q : 0 ≤ a ∧ a < 4
      · have k1 := (h.1.2.2.2.2 a q.1 q.2).1
        rw [if_pos (by omega)] at k1
        rw [if_pos q, if_neg (by omega)]
      · rw [if_neg q]
    rw [e2] at J2 ⊢
    exact ⟨J2, h.2.1, h.2.2.1, g_mono h.2.2.2.1 (by omega), fun k h0 h4 nk => ⟨(h.2.2.2.2 k h0 h4 nk).1, g_mono (h.2.2.2.2 k h0 h4 nk).2 (by omega)⟩⟩
theorem JF_0 {P M : Int → Int → Int} (J : y_J 170 P M) (hI : ∀ k, P 155 k = -1) (hZ : ∀ a k, 1 ≤ a → a < 162 → M a k = 0 ∨ y_zk a k) (h162 : ∀ k, M 162 k = 0) (hA : ∀ i, M 163 i = a_F 144 i) : y_JF 0 170 P M := by
  have nk : ∀ a k, k ≠ 0 → 1 ≤ a → a < 162 → M a k = 0 := fun a k hk h1 h2 => (hZ a k h1 h2).resolve_right (fun q => hk q.1)
  have kd : ∀ a k, 1 ≤ a → a < 162 → (x_kd a = 8 ∨ x_kd a = 1) → M a k = 0 := fun a k h1 h2 h3 => (hZ a k h1 h2).resolve_right (fun q => by rcases q.2 with q | q | q <;> rcases h3 with h | h <;> rw [h] at q <;> omega)
  have a0 : ∀ i, (i < 970 ∨ 1114 ≤ i) → M 163 i = 0 := fun i q => by rw [hA]; unfold a_F; rw [if_neg (by omega)]
  have aL : ∀ s t, 0 ≤ s → s < 12 → 0 ≤ t → t < 12 → M 163 (970 + 12 * s + t) = if s = t then 0 else 999 := fun s t s0 s1 t0 t1 => by
    rw [hA]; unfold a_F
    by_cases q : s = t
    · rw [if_pos q, if_neg (by omega)]
    · rw [if_neg q, if_pos (by omega)]
  have z1 := a0 0 (by omega)
  have z2 := a0 1 (by omega)
  have z3 := a0 2 (by omega)
  have z4 := a0 3 (by omega)
  refine ⟨J, ⟨⟨⟨?_, ?_, ?_, ?_, ?_, ?_, ?_, ?_, ?_, ?_, ?_, ?_, ?_, ?_⟩, ⟨?_, ?_, ?_, ?_, ?_, ?_, ?_, ?_⟩, ⟨?_, ?_, ?_, ?_, ?_⟩⟩, ⟨⟨?_, ?_, ?_, ?_, ?_, ?_, ?_, ?_, ?_, ?_, ?_, ?_, ?_⟩, ⟨?_, ?_, ?_, ?_, ?_, ?_, ?_, ?_⟩, ⟨?_, ?_, ?_, ?_⟩⟩, ?_⟩, ⟨?_, ?_, ?_⟩, ?_, fun k _ _ h => absurd (hI k) h⟩
  · rw [z1]; exact nk _ _ (by omega) (by omega) (by omega)
  · rw [z2]; exact nk _ _ (by omega) (by omega) (by omega)
  · rw [z3]; exact nk _ _ (by omega) (by omega) (by omega)
  · rw [z4]; exact nk _ _ (by omega) (by omega) (by omega)
  · intro s s0 s1; rw [a0 _ (by omega)]; exact nk _ _ (by omega) (by omega) (by omega)
  · intro s s0 s1; rw [a0 _ (by omega)]; exact nk _ _ (by omega) (by omega) (by omega)
  · intro s s0 s1; rw [a0 _ (by omega)]; exact nk _ _ (by omega) (by omega) (by omega)
  · intro s s0 s1; rw [a0 _ (by omega)]; exact nk _ _ (by omega) (by omega) (by omega)
  · intro s d s0 s1 d0 d1 d2; rw [a0 _ (by omega)] at d2; omega
  · intro s d s0 s1 d0 d1 d2; omega
  · intro s d s0 s1 d0 d1; rw [a0 _ (by omega)]; exact kd _ _ (by omega) (by omega) (Or.inl (kd_main (tk_oth ⟨s0, s1⟩) (by omega) (by omega)))
  · intro s s0 s1; rw [a0 _ (by omega)]; exact kd _ _ (by omega) (by omega) (Or.inr (kd_main (tk_dem ⟨s0, s1⟩) (by omega) (by omega)))
  · intro s d s0 s1 d0 d1; rw [a0 _ (by omega), if_pos rfl]; exact kd _ _ (by omega) (by omega) (Or.inl (kd_main (tk_br ⟨s0, s1⟩) (by omega) (by omega)))
  · intro s d s0 s1 d0 d1; rw [a0 _ (by omega), if_pos rfl]; exact kd _ _ (by omega) (by omega) (Or.inl (kd_main (tk_wa ⟨s0, s1⟩) (by omega) (by omega)))
  · intro w w0 w1; rw [a0 _ (by omega)]; exact nk _ _ (by omega) (by omega) (by omega)
  · intro w w0 w1; rw [a0 _ (by omega)]; exact nk _ _ (by omega) (by omega) (by omega)
  · intro w w0 w1; rw [a0 _ (by omega)]; exact nk _ _ (by omega) (by omega) (by omega)
  · intro w w0 w1; rw [a0 _ (by omega), a0 _ (by omega), if_neg (by omega)]; exact nk _ _ (by omega) (by omega) (by omega)
  · intro w w0 w1; rw [a0 _ (by omega), a0 _ (by omega), if_neg (by omega), a0 _ (by omega)]; exact nk _ _ (by omega) (by omega) (by omega)
  · intro w w0 w1; rw [a0 _ (by omega), if_neg (by omega)]; exact nk _ _ (by omega) (by omega) (by omega)
  · intro w w0 w1; rw [a0 _ (by omega), if_neg (by omega)]; exact nk _ _ (by omega) (by omega) (by omega)
  · intro w w0 w1; rw [a0 _ (by omega)]; exact nk _ _ (by omega) (by omega) (by omega)
  · intro c c0 c1; rw [a0 _ (by omega)]; exact nk _ _ (by omega) (by omega) (by omega)
  · intro c c0 c1; rw [a0 _ (by omega)]; exact nk _ _ (by omega) (by omega) (by omega)
  · intro c c0 c1; rw [a0 _ (by omega)]; exact nk _ _ (by omega) (by omega) (by omega)
  · intro c c0 c1; rw [a0 _ (by omega)]; exact nk _ _ (by omega) (by omega) (by omega)
  · intro c j c0 c1 j0 j1; rw [a0 _ (by omega)]; exact kd _ _ (by omega) (by omega) (Or.inl (kd_main (tk_row ⟨c0, c1⟩) (by omega) (by omega)))
  · omega
  · omega
  · omega
  · omega
  · intro s s0 s1 s2; omega
  · intro s s0 s1 s2; rw [a0 _ (by omega), a0 _ (by omega)]; exact ⟨rfl, rfl⟩
  · intro s t s0 s1 t0 t1 _; exact aL s t s0 s1 t0 t1
  · intro s t s0 s1 t0 t1; rw [aL s t s0 s1 t0 t1]; split <;> omega
  · intro s s0 s1 s2; omega
  · intro s k s0 s1 k0 k1 s2; omega
  · intro s s0 s1 s2; omega
  · intro s s0 s1; rw [a0 _ (by omega)]; exact Or.inl rfl
  · intro s i s0 s1 i0 i1 q; rw [a0 _ (by omega)] at q; omega
  · intro s d s0 s1 d0 d1 s2; omega
  · intro s d w s0 s1 d0 d1 w0 w1 s2; omega
  · intro w w0 w1 w2; omega
  · intro w w0 w1 w2; omega
  · intro w w0 w1 w2; omega
  · intro w w0 w1 w2; omega
  · intro w w0 w1 w2; omega
  · intro w w0 w1; rw [a0 _ (by omega)]; omega
  · intro c c0 c1 c2; omega
  · intro c c0 c1; rw [a0 _ (by omega)]; omega
  · intro c k c0 c1 k0 k1 k2; rw [a0 _ (by omega)] at k2; omega
  · intro c k l c0 c1 k0 kl l8 l2; rw [a0 _ (by omega)] at l2; omega
  · intro c c0 c1
    have s0 : ∀ k, 0 ≤ k → y_s1 M c k = 0 := fun k k0 => by unfold y_s1; rw [if_neg (by rw [a0 _ (by omega)]; omega)]
    refine ⟨?_, fun q => by omega⟩
    unfold y_tk
    rw [s0 0 (by omega), s0 1 (by omega), s0 2 (by omega), s0 3 (by omega), s0 4 (by omega), s0 5 (by omega), s0 6 (by omega), s0 7 (by omega)]
    rw [nk _ _ (by omega) (by omega) (by omega)]; rfl
  · rw [h162]; exact nk _ _ (by omega) (by omega) (by omega)
  · rw [h162]; omega
  · intro k k0 k1; rw [h162] at k1; omega
  · intro c c0 c1; rw [a0 _ (by omega)]; omega
