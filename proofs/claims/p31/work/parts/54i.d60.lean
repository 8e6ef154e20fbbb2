/-! CARRY -/
def y_V (a s : Int) (A A2 : Int → Int → Int) : Prop := (∀ b x, b ≠ 163 → A2 b x = A b x) ∧ (∀ x, (x < 11 ∨ (13 ≤ (x - 10) % 80 ∧ x < 970) ∨ ((x - 10) % 80 = 0 ∧ x < 970) ∨ (970 ≤ x ∧ x < 1114) ∨ (1594 ≤ x ∧ (x - 1594) % 12 < 3)) → ¬ (x = 1595 + 12 * a ∨ x = 1596 + 12 * a) → A2 163 x = A 163 x) ∧ (A2 163 (1595 + 12 * a) = A 163 (1595 + 12 * a) ∧ A2 163 (1596 + 12 * a) = A 163 (1596 + 12 * a)) ∧ (∀ t, t ≠ s → v_m_cntW t 0 1 A2 = v_m_cntW t 0 1 A)
theorem y_V.o {a s : Int} {A A2 : Int → Int → Int} (h : y_V a s A A2) : ∀ b x, b ≠ 163 → A2 b x = A b x := h.1
theorem y_V.f {a s : Int} {A A2 : Int → Int → Int} (h : y_V a s A A2) : ∀ x, (x < 11 ∨ (13 ≤ (x - 10) % 80 ∧ x < 970) ∨ ((x - 10) % 80 = 0 ∧ x < 970) ∨ (970 ≤ x ∧ x < 1114) ∨ (1594 ≤ x ∧ (x - 1594) % 12 < 3)) → ¬ (x = 1595 + 12 * a ∨ x = 1596 + 12 * a) → A2 163 x = A 163 x := h.2.1
theorem y_V.g {a s : Int} {A A2 : Int → Int → Int} (h : y_V a s A A2) : A2 163 (1595 + 12 * a) = A 163 (1595 + 12 * a) ∧ A2 163 (1596 + 12 * a) = A 163 (1596 + 12 * a) := h.2.2.1
theorem y_V.w {a s : Int} {A A2 : Int → Int → Int} (h : y_V a s A A2) : ∀ t, t ≠ s → v_m_cntW t 0 1 A2 = v_m_cntW t 0 1 A := h.2.2.2
theorem V_rf {a s : Int} {A : Int → Int → Int} : y_V a s A A := ⟨fun b x _ => rfl, fun x _ _ => rfl, ⟨rfl, rfl⟩, fun t _ => rfl⟩
theorem V_tr {a s : Int} {A A2 A3 : Int → Int → Int} (h : y_V a s A A2) (g : y_V a s A2 A3) : y_V a s A A3 := ⟨fun b x q => (g.o b x q).trans (h.o b x q), fun x q q2 => (g.f x q q2).trans (h.f x q q2), ⟨g.g.1.trans h.g.1, g.g.2.trans h.g.2⟩, fun t q => (g.w t q).trans (h.w t q)⟩
theorem cntW_mv {A A2 : Int → Int → Int} {t w : Int} (hW : A 163 1 ≤ 60) (e1 : A2 163 1 = A 163 1) (e : ∀ x, 0 ≤ x → x < A 163 1 → x ≠ w → A2 163 (1114 + 8 * x) = A 163 (1114 + 8 * x) ∧ A2 163 (1116 + 8 * x) = A 163 (1116 + 8 * x) ∧ A2 163 (1117 + 8 * x) = A 163 (1117 + 8 * x)) (h1 : ¬ (A 163 (1116 + 8 * w) = 0 ∧ A 163 (1117 + 8 * w) = t)) (h2 : ¬ (A2 163 (1116 + 8 * w) = 0 ∧ A2 163 (1117 + 8 * w) = t)) : v_m_cntW t 0 1 A2 = v_m_cntW t 0 1 A := by
  unfold v_m_cntW
  have P : ∀ (k : Nat) (n d : Int), 0 ≤ d → l_m_cntW_a t 0 1 A2 k n d = l_m_cntW_a t 0 1 A k n d := by
    intro k
    induction k with
    | zero => intro n d z; rfl
    | succ k ih =>
      intro n d z
      rw [l_m_cntW_a, l_m_cntW_a, e1]
      by_cases q : A 163 1 ≤ d
      · rw [if_pos q, if_pos q]
      · rw [if_neg q, if_neg q, if_neg (show ¬ (1 : Int) = 0 by omega), if_neg (show ¬ (1 : Int) = 0 by omega)]
        by_cases dw : d = w
        · subst dw
          rw [ih _ _ (by omega), ih _ _ (by omega)]
          have s1 : ∀ (a b c : Int × Int) (M : Int → Int → Int), ¬ (M 163 (1116 + 8 * d) = 0 ∧ M 163 (1117 + 8 * d) = t) → (if ¬ M 163 (1116 + 8 * d) = 0 then a else if ¬ M 163 (1117 + 8 * d) = t then a else if M 163 (1114 + 8 * d) = 2 then b else c) = a := fun a b c M hM => by
            by_cases z1 : M 163 (1116 + 8 * d) = 0
            · rw [if_neg (fun g => g z1), if_pos (fun g => hM ⟨z1, g⟩)]
            · rw [if_pos z1]
          rw [s1 _ _ _ A2 h2, s1 _ _ _ A h1]
        · have g := e d z (by omega) dw
          rw [g.1, g.2.1, g.2.2, ih _ _ (by omega), ih _ _ (by omega)]
  rw [P _ _ _ (by omega)]
theorem V_pick {C A : Int → Int → Int} (h : y_B C A) {a d : Int} (ha : 0 ≤ a ∧ a < A 163 2) : y_V a (A 163 (1595 + 12 * a)) A (u_n_pick a d A) := by
  have hn := h.i.n
  have hN := h.i.nc
  have hW := h.i.nw
  have kl := h.i.kl a ha.1 (by omega) ha.2
  have kk := h.i.kk a ha.1 (by omega)
  unfold u_n_pick
  rw [if_pos ha]
  by_cases q : (0 ≤ (A 163 (1595 + 12 * a)) ∧ (A 163 (1595 + 12 * a)) < A 163 0) ∧ 0 ≤ d ∧ d < A 163 (10 + 80 * (A 163 (1595 + 12 * a)))
  · rw [if_pos q]
    by_cases q2 : A 163 (11 + 80 * A 163 (1595 + 12 * a) + d) < 0
    · rw [if_pos q2]; exact V_rf
    · rw [if_neg q2]
      by_cases al : ¬ v_m_allows a (A 163 (11 + 80 * A 163 (1595 + 12 * a) + d)) A = 0
      · rw [if_pos al]
        have n7 : A 163 (1597 + 12 * a) < 8 := by
          have p1 := (P_allows (A := A) (c := a) (w := A 163 (11 + 80 * A 163 (1595 + 12 * a) + d)) ⟨kk.1, kk.2.1⟩).1 al
          have p2 := tk_cnt (A := A) (c := a) ⟨kk.1, kk.2.1⟩
          have p3 := y_sz_in (A 163 (1114 + 8 * A 163 (11 + 80 * A 163 (1595 + 12 * a) + d)))
          omega
        have hD := h.i.dk _ kl.2.1 (by omega) kl.2.2
        have cr := h.i.cr (A 163 (1595 + 12 * a)) d kl.2.1 (by omega) q.2.1 (by omega) kl.2.2 q.2.2
        have cc := h.i.ct (A 163 (1595 + 12 * a)) d _ kl.2.1 (by omega) q.2.1 (by omega) (by omega) (by omega) kl.2.2 q.2.2 rfl
        generalize A 163 (11 + 80 * A 163 (1595 + 12 * a) + d) = w at *
        have hw : 0 ≤ w ∧ w < A 163 1 := ⟨by omega, cr.2⟩
        have pd := h.i.pd w hw.1 (by omega) hw.2 cc.1
        have z2 := pd.2.1.2
        have q9 : A 163 (1118 + 8 * w) < 12 ∧ (A 163 (1114 + 8 * w) = 2 → A 163 (1118 + 8 * w) < 11) := by split at z2 <;> omega
        have PL := fun c k => P_leaves (A := A) (w := w) c k
        have c0 : u_m_leaves w A 163 (1597 + 12 * a) = A 163 (1597 + 12 * a) := by rw [PL, if_neg (by omega)]
        have R : ∀ b x, ¬ (b = 163 ∧ ((11 ≤ x ∧ x < 970 ∧ 1 ≤ (x - 10) % 80 ∧ (x - 10) % 80 < 13) ∨ (1116 + 8 * w ≤ x ∧ x < 1119 + 8 * w) ∨ x = 1597 + 12 * a ∨ x = 1598 + 12 * a + A 163 (1597 + 12 * a))) → u_m_climbs a w (u_m_leaves w A) b x = A b x := fun b x g => by
          unfold u_m_climbs
          rw [c0, x_up_no (by omega), x_up_no (by omega), x_up_no (by omega), x_up_no (by omega), x_up_no (by omega), PL, if_neg (by omega)]
        refine ⟨fun b x g => R b x (by omega), fun x g g2 => R 163 x (by omega), ⟨R 163 _ (by omega), R 163 _ (by omega)⟩, fun t ht => ?_⟩
        refine cntW_mv (w := w) hW.2 (R 163 1 (by omega)) (fun x x0 x1 xw => ⟨R 163 _ (by omega), R 163 _ (by omega), R 163 _ (by omega)⟩) (by omega) ?_
        have e : u_m_climbs a w (u_m_leaves w A) 163 (1116 + 8 * w) = 1 := by
          unfold u_m_climbs
          rw [x_up_nk (by omega), x_up_nk (by omega), x_up_self]
        rw [e]; omega
      · rw [if_neg al]; exact V_rf
  · rw [if_neg q]; exact V_rf
theorem V_drop {C A : Int → Int → Int} (h : y_B C A) {a : Int} (ha : 0 ≤ a ∧ a < A 163 2) : y_V a (A 163 (1595 + 12 * a)) A (u_n_drop a A) := by
  have hn := h.i.n
  have hN := h.i.nc
  have hW := h.i.nw
  have kl := h.i.kl a ha.1 (by omega) ha.2
  have kk := h.i.kk a ha.1 (by omega)
  unfold u_n_drop
  rw [if_pos ha]
  by_cases z : A 163 (1597 + 12 * a) = 0
  · rw [if_neg (by omega)]; exact V_rf
  · rw [if_pos z]
    have kr := h.i.kr a 0 ha.1 (by omega) (by omega) (by omega) (by omega)
    rw [show 1598 + 12 * a + 0 = 1598 + 12 * a by omega] at kr
    have hD := h.i.dk _ kl.2.1 (show A 163 (1595 + 12 * a) < 12 by omega) kl.2.2
    have Q := A_room (A := A) (s := A 163 (1595 + 12 * a)) (kd := A 163 (1114 + 8 * A 163 (1598 + 12 * a))) ⟨by omega, hD.2⟩
    generalize hwr : A 163 (1598 + 12 * a) = w at *
    generalize v_m_room (A 163 (1114 + 8 * w)) (A 163 (1595 + 12 * a)) A = d at *
    rcases Q with q | q
    · rw [if_neg (by omega)]; exact V_rf
    · rw [if_pos q.1]
      have ys := y_sz_in (A 163 (1114 + 8 * w))
      have PA := fun k => P_dr (a := a) (w := w) (d := d) (A := A) kk.2.1 k
      have PO : ∀ (k : Nat) (M : Int → Int → Int) (i : Int) (b x : Int), b ≠ 163 → (l_n_drop_a a w d k M i).1 b x = M b x := by
        intro k
        induction k with
        | zero => intro M i b x hb; rfl
        | succ k ih =>
          intro M i b x hb
          rw [l_n_drop_a]
          split
          · rfl
          · rw [ih _ _ _ _ hb, x_up_ne hb]
      have PO2 : ∀ b x, b ≠ 163 → y_dr a w d A b x = A b x := fun b x hb => by unfold y_dr; rw [PO _ _ _ _ _ hb, x_up_ne hb]
      have e5 : (y_dr a w d A) 163 (1595 + 12 * a) = A 163 (1595 + 12 * a) := by rw [PA, if_neg (by omega), if_neg (by omega)]
      have ek : (y_dr a w d A) 163 (1114 + 8 * w) = A 163 (1114 + 8 * w) := by rw [PA, if_neg (by omega), if_neg (by omega)]
      have eq : (l_n_drop_a a w d 9 ((x_up A 163 (1597 + 12 * a) ((-1) + A 163 (1597 + 12 * a)))) 0).1 = y_dr a w d A := rfl
      rw [eq, e5]
      have PCo := fun c k => P_comes (A := y_dr a w d A) (w := w) (s := A 163 (1595 + 12 * a)) (d := d) c k
      rw [ek] at PCo
      have f1 : A 163 (1114 + 8 * w) = 2 → d < 11 := fun k2 => by have := q.2.1; have := ys.2.2.1 k2; omega
      have R : ∀ b x, ¬ (b = 163 ∧ ((11 ≤ x ∧ x < 970 ∧ 1 ≤ (x - 10) % 80 ∧ (x - 10) % 80 < 13) ∨ (1116 + 8 * w ≤ x ∧ x < 1120 + 8 * w) ∨ (1597 + 12 * a ≤ x ∧ x < 1606 + 12 * a))) → x_up (u_m_comes w (A 163 (1595 + 12 * a)) d (y_dr a w d A)) 163 (1119 + 8 * w) 0 b x = A b x := fun b x g => by
        rw [x_up_no (by omega), PCo, if_neg (by omega), if_neg (by omega), if_neg (by omega), if_neg (by omega)]
        by_cases hb : b = 163
        · subst hb
          rw [PA, if_neg (by omega), if_neg (by omega)]
        · exact PO2 b x hb
      refine ⟨fun b x g => R b x (by omega), fun x g g2 => R 163 x (by omega), ⟨R 163 _ (by omega), R 163 _ (by omega)⟩, fun t ht => ?_⟩
      refine cntW_mv (w := w) hW.2 (R 163 1 (by omega)) (fun x x0 x1 xw => ⟨R 163 _ (by omega), R 163 _ (by omega), R 163 _ (by omega)⟩) (by omega) ?_
      have e : x_up (u_m_comes w (A 163 (1595 + 12 * a)) d (y_dr a w d A)) 163 (1119 + 8 * w) 0 163 (1117 + 8 * w) = A 163 (1595 + 12 * a) := by
        rw [x_up_nk (by omega), PCo, if_neg (by omega), if_pos (by omega)]
      rw [e]; omega
theorem nd_fail {a : Int} {A : Int → Int → Int} (h : v_n_drop a A < 0) : u_n_drop a A = A := by
  unfold v_n_drop at h
  unfold u_n_drop
  split
  · rename_i q; rw [if_pos q] at h
    split
    · rename_i q; rw [if_pos q] at h
      split
      · rename_i q; rw [if_pos q] at h; omega
      · rfl
    · rfl
  · rfl
/-! the class -/
theorem take_eq {a d : Int} {M : Int → Int → Int} (h1 : 0 ≤ a ∧ a < M 1 5) (h2 : ((0 ≤ (M (149 + 2 * a) 2) ∧ (M (149 + 2 * a) 2) < M 1 1) ∧ 0 ≤ d ∧ d < M (3 + 7 * (M (149 + 2 * a) 2)) 1) ∧ 0 ≤ M (4 + 7 * (M (149 + 2 * a) 2)) d ∧ M (4 + 7 * (M (149 + 2 * a) 2)) d < M 1 3) : u_x_pick a d M = u_takeFromDock a (M (4 + 7 * (M (149 + 2 * a) 2)) d) M := by
  unfold u_x_pick u_takeFromDock
  rw [if_pos h1, if_pos h2]
  split <;> rfl
theorem gf_no {c w : Int} {M : Int → Int → Int} (h : v_giveFirst c w M = 0) : u_giveFirst c w M = M := by
  unfold v_giveFirst at h
  unfold u_giveFirst
  split
  · rename_i q; rw [if_pos q] at h
    split
    · rfl
    · rename_i q; rw [if_neg q] at h
      split
      · rename_i q; rw [if_pos q] at h; omega
      · rfl
  · rfl
theorem gf_yes {c w : Int} {M : Int → Int → Int} (h : v_giveFirst c w M ≠ 0) : u_giveFirst c w M (88 + w) 5 ≠ -1 := by
  unfold v_giveFirst at h
  unfold u_giveFirst
  split
  · rename_i q; rw [if_pos q] at h
    split
    · rename_i q; rw [if_pos q] at h; omega
    · rename_i q; rw [if_neg q] at h
      split
      · unfold u_putInDock u_moveTo; rw [x_up_self]; exact q
      · rename_i q; rw [if_neg q] at h; omega
  · rename_i q; rw [if_neg q] at h; omega
def y_gv (a : Int) (M : Int → Int → Int) : Int → Int → Int := if 0 ≤ (v_wheelOn a 0 M) ∧ (v_wheelOn a 0 M) < M 1 3 then u_giveFirst a (v_wheelOn a 0 M) M else M
theorem gv_drop {C A : Int → Int → Int} (h : y_B C A) {a : Int} (ha : 0 ≤ a ∧ a < A 163 2) : y_B (y_gv a C) (u_n_drop a A) ∧ (v_n_drop a A < 0 → y_gv a C = C) := by
  have hW := h.i.nw
  have O := O_drop h a
  have e : ∀ b k, ¬ (88 ≤ b ∧ b < 148 ∧ k = 6) → y_gv a C b k = u_x_drop a C b k := by
    intro b k q
    unfold y_gv u_x_drop
    rw [h.f.nc, if_pos ha]
    by_cases z : 0 ≤ (v_wheelOn a 0 C) ∧ (v_wheelOn a 0 C) < C 1 3
    · have z2 := z
      rw [h.f.nw] at z2
      rw [if_pos z, if_pos z]
      split
      · rw [x_up_no (by omega)]
      · rfl
    · rw [if_neg z, if_neg z]
  refine ⟨B_dbt O.2 e (fun k _ => rfl), fun g => ?_⟩
  have v := O.1
  unfold y_gv
  unfold v_x_drop at v
  rw [h.f.nc, if_pos ha] at v
  by_cases z : 0 ≤ (v_wheelOn a 0 C) ∧ (v_wheelOn a 0 C) < C 1 3
  · rw [if_pos z] at v ⊢
    by_cases y : v_giveFirst a (v_wheelOn a 0 C) C = 0
    · exact gf_no y
    · rw [if_pos y] at v
      have r := gf_yes y
      have nd : v_n_drop a A = -1 := by
        clear v O e r y z
        unfold v_n_drop at g ⊢
        rw [if_pos ha] at g ⊢
        by_cases q : ¬ A 163 (1597 + 12 * a) = 0
        · rw [if_pos q] at g ⊢
          by_cases q2 : 0 ≤ v_m_room (A 163 (1114 + 8 * A 163 (1598 + 12 * a))) (A 163 (1595 + 12 * a)) A
          · rw [if_pos q2] at g; omega
          · rw [if_neg q2]
        · rw [if_neg q]
      omega
  · rw [if_neg z]
theorem take_ne {C A : Int → Int → Int} (h : y_B C A) {a w : Int} (ha : 0 ≤ a ∧ a < A 163 2) (hw : 0 ≤ w ∧ w < A 163 1) (hp : A 163 (1116 + 8 * w) = 0) (b k : Int) (hb : 155 ≤ b) : u_takeFromDock a w C b k = C b k := by
  have hN := h.i.nc
  have hW := h.i.nw
  unfold u_takeFromDock u_takeOn
  split
  · split
    · rw [move_ne (by omega), x_up_ne (by omega), x_up_ne (by omega), x_up_ne (by omega)]
      exact e_clear h.f (X_of h.i) hw hp b k (by omega)
    · exact e_clear h.f (X_of h.i) hw hp b k (by omega)
  · rfl
theorem gv_ne {C A : Int → Int → Int} (h : y_B C A) {a : Int} (ha : 0 ≤ a ∧ a < A 163 2) (b k : Int) (hb : 155 ≤ b) : y_gv a C b k = C b k := by
  have hN := h.i.nc
  have hn := h.i.n
  have hW := h.i.nw
  have k1 := h.f.k1 a ha.1 (by omega)
  have kl := h.i.kl a ha.1 (by omega) ha.2
  have k3 := h.f.k3 a ha.1 (by omega)
  have kk := h.i.kk a ha.1 (by omega)
  unfold y_gv
  split
  · rename_i z
    rw [h.f.nw] at z
    unfold u_giveFirst
    split
    · split
      · rfl
      · split
        · rw [k1, put_ne (by omega) (by omega)]
          unfold u_letFirstGo
          rw [x_up_ne (by omega), x_up_ne (by omega), P_lfg _ _ _ (by omega) (by omega) ha.1, if_neg (by omega)]
        · rfl
    · rfl
  · rfl
/-- taking -/
theorem ca_a {a ln j s go : Int} : ∀ (k : Nat) (C A : Int → Int → Int) (z d : Int), y_B C A → (0 ≤ a ∧ a < A 163 2) → A 163 (1595 + 12 * a) = s → 0 ≤ d → y_B (l_serve_a a s k C z d).1 (l_n_carry_b a ln j s go k A z d).1 ∧ (l_serve_a a s k C z d).2.1 = (l_n_carry_b a ln j s go k A z d).2.1 ∧ y_V a s A (l_n_carry_b a ln j s go k A z d).1 ∧ ∀ b k2, 155 ≤ b → (l_serve_a a s k C z d).1 b k2 = C b k2 := by
  intro k
  induction k with
  | zero => intro C A z d h ha hs hd; exact ⟨h, rfl, V_rf, fun b k2 _ => rfl⟩
  | succ k ih =>
    intro C A z d h ha hs hd
    have hn := h.i.n
    have hN := h.i.nc
    have hW := h.i.nw
    have kl := h.i.kl a ha.1 (by omega) ha.2
    have k1 := h.f.k1 a ha.1 (by omega)
    rw [hs] at kl k1
    have dk := h.f.dk s kl.2.1 (by omega)
    have hD := h.i.dk s kl.2.1 (by omega) kl.2.2
    rw [l_serve_a, l_n_carry_b, dk, h.f.n, h.f.nw]
    by_cases q : A 163 (10 + 80 * s) ≤ d
    · rw [if_pos q, if_pos q]; exact ⟨h, rfl, V_rf, fun b k2 _ => rfl⟩
    · rw [if_neg q, if_neg q]
      by_cases q2 : z ≤ 0
      · rw [if_pos q2, if_pos q2]; exact ⟨h, rfl, V_rf, fun b k2 _ => rfl⟩
      · rw [if_neg q2, if_neg q2]
        have ct := h.f.ct s d kl.2.1 (by omega) hd (by omega) (by omega)
        have cr := h.i.cr s d kl.2.1 (by omega) hd (by omega) kl.2.2 (by omega)
        rw [ct]
        by_cases q3 : A 163 (11 + 80 * s + d) < 0
        · rw [if_neg (by omega), if_pos q3]
          exact ih C A z (1 + d) h ha hs (by omega)
        · rw [if_pos ⟨⟨kl.2, hd, by omega⟩, by omega, cr.2⟩, if_neg q3]
          have cc := h.i.ct s d _ kl.2.1 (by omega) hd (by omega) (by omega) (by omega) kl.2.2 (by omega) rfl
          rw [h.f.w0 _ (by omega) (by omega)]
          by_cases q4 : A 163 (1114 + 8 * A 163 (11 + 80 * s + d)) = 2
          · rw [if_pos q4, if_neg (fun g => g q4)]
            exact ih C A z (1 + d) h ha hs (by omega)
          · rw [if_neg q4, if_pos q4]
            have T := take_eq (a := a) (d := d) (M := C) (by rw [h.f.nc]; exact ha) (by rw [k1, h.f.n, h.f.nw, dk, ct]; exact ⟨⟨kl.2, hd, by omega⟩, by omega, cr.2⟩)
            rw [k1, ct] at T
            rw [← T]
            have O := O_pick h a d
            have V := V_pick h (d := d) ha
            rw [hs] at V
            have ne := fun b k2 hb => take_ne h ha (w := A 163 (11 + 80 * s + d)) ⟨by omega, cr.2⟩ cc.1 b k2 hb
            rw [← T] at ne
            have I := ih (u_x_pick a d C) (u_n_pick a d A) (-1 + z) (1 + d) O.2 (by rw [V.f 2 (by omega) (by omega)]; exact ha) (by rw [V.g.1]; exact hs) (by omega)
            exact ⟨I.1, I.2.1, V_tr V I.2.2.1, fun b k2 hb => (I.2.2.2 b k2 hb).trans (ne b k2 hb)⟩
theorem cb_id {a s sp : Int} : ∀ (k : Nat) (C : Int → Int → Int) (m : Int), y_gv a C = C → (l_serve_b a s sp k C m).1 = C := by
  intro k
  induction k with
  | zero => intro C m h; rfl
  | succ k ih =>
    intro C m h
    rw [l_serve_b]
    split
    · rfl
    · have h2 := h
      unfold y_gv at h2
      split
      · rename_i q; rw [if_pos q] at h2; rw [h2]; exact ih C _ h
      · exact ih C _ h
theorem ca_b {a ln j s sp : Int} : ∀ (k : Nat) (C A : Int → Int → Int) (go z : Int), y_B C A → (0 ≤ a ∧ a < A 163 2) → A 163 (1595 + 12 * a) = s → 0 ≤ go → y_B (l_serve_b a s sp k C (-z)).1 (l_n_carry_c a ln j s k A go z).1 ∧ y_V a s A (l_n_carry_c a ln j s k A go z).1 ∧ ∀ b k2, 155 ≤ b → (l_serve_b a s sp k C (-z)).1 b k2 = C b k2 := by
  intro k
  induction k with
  | zero => intro C A go z h ha hs hg; exact ⟨h, V_rf, fun b k2 _ => rfl⟩
  | succ k ih =>
    intro C A go z h ha hs hg
    have hN := h.i.nc
    have hW := h.i.nw
    rw [l_serve_b, l_n_carry_c]
    by_cases q : 0 ≤ z
    · rw [if_pos (show -z ≤ 0 by omega), if_pos q]; exact ⟨h, V_rf, fun b k2 _ => rfl⟩
    · rw [if_neg (show ¬ -z ≤ 0 by omega), if_neg q, if_neg (show ¬ go < 0 by omega)]
      have G := gv_drop h ha
      have V := V_drop h ha
      rw [hs] at V
      have NE := fun b k2 hb => gv_ne h ha b k2 hb
      have e : (if 0 ≤ (v_wheelOn a 0 C) ∧ (v_wheelOn a 0 C) < C 1 3 then l_serve_b a s sp k ((u_giveFirst a ((v_wheelOn a 0 C)) C)) ((-1) + -z) else l_serve_b a s sp k C ((-1) + -z)) = l_serve_b a s sp k (y_gv a C) (-(1 + z)) := by
        unfold y_gv
        rw [show (-1) + -z = -(1 + z) by omega]
        split <;> rfl
      rw [e]
      by_cases g : v_n_drop a A < 0
      · have st : ∀ (k : Nat) (A : Int → Int → Int), (l_n_carry_c a ln j s k A (v_n_drop a A) (1 + z)).1 = A ∨ 0 ≤ v_n_drop a A := by
          intro k A
          cases k with
          | zero => exact Or.inl rfl
          | succ k =>
            by_cases w : v_n_drop a A < 0
            · left
              rw [l_n_carry_c, if_pos w]
              split <;> rfl
            · exact Or.inr (by omega)
        have f := nd_fail g
        rw [f, G.2 g]
        have i1 := cb_id (s := s) (sp := sp) k C (-(1 + z)) (G.2 g)
        rw [i1]
        have i2 := (st k A).resolve_right (by omega)
        rw [i2]
        exact ⟨h, V_rf, fun b k2 _ => rfl⟩
      · have I := ih (y_gv a C) (u_n_drop a A) (v_n_drop a A) (1 + z) G.1 (by rw [V.f 2 (by omega) (by omega)]; exact ha) (by rw [V.g.1]; exact hs) (by omega)
        exact ⟨I.1, V_tr V I.2.1, fun b k2 hb => (I.2.2 b k2 hb).trans (NE b k2 hb)⟩
