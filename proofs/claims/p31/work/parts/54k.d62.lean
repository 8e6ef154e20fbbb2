/-! WHAT A CALL LEAVES: the round, and how far carts went -/
def y_Qc (C C2 : Int → Int → Int) : Prop := ∀ b k, 155 ≤ b → C2 b k = C b k
def y_Qm (A A2 : Int → Int → Int) : Prop := (∀ b k, b ≠ 163 → (b = 162 → k = 11) → A2 b k = A b k) ∧ (∀ c, 0 ≤ c → c < 3 → A2 163 (1596 + 12 * c) = A 163 (1596 + 12 * c))
theorem y_Qm.r {A A2 : Int → Int → Int} (h : y_Qm A A2) : ∀ b k, b ≠ 163 → (b = 162 → k = 11) → A2 b k = A b k := h.1
theorem y_Qm.g {A A2 : Int → Int → Int} (h : y_Qm A A2) : ∀ c, 0 ≤ c → c < 3 → A2 163 (1596 + 12 * c) = A 163 (1596 + 12 * c) := h.2
theorem Qm_rf {A : Int → Int → Int} : y_Qm A A := ⟨fun b k _ _ => rfl, fun c _ _ => rfl⟩
theorem Qm_tr {A A2 A3 : Int → Int → Int} (h : y_Qm A A2) (g : y_Qm A2 A3) : y_Qm A A3 := ⟨fun b k q q2 => (g.r b k q q2).trans (h.r b k q q2), fun c c0 c1 => (g.g c c0 c1).trans (h.g c c0 c1)⟩
theorem Qm_up {A : Int → Int → Int} {k v : Int} (h : k < 1594 ∨ (k - 1594) % 12 ≠ 2) : y_Qm A (x_up A 163 k v) := ⟨fun b j q _ => x_up_ne q, fun c c0 c1 => x_up_nk (by omega)⟩
theorem Qm_any {A A2 : Int → Int → Int} (h : ∀ b k, b ≠ 163 → A2 b k = A b k) (g : ∀ k, 1594 ≤ k → A2 163 k = A 163 k) : y_Qm A A2 := ⟨fun b k q _ => h b k q, fun c c0 c1 => g _ (by omega)⟩
theorem Q_want {C A : Int → Int → Int} (h : y_B C A) (a b : Int) : y_Qc C (u_x_want a b C) ∧ y_Qm A (u_n_want a b A) := by
  have hn := h.i.n
  have n := h.f.n
  unfold u_x_want u_n_want
  refine ⟨fun b k q => ?_, ?_⟩
  · (repeat' first | rw [x_up_ne (by omega)] | rw [put_ne (by omega) (by omega)] | rw [move_ne (by omega)] | rw [fill_ne (by omega)] | rfl | split)
  · (repeat' first | exact Qm_rf | exact Qm_up (by omega) | refine Qm_tr ?_ (Qm_up (by omega)) | split)
theorem Q_length {C A : Int → Int → Int} (h : y_B C A) (a b l : Int) : y_Qc C (u_x_length a b l C) ∧ y_Qm A (u_n_length a b l A) := by
  have hn := h.i.n
  have n := h.f.n
  unfold u_x_length u_n_length
  refine ⟨fun b k q => ?_, ?_⟩
  · (repeat' first | rw [x_up_ne (by omega)] | rw [put_ne (by omega) (by omega)] | rw [move_ne (by omega)] | rw [fill_ne (by omega)] | rfl | split)
  · (repeat' first | exact Qm_rf | exact Qm_up (by omega) | refine Qm_tr ?_ (Qm_up (by omega)) | split)
theorem Q_next {C A : Int → Int → Int} (h : y_B C A) (a b : Int) : y_Qc C (u_x_next a b C) ∧ y_Qm A (u_n_next a b A) := by
  have hn := h.i.n
  have n := h.f.n
  unfold u_x_next u_n_next u_addOther
  refine ⟨fun b k q => ?_, ?_⟩
  · (repeat' first | rw [x_up_ne (by omega)] | rw [put_ne (by omega) (by omega)] | rw [move_ne (by omega)] | rw [fill_ne (by omega)] | rfl | split)
  · by_cases ha : 0 ≤ a ∧ a < A 163 0
    · have oc := h.i.oc a ha.1 (by omega) ha.2
      (repeat' first | exact Qm_rf | exact Qm_up (by omega) | refine Qm_tr ?_ (Qm_up (by omega)) | split)
    · rw [if_neg ha]; exact Qm_rf
theorem Q_tear {C A : Int → Int → Int} (h : y_B C A) (a b : Int) : y_Qc C (u_x_tear a b C) ∧ y_Qm A (u_n_tear a b A) := by
  have hn := h.i.n
  have n := h.f.n
  unfold u_x_tear u_n_tear
  refine ⟨fun b k q => ?_, ?_⟩
  · repeat' first | rw [x_up_ne (by omega)] | rfl | (rw [P_uforget, if_neg (by omega), if_neg (by omega)]) | split
  · (repeat' first | exact Qm_rf | exact Qm_up (by omega) | refine Qm_tr ?_ (Qm_up (by omega)) | split)
theorem Q_block {C A : Int → Int → Int} (h : y_B C A) (a b d : Int) : y_Qc C (u_x_block a b d C) ∧ y_Qm A (u_n_block a b d A) := by
  have hn := h.i.n
  have n := h.f.n
  unfold u_x_block u_n_block
  refine ⟨fun b k q => ?_, ?_⟩
  · (repeat' first | rw [x_up_ne (by omega)] | rw [put_ne (by omega) (by omega)] | rw [move_ne (by omega)] | rw [fill_ne (by omega)] | rfl | split)
  · by_cases ha : 0 ≤ a ∧ a < A 163 0
    · have dk := h.i.dk a ha.1 (by omega) ha.2
      (repeat' first | exact Qm_rf | exact Qm_up (by omega) | refine Qm_tr ?_ (Qm_up (by omega)) | split)
    · rw [if_neg (fun z => ha z.1)]; exact Qm_rf
theorem Q_charge {C A : Int → Int → Int} (h : y_B C A) (a b : Int) : y_Qc C (u_x_charge a b C) ∧ y_Qm A (u_n_charge a b A) := by
  have hn := h.i.nw
  have n := h.f.nw
  unfold u_x_charge u_n_charge
  refine ⟨fun b k q => ?_, ?_⟩
  · (repeat' first | rw [x_up_ne (by omega)] | rw [put_ne (by omega) (by omega)] | rw [move_ne (by omega)] | rw [fill_ne (by omega)] | rfl | split)
  · (repeat' first | exact Qm_rf | exact Qm_up (by omega) | refine Qm_tr ?_ (Qm_up (by omega)) | split)
theorem Q_fault {C A : Int → Int → Int} (h : y_B C A) (a : Int) : y_Qc C (u_x_fault a C) ∧ y_Qm A (u_n_fault a A) := by
  have hn := h.i.nw
  have n := h.f.nw
  unfold u_x_fault u_n_fault
  refine ⟨fun b k q => ?_, ?_⟩
  · (repeat' first | rw [x_up_ne (by omega)] | rw [put_ne (by omega) (by omega)] | rw [move_ne (by omega)] | rw [fill_ne (by omega)] | rfl | split)
  · (repeat' first | exact Qm_rf | exact Qm_up (by omega) | refine Qm_tr ?_ (Qm_up (by omega)) | split)
theorem Q_test {C A : Int → Int → Int} (h : y_B C A) (a : Int) : y_Qc C (u_x_test a C) ∧ y_Qm A (u_n_test a A) := by
  have hn := h.i.nw
  have n := h.f.nw
  unfold u_x_test u_n_test
  refine ⟨fun b k q => ?_, ?_⟩
  · (repeat' first | rw [x_up_ne (by omega)] | rw [put_ne (by omega) (by omega)] | rw [move_ne (by omega)] | rw [fill_ne (by omega)] | rfl | split)
  · (repeat' first | exact Qm_rf | exact Qm_up (by omega) | refine Qm_tr ?_ (Qm_up (by omega)) | split)
theorem Q_mend {C A : Int → Int → Int} (h : y_B C A) (a : Int) : y_Qc C (u_x_mend a C) ∧ y_Qm A (u_n_mend a A) := by
  have hn := h.i.nw
  have n := h.f.nw
  unfold u_x_mend u_n_mend
  refine ⟨fun b k q => ?_, ?_⟩
  · (repeat' first | rw [x_up_ne (by omega)] | rw [put_ne (by omega) (by omega)] | rw [move_ne (by omega)] | rw [fill_ne (by omega)] | rfl | split)
  · (repeat' first | exact Qm_rf | exact Qm_up (by omega) | refine Qm_tr ?_ (Qm_up (by omega)) | split)
theorem Q_stand {C A : Int → Int → Int} (h : y_B C A) (a : Int) : y_Qc C (u_x_stand a C) ∧ y_Qm A (u_n_stand a A) := by
  have hn := h.i.n
  have n := h.f.n
  unfold u_x_stand u_n_stand u_addStand
  refine ⟨fun b k q => ?_, ?_⟩
  · split
    · rfl
    · split
      · split
        · rw [x_up_ne (by omega), P_sSetUp, if_neg (by omega), if_neg (by omega), if_neg (by omega), if_neg (by omega), if_neg (by omega), if_neg (by omega), if_neg (by omega), if_neg (by omega)]
        · rfl
      · rfl
  · split
    · exact Qm_rf
    · split
      · exact Qm_rf
      · split
        · refine Qm_tr (Qm_tr (Qm_tr (Qm_tr (Qm_up (k := 10 + 80 * A 163 0) (v := a) (by omega)) ?_) (Qm_up (by omega))) (Qm_up (by omega))) (Qm_up (by omega))
          have P := fun b k => P_nst (n := a) (s := A 163 0) 13 (x_up A 163 (10 + 80 * A 163 0) a) 0 (by omega) (by omega) b k
          exact Qm_any (fun b k q => by rw [P, if_neg (by omega)]) (fun k q => by rw [P, if_neg (by omega)])
        · exact Qm_rf
theorem Q_put {C A : Int → Int → Int} (h : y_B C A) (a b d : Int) : y_Qc C (u_x_put a b d C) ∧ y_Qm A (u_n_put a b d A) := by
  have hn := h.i.n
  have n := h.f.n
  have hW := h.i.nw
  have nw := h.f.nw
  refine ⟨fun b2 k q => ?_, ?_⟩
  · unfold u_x_put u_addWheel
    split
    · split
      · rfl
      · split
        · rfl
        · split
          · split
            · rw [x_up_ne (by omega), put_ne (by omega) (by omega), P_wSetUp, if_neg (by omega)]
            · rfl
          · rfl
    · rfl
  · unfold u_n_put
    by_cases q60 : A 163 1 = 60
    · rw [if_pos q60]; exact Qm_rf
    · rw [if_neg q60]
      by_cases qa : 0 ≤ a ∧ a < 4
      · rw [if_pos qa]
        by_cases qd : (((0 ≤ b ∧ b < A 163 0) ∧ 0 ≤ d ∧ d < A 163 (10 + 80 * b)) ∧ A 163 (11 + 80 * b + d) = -1) ∧ (a = 2 → 1 + d < A 163 (10 + 80 * b) ∧ A 163 (12 + 80 * b + d) = -1)
        · rw [if_pos qd]
          have hD := h.i.dk b qd.1.1.1.1 (by omega) qd.1.1.1.2
          have key : ∀ v, y_Qm A (u_m_comes (A 163 1) b d ((x_up ((x_up ((x_up ((x_up ((x_up ((x_up A 163 1 (1 + A 163 1))) 163 (1114 + 8 * A 163 1) a)) 163 (1115 + 8 * A 163 1) v)) 163 (1119 + 8 * A 163 1) 0)) 163 (1120 + 8 * A 163 1) 0)) 163 (1121 + 8 * A 163 1) ((-1))))) := fun v => by
            have P0 : y_Qm A (y_put0 a v A) := by unfold y_put0; (repeat' first | exact Qm_rf | exact Qm_up (by omega) | refine Qm_tr ?_ (Qm_up (by omega)) | split)
            refine Qm_tr (A2 := y_put0 a v A) P0 ?_
            show y_Qm (y_put0 a v A) (u_m_comes (A 163 1) b d (y_put0 a v A))
            exact Qm_any (fun b2 k q => by rw [P_comes, if_neg (by omega), if_neg (by omega), if_neg (by omega), if_neg (by omega)]) (fun k q => by rw [P_comes, if_neg (by omega), if_neg (by omega), if_neg (by omega), if_neg (by omega)])
          split <;> exact key _
        · rw [if_neg qd]; exact Qm_rf
      · rw [if_neg qa]; exact Qm_rf
theorem Q_hour {C A : Int → Int → Int} (h : y_B C A) : y_Qc C (u_x_hour C) ∧ y_Qm A (u_n_hour A) := by
  have hW := h.i.nw
  have nw := h.f.nw
  unfold u_x_hour u_n_hour
  refine ⟨fun b k q => ?_, ?_⟩
  · have P := P_xho (a := b) (j := k) 61 C 0 (by omega) (by omega) (by omega)
    split <;> rw [x_up_ne (by omega), P, if_neg (by omega)]
  · have P := (P_nho (a := 0) (j := 0) 61 A 0 (by omega) (by omega) (by omega)).1
    refine Qm_tr ?_ (Qm_up (by omega))
    exact Qm_any (fun b k q => P b k (by omega)) (fun k q => P 163 k (by omega))
theorem Q_demand {C A : Int → Int → Int} (h : y_B C A) (a b d e : Int) : y_Qc C (u_x_demand a b d e C) ∧ y_Qm A (u_n_demand a b d e A) := by
  have hn := h.i.n
  have n := h.f.n
  unfold u_x_demand u_n_demand u_tellHour
  refine ⟨fun b k q => ?_, ?_⟩
  · (repeat' first | rw [x_up_ne (by omega)] | rw [put_ne (by omega) (by omega)] | rw [move_ne (by omega)] | rw [fill_ne (by omega)] | rfl | split)
  · split
    · split
      · split
        · split
          · split
            · (repeat' first | exact Qm_rf | exact Qm_up (by omega) | refine Qm_tr ?_ (Qm_up (by omega)) | split)
            · refine Qm_tr (Qm_tr (Qm_tr (Qm_up (k := 34 + 80 * a) (v := 1) (by omega)) ?_) (Qm_up (by omega))) (Qm_up (by omega))
              have P := fun c j => P_ndem (a := a) (b := b) (d := d) (e := e) 50 (x_up A 163 (34 + 80 * a) 1) 1 (by omega) (by omega) c j
              exact Qm_any (fun b k q => by rw [P, if_neg (by omega)]) (fun k q => by rw [P, if_neg (by omega)])
          · exact Qm_rf
        · exact Qm_rf
      · exact Qm_rf
    · exact Qm_rf
theorem Q_fetch {C A : Int → Int → Int} (h : y_B C A) (a b : Int) : y_Qc C (u_x_fetch a b C) ∧ y_Qm A (u_n_fetch a b A) := by
  have hN := h.i.nc
  have nc := h.f.nc
  have hW := h.i.nw
  have nw := h.f.nw
  refine ⟨fun b k q => ?_, ?_⟩
  · unfold u_x_fetch u_takeOn
    (repeat' first | rw [x_up_ne (by omega)] | rw [put_ne (by omega) (by omega)] | rw [move_ne (by omega)] | rw [fill_ne (by omega)] | rfl | split)
  · unfold u_n_fetch
    by_cases ha : 0 ≤ a ∧ a < A 163 2
    · have kk := h.i.kk a ha.1 (by omega)
      have n7 : ¬ v_m_allows a b A = 0 → A 163 (1597 + 12 * a) < 8 := fun al => by
        have p1 := (P_allows (A := A) (c := a) (w := b) ⟨kk.1, kk.2.1⟩).1 al
        have p2 := tk_cnt (A := A) (c := a) ⟨kk.1, kk.2.1⟩
        have p3 := y_sz_in (A 163 (1114 + 8 * b))
        have kl := h.i.kl a ha.1 (by omega) ha.2
        omega
      rw [if_pos ha]
      split
      · split
        · exact Qm_rf
        · split
          · exact Qm_rf
          · split
            · rename_i al
              have n7 := n7 al
              unfold u_m_climbs
              exact Qm_tr (Qm_tr (Qm_tr (Qm_tr (Qm_up (by omega)) (Qm_up (by omega))) (Qm_up (by omega))) (Qm_up (by omega))) (Qm_up (by omega))
            · exact Qm_rf
      · exact Qm_rf
    · rw [if_neg ha]; exact Qm_rf
theorem Q_ofV {a s : Int} {A A2 : Int → Int → Int} (h : y_V a s A A2) : y_Qm A A2 := ⟨fun b k q _ => h.o b k q, fun c c0 c1 => by
  by_cases w : c = a
  · subst w; exact h.g.2
  · exact h.f _ (by omega) (by omega)⟩
theorem Q_pick {C A : Int → Int → Int} (h : y_B C A) (a d : Int) : y_Qc C (u_x_pick a d C) ∧ y_Qm A (u_n_pick a d A) := by
  have hN := h.i.nc
  have nc := h.f.nc
  have hn := h.i.n
  have n := h.f.n
  have hW := h.i.nw
  have nw := h.f.nw
  by_cases ha : 0 ≤ a ∧ a < A 163 2
  · refine ⟨fun b k q => ?_, Q_ofV (V_pick h ha)⟩
    have k1 := h.f.k1 a ha.1 (by omega)
    have kl := h.i.kl a ha.1 (by omega) ha.2
    have dk := h.f.dk (A 163 (1595 + 12 * a)) kl.2.1 (by omega)
    have hD := h.i.dk (A 163 (1595 + 12 * a)) kl.2.1 (by omega) kl.2.2
    by_cases c2 : ((0 ≤ (C (149 + 2 * a) 2) ∧ (C (149 + 2 * a) 2) < C 1 1) ∧ 0 ≤ d ∧ d < C (3 + 7 * (C (149 + 2 * a) 2)) 1) ∧ 0 ≤ C (4 + 7 * (C (149 + 2 * a) 2)) d ∧ C (4 + 7 * (C (149 + 2 * a) 2)) d < C 1 3
    · rw [take_eq (by omega) c2]
      rw [k1, dk, n, nw] at c2
      rw [k1]
      have ct := h.f.ct (A 163 (1595 + 12 * a)) d kl.2.1 (by omega) c2.1.2.1 (by omega) c2.1.2.2
      rw [ct] at c2 ⊢
      have cc := h.i.ct (A 163 (1595 + 12 * a)) d _ kl.2.1 (by omega) c2.1.2.1 (by omega) c2.2.1 (by omega) kl.2.2 c2.1.2.2 rfl
      exact take_ne h ha c2.2 cc.1 b k q
    · unfold u_x_pick
      rw [if_neg c2]; split <;> rfl
  · unfold u_x_pick u_n_pick
    rw [nc, if_neg ha, if_neg ha]
    exact ⟨fun b k _ => rfl, Qm_rf⟩
theorem Q_drop {C A : Int → Int → Int} (h : y_B C A) (a : Int) : y_Qc C (u_x_drop a C) ∧ y_Qm A (u_n_drop a A) := by
  have nc := h.f.nc
  have hW := h.i.nw
  have nw := h.f.nw
  by_cases ha : 0 ≤ a ∧ a < A 163 2
  · refine ⟨fun b k q => ?_, Q_ofV (V_drop h ha)⟩
    have g := gv_ne h ha b k q
    unfold y_gv at g
    unfold u_x_drop
    rw [nc, if_pos ha]
    split
    · rename_i z
      rw [if_pos z] at g
      split
      · rw [x_up_ne (by omega)]; exact g
      · exact g
    · rfl
  · unfold u_x_drop u_n_drop
    rw [nc, if_neg ha, if_neg ha]
    exact ⟨fun b k _ => rfl, Qm_rf⟩
theorem Q_runs {C A : Int → Int → Int} (h : y_B C A) (a b d : Int) : y_Qm A (u_n_runs a b d A) := by
  unfold u_n_runs
  by_cases ha : 0 ≤ a ∧ a < A 163 0
  · rw [if_pos ha]
    by_cases q : b < 0
    · rw [if_pos q]; exact Qm_rf
    · rw [if_neg q]
      by_cases q2 : v_m_cntD a (-2) A < b
      · rw [if_pos q2]; exact Qm_rf
      · rw [if_neg q2]
        have T := (F_thr h 0 ha (w := b) ⟨by omega, by omega⟩).2.2
        have key : y_Qm A (u_m_through a b A) := ⟨fun c k q1 q2 => T c k (by omega), fun c c0 c1 => T 163 _ (by omega)⟩
        split
        · split
          · split <;> exact key
          · exact key
        · exact Qm_rf
  · rw [if_neg ha]; exact Qm_rf
