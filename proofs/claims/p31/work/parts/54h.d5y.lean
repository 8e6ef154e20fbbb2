/-! PLAN, whole -/
def y_R (C A : Int → Int → Int) : Prop := C 156 1 = A 162 11 ∧ (0 ≤ A 162 11 ∧ A 162 11 ≤ 7) ∧ ∀ k, 0 ≤ k → k < A 162 11 → C 157 k = A 169 k
/-- after a round is found -/
def y_P (A : Int → Int → Int) : Prop := (∀ k : Nat, (k : Int) < A 162 11 → (0 ≤ A 169 (k : Int) ∧ A 169 (k : Int) < A 163 0) ∧ v_m_over (A 169 (k : Int)) A = y_ov A (A 169 (k : Int))) ∧ (∀ k l : Nat, k < l → (l : Int) < A 162 11 → A 169 (k : Int) ≠ A 169 (l : Int))
theorem y_P.st {A : Int → Int → Int} (h : y_P A) : ∀ k : Nat, (k : Int) < A 162 11 → (0 ≤ A 169 (k : Int) ∧ A 169 (k : Int) < A 163 0) ∧ v_m_over (A 169 (k : Int)) A = y_ov A (A 169 (k : Int)) := h.1
theorem y_P.ne {A : Int → Int → Int} (h : y_P A) : ∀ k l : Nat, k < l → (l : Int) < A 162 11 → A 169 (k : Int) ≠ A 169 (l : Int) := h.2
theorem over_e {A : Int → Int → Int} {s : Int} {n : Nat} (hn : A 162 7 = (n : Int)) (h : ∀ k : Nat, k < n → A 166 (k : Int) = y_ov A (A 165 (k : Int))) : ∀ (u j : Nat) (v : Int), n < j + u → j ≤ n → ((∃ k : Nat, j ≤ k ∧ k < n ∧ A 165 (k : Int) = s) ∨ v = y_ov A s) → (l_m_over_a s A u v (j : Int)).1 = y_ov A s := by
  intro u
  induction u with
  | zero => intro j v z1 z2; omega
  | succ u ih =>
    intro j v z1 z2 z3
    rw [l_m_over_a, hn]
    by_cases q : n ≤ j
    · rw [if_pos (by omega)]
      rcases z3 with ⟨k, k1, k2, _⟩ | z3
      · omega
      · exact z3
    · rw [if_neg (by omega), show (1 : Int) + (j : Int) = ((j + 1 : Nat) : Int) by omega]
      by_cases q2 : A 165 (j : Int) = s
      · rw [if_neg (by omega), h j (by omega), q2]
        exact ih (j + 1) _ (by omega) (by omega) (Or.inr rfl)
      · rw [if_pos q2]
        refine ih (j + 1) _ (by omega) (by omega) ?_
        rcases z3 with ⟨k, k1, k2, k3⟩ | z3
        · by_cases w : k = j
          · subst w; exact absurd k3 q2
          · exact Or.inl ⟨k, by omega, k2, k3⟩
        · exact Or.inr z3
theorem over_cg {A A2 : Int → Int → Int} {s : Int} (e1 : A2 162 7 = A 162 7) (e2 : ∀ j, A2 165 j = A 165 j) (e3 : ∀ j, A2 166 j = A 166 j) : v_m_over s A2 = v_m_over s A := by
  unfold v_m_over
  have P : ∀ (k : Nat) (n d : Int), l_m_over_a s A2 k n d = l_m_over_a s A k n d := by
    intro k
    induction k with
    | zero => intro n d; rfl
    | succ k ih => intro n d; simp only [l_m_over_a, e1, e2, e3, ih]
  rw [P]
theorem R_cong {C A C2 A2 : Int → Int → Int} (h : y_R C A) (c1 : C2 156 1 = C 156 1) (c2 : ∀ k, C2 157 k = C 157 k) (a1 : A2 162 11 = A 162 11) (a2 : ∀ k, A2 169 k = A 169 k) : y_R C2 A2 := by
  refine ⟨by rw [c1, a1]; exact h.1, by rw [a1]; exact h.2.1, fun k k0 k1 => ?_⟩
  rw [a1] at k1
  rw [c2, a2]; exact h.2.2 k k0 k1
theorem O_plan {C A : Int → Int → Int} (h : y_B C A) (r : y_R C A) (a : Int) : v_x_plan a C = v_n_plan a A ∧ y_B (u_x_plan a C) (u_n_plan a A) ∧ y_R (u_x_plan a C) (u_n_plan a A) ∧ (0 ≤ v_n_plan a A → y_P (u_n_plan a A)) ∧ -1 ≤ v_n_plan a A ∧ (∀ j, u_n_plan a A 163 j = A 163 j) := by
  have hn := h.i.n
  have hN := h.i.nc
  unfold v_x_plan u_x_plan v_n_plan u_n_plan
  rw [h.f.nc]
  by_cases ha : 0 ≤ a ∧ a < A 163 2
  · rw [if_pos ha, if_pos ha, if_pos ha, if_pos ha]
    unfold v_prepare1 u_prepare1
    have k3 := h.f.k3 a ha.1 (by omega)
    have kk := h.i.kk a ha.1 (by omega)
    have kl := h.i.kl a ha.1 (by omega) ha.2
    rw [k3]
    by_cases hc : A 163 (1597 + 12 * a) ≤ 0
    · rw [if_neg (show ¬ 0 < A 163 (1597 + 12 * a) by omega), if_neg (show ¬ 0 < A 163 (1597 + 12 * a) by omega), if_pos hc, if_pos hc]
      have G := ga h 13 (x_up C 156 4 0) (x_up A 162 7 0) 0 0 (by omega) (by omega) (by omega) (by omega) (fun a k q => x_up_ne (by omega)) (fun j => x_up_ne (by omega)) ⟨by rw [x_up_self]; rfl, by rw [x_up_self]; rfl, fun k hk => by omega, fun k hk => by omega, fun k hk => by omega, fun k hk => by omega, fun k l kl hl => by omega, fun k hk => by omega⟩
      have wa : ∀ s, 0 ≤ s → s < A 163 0 → -1 ≤ A 163 (24 + 80 * s) := fun s s0 s1 => (h.i.wa s s0 (by omega) s1).1
      have FM := fi_mono (A := A) wa 13 (x_up A 162 7 0) 0 (fun j => x_up_ne (by omega)) (by omega)
      have eD0 : u_m_finds A = (l_m_finds_a 13 (x_up A 162 7 0) 0).1 := rfl
      have eC0 : u_gather C = z_gather_a 13 (x_up C 156 4 0) 0 := rfl
      have eV0 : v_gather C = w_gather_a 13 (x_up C 156 4 0) 0 := rfl
      rw [← eD0, ← eC0, ← eV0] at G
      rw [← eD0] at FM
      generalize u_m_finds A = D at *
      generalize u_gather C = M at *
      obtain ⟨frM, G⟩ := G
      have eM : ∀ a k, a < 155 → M a k = C a k := fun a k q => by rw [frM a k (by omega) (by omega) (by omega), x_up_ne (by omega)]
      have eD : ∀ j, D 163 j = A 163 j := fun j => by rw [FM.2.2 163 j (by omega) (by omega) (by omega), x_up_ne (by omega)]
      have rM : M 156 1 = C 156 1 ∧ ∀ k, M 157 k = C 157 k := ⟨by rw [frM 156 1 (by omega) (by omega) (by omega), x_up_nk (by omega)], fun k => by rw [frM 157 k (by omega) (by omega) (by omega), x_up_ne (by omega)]⟩
      have rD : D 162 11 = A 162 11 ∧ ∀ k, D 169 k = A 169 k := ⟨by rw [FM.2.2 162 11 (by omega) (by omega) (by omega), x_up_nk (by omega)], fun k => by rw [FM.2.2 169 k (by omega) (by omega) (by omega), x_up_ne (by omega)]⟩
      have bMD : y_B M D := B_cong h (fun a k _ q => eM a k q) (fun k _ _ => eD k)
      have rMD : y_R M D := R_cong r rM.1 rM.2 rD.1 rD.2
      rcases G with ⟨g1, n, n7, g⟩ | ⟨g1, g⟩
      · rw [g1, if_pos (show ¬ (1 : Int) = 0 by omega), if_pos (show ¬ (1 : Int) = 0 by omega), g.c2, if_pos (show (n : Int) ≤ 7 by omega), if_pos (show (n : Int) ≤ 7 by omega)]
        have hn8 : n < 8 := by omega
        have WZ := wz_ok (a := a) eD g.c2 (fun k hk => g.r6 k hk) n (7 - n) 0 (by omega) (by omega)
        rw [show 7 - n + n + 1 = 8 by omega, show ((0 : Nat) : Int) = 0 from rfl] at WZ
        rw [WZ.1, WZ.2]
        clear WZ
        -- the class
        let T : Nat → Int := fun i => D 165 (i : Int)
        let S : Nat → Int := fun i => D 166 (i : Int)
        let fa : Int → Int → Int := fun x y => A 163 (970 + 12 * x + y)
        have hT : ∀ i, i < n → 0 ≤ T i ∧ T i < A 163 0 := fun i hi => g.r3 i hi
        have hS : ∀ i, i < n → -100 ≤ S i ∧ S i ≤ 100 := fun i hi => by
          have := ov_in h (hT i hi)
          have e : S i = y_ov A (T i) := g.r4 i hi
          rw [e]; exact this
        have hff : ∀ fr i, (0 ≤ fr ∧ fr < A 163 0) → i < n → 0 ≤ fa fr (T i) ∧ fa fr (T i) ≤ 999 := fun fr i f0 hi => h.i.ln fr (T i) f0.1 (by omega) (hT i hi).1 (by have := hT i hi; omega)
        have hfa : ∀ i j, i < n → j < n → 0 ≤ fa (T i) (T j) ∧ fa (T i) (T j) ≤ 999 := fun i j hi hj => hff (T i) j (hT i hi) hj
        have K0 : pl_K n T S fa (A 163 0) M := ⟨g.c1, g.r1, g.r2, fun i fr hi f0 f1 => by
          rw [lb_fr eM (by omega)]; exact F_lb h.f hn.2 ⟨f0, f1⟩ ⟨(hT i hi).1, by have := hT i hi; omega⟩⟩
        have p0 := pow0 (n := n)
        have p7 := pow7 hn8
        have HA := hold_a hn.2 hn8 hS 129 M 0 K0 (by omega) (by have := pow7 hn8; omega) (fun vi hv => by omega)
        rw [show ((0 : Nat) : Int) = 0 from rfl] at HA
        have eU : u_addUpHeld M = (l_addUpHeld_a 129 M 0).1 := rfl
        rw [← eU] at HA
        generalize u_addUpHeld M = M1 at *
        have K1 : pl_K n T S fa (A 163 0) M1 := K_fr K0 hn.2 (fun a k q1 q2 q3 => HA.2 a k (by omega))
        have l1 : M1 (149 + 2 * a) 1 = A 163 (1594 + 12 * a) := by rw [HA.2 _ _ (by omega), eM _ _ (by omega)]; exact h.f.k0 a ha.1 (by omega)
        rw [l1]
        have MA := meas_a (ld := A 163 (1594 + 12 * a)) hn8 hn.2 hT hfa 129 M1 (2 ^ n - 1) K1 HA.1 (by omega) (by omega) (fun vj v1 v2 => by omega)
        have eU2 : u_measureLeft (A 163 (1594 + 12 * a)) M1 = (l_measureLeft_a (A 163 (1594 + 12 * a)) 129 M1 ((2 ^ n - 1 : Nat) : Int)).1 := by
          unfold u_measureLeft v_allStands
          rw [K1.c, al hn8]
        rw [← eU2] at MA
        generalize u_measureLeft (A 163 (1594 + 12 * a)) M1 = M2 at *
        have K2 : pl_K n T S fa (A 163 0) M2 := K_fr K1 hn.2 (fun a k q1 q2 q3 => MA.2 a k (by omega))
        have l2 : M2 (149 + 2 * a) 2 = A 163 (1595 + 12 * a) := by rw [MA.2 _ _ (by omega), HA.2 _ _ (by omega), eM _ _ (by omega)]; exact h.f.k1 a ha.1 (by omega)
        rw [l2]
        have h60 : ∀ vi : Nat, vi < 2 ^ n → M2 160 (vi : Int) = pl_h S vi n := fun vi hv => by rw [MA.2 _ _ (by omega)]; exact HA.1 vi hv
        have LE := least_e (vi := 0) (ld := A 163 (1594 + 12 * a)) K2 hn8 hfa (by omega) (h60 0 (by omega)) (fun vj v1 => MA.1 vj v1) kl.2 (fun i hi => hff _ i kl.2 hi)
        rw [(pl_rm0 n hn8).1, pl_h_0 hn8, show ((0 : Nat) : Int) = 0 from rfl] at LE
        rw [LE]
        have TR := fun (m : Int) (l : List Nat) (hR : pl_R T S fa (A 163 (1594 + 12 * a)) n n (A 163 (1595 + 12 * a)) 0 0 = some (m, l)) => tr_a (st := A 163 (1595 + 12 * a)) hn8 hn.2 hT hfa n 8 M2 0 (A 163 (1595 + 12 * a)) 0 m l (by omega) K2 h60 MA.1 (by omega) (pl_rm0 n hn8).1 (by omega) kl.2 (fun i hi => hff _ i kl.2 hi) (by rw [pl_h_0 hn8]; exact hR)
        rw [show ((0 : Nat) : Int) = 0 from rfl] at TR
        have okR := pl_ok_R (ld := A 163 (1594 + 12 * a)) (S := S) (T := T) (fa := fa) (n := n) hfa n (A 163 (1595 + 12 * a)) 0 0 (by omega) (fun i hi => hff _ i kl.2 hi)
        have inR := fun m l => pl_R_in (T := T) (S := S) (fa := fa) (ld := A 163 (1594 + 12 * a)) hn8 n (A 163 (1595 + 12 * a)) 0 0 m l (by omega)
        -- the model
        have PB := y_pb a 8 D 0 (by rw [g.c2]; omega)
        have PF := fun b x q => pb_fr a 8 D 0 b x q
        have WF := pl_wf_all hn8
        have CH := pl_chain hn8
        have PA := pl_A T S fa (A 163 (1594 + 12 * a)) n n (A 163 (1595 + 12 * a)) 0 0
        revert WF CH PA
        generalize pl_pm n n 0 = L
        intro WF CH PA
        cases L with
        | nil => exact absurd WF.2.2 (by simp)
        | cons l0 L =>
          have e0 : l0 = List.range n := Option.some.inj WF.2.2
          have wf : ∀ x, x ∈ l0 :: L → x.length = n ∧ ∀ i, i ∈ x → i < n := WF.1
          have LP := pl_loop (a := a) (ld := A 163 (1594 + 12 * a)) (T := T) (S := S) (fa := fa) hn8 (fun i j hi hj => (hfa i j hi hj).1) (A 163 (1595 + 12 * a)) (fun i hi => (hff _ i kl.2 hi).1) L l0 6000000 (l_n_plan_b a 8 D 0).1 (-1) none (by have := WF.2.1; rw [List.length_cons] at this; omega) CH wf ⟨by rw [PB.1]; exact g.c2, fun j hj => by rw [PB.2, if_pos (by rw [g.c2]; omega), e0]; simp [List.getD, hj]⟩ (by rw [PF _ _ (by omega)]; exact eD _) (by rw [PF _ _ (by omega)]; exact eD _) (fun i hi => PF _ _ (by omega)) (fun i hi => PF _ _ (by omega)) (fun x y => by rw [PF _ _ (by omega)]; exact eD _) rfl
          obtain ⟨LP1, LP2⟩ := LP
          rw [PA] at LP1
          have LP1 : pl_st n T (l_n_plan_c a 6000000 (l_n_plan_b a 8 D 0).1 (-1) 1).1 (l_n_plan_c a 6000000 (l_n_plan_b a 8 D 0).1 (-1) 1).2.1 (pl_R T S fa (A 163 (1594 + 12 * a)) n n (A 163 (1595 + 12 * a)) 0 0) := LP1
          revert LP1 LP2
          generalize l_n_plan_c a 6000000 (l_n_plan_b a 8 D 0).1 (-1) 1 = Q
          intro LP2 LP1
          have eQ : ∀ b x, b ≠ 167 → b ≠ 168 → Q.1 b x = D b x := fun b x b1 b2 => (LP2 b x b1 b2).trans (PF b x b1)
          have c155 : ∀ a k, a < 155 → M2 a k = C a k := fun a k q => by rw [MA.2 _ _ (by omega), HA.2 _ _ (by omega), eM _ _ (by omega)]
          revert LP1 LE TR okR inR
          generalize pl_R T S fa (A 163 (1594 + 12 * a)) n n (A 163 (1595 + 12 * a)) 0 0 = o
          intro LE TR okR inR LP1
          cases o with
          | none =>
            have q : Q.2.1 = -1 := LP1
            show (if (1000000 : Int) < 1000000 then (1000000 : Int) else -1) = _ ∧ y_B (if (1000000 : Int) < 1000000 then _ else _) _ ∧ y_R (if (1000000 : Int) < 1000000 then _ else _) _ ∧ _
            rw [if_neg (show ¬ (1000000 : Int) < 1000000 by omega), if_neg (show ¬ (1000000 : Int) < 1000000 by omega), q, if_neg (show ¬ (0 : Int) ≤ -1 by omega), if_neg (show ¬ (0 : Int) ≤ -1 by omega)]
            refine ⟨rfl, B_cong h (fun a k _ q => c155 a k q) (fun k _ _ => (eQ _ _ (by omega) (by omega)).trans (eD k)), ?_, fun z => by omega, by omega, fun j => (eQ _ _ (by omega) (by omega)).trans (eD j)⟩
            exact R_cong rMD (by rw [MA.2 _ _ (by omega), HA.2 _ _ (by omega)]) (fun k => by rw [MA.2 _ _ (by omega), HA.2 _ _ (by omega)]) (eQ _ _ (by omega) (by omega)) (fun k => eQ _ _ (by omega) (by omega))
          | some p =>
            obtain ⟨m, l⟩ := p
            have q : Q.2.1 = m ∧ 0 ≤ m ∧ ∀ j : Nat, j < n → Q.1 168 (j : Int) = T (l.getD j 0) := LP1
            have m7 : m < 1000000 := by have := (okR _ rfl).2; simp only at this; omega
            have TR := TR m l rfl
            have inl := inR m l rfl
            show (if m < 1000000 then m else -1) = _ ∧ y_B (if m < 1000000 then _ else _) _ ∧ y_R (if m < 1000000 then _ else _) _ ∧ _
            rw [if_pos m7, if_pos m7, q.1, if_pos q.2.1, if_pos q.2.1]
            have q7 : Q.1 162 7 = (n : Int) := (eQ _ _ (by omega) (by omega)).trans g.c2
            have PE := fun b x => pl_e (a := a) (le := m) (mo := Q.2.2) 8 (x_up Q.1 162 11 (Q.1 162 7)) 0 (by omega) (by rw [x_up_nk (by omega), q7]; omega) b x
            have e7 : (x_up Q.1 162 11 (Q.1 162 7)) 162 7 = (n : Int) := by rw [x_up_nk (by omega)]; exact q7
            rw [e7] at PE
            revert PE
            generalize (l_n_plan_e a m Q.2.2 8 (x_up Q.1 162 11 (Q.1 162 7)) 0).1 = E
            intro PE
            have E11 : E 162 11 = (n : Int) := by rw [PE, if_neg (by omega), x_up_self]; exact q7
            have Ex : ∀ b x, b ≠ 167 → b ≠ 168 → b ≠ 169 → ¬ (b = 162 ∧ x = 11) → E b x = D b x := fun b x b1 b2 b3 b4 => by rw [PE, if_neg (by omega), x_up_no b4]; exact eQ b x b1 b2
            have E9 : ∀ x : Nat, x < n → E 169 (x : Int) = T (l.getD x 0) := fun x hx => by rw [PE, if_pos (by omega), x_up_ne (by omega)]; exact q.2.2 x hx
            have e163 : ∀ j, E 163 j = A 163 j := fun j => (Ex _ _ (by omega) (by omega) (by omega) (by omega)).trans (eD j)
            have gl : ∀ x : Nat, x < n → l.getD x 0 < n := fun x hx => by
              have : l.getD x 0 = l[x]'(by rw [inl.1]; exact hx) := by simp [List.getD, List.getElem?_eq_getElem (show x < l.length by rw [inl.1]; exact hx)]
              rw [this]; exact (inl.2.1 _ (List.getElem_mem _)).1
            refine ⟨rfl, B_cong h (fun a k _ q => ?_) (fun k _ _ => e163 k), ⟨?_, by rw [E11]; omega, fun k k0 k1 => ?_⟩, fun _ => ⟨fun k hk => ?_, fun k l2 kl2 hl2 => ?_⟩, by omega, e163⟩
            · unfold u_trace; rw [x_up_ne (by omega), TR.2 _ _ (by omega)]; exact c155 a k q
            · unfold u_trace; rw [x_up_self, TR.2 _ _ (by omega), E11]; exact K2.c
            · rw [E11] at k1
              have := TR.1 k.toNat (by omega)
              rw [Nat.zero_add, show ((k.toNat : Nat) : Int) = k by omega] at this
              have f := E9 k.toNat (by omega)
              rw [show ((k.toNat : Nat) : Int) = k by omega] at f
              unfold u_trace
              rw [x_up_ne (by omega), this, f]
            · rw [E11] at hk
              have hk : k < n := by omega
              rw [E9 k hk, e163]
              refine ⟨hT _ (gl k hk), ?_⟩
              have ov := over_e (A := E) (s := T (l.getD k 0)) (n := n) ((Ex _ _ (by omega) (by omega) (by omega) (by omega)).trans g.c2) (fun x hx => by
                rw [Ex 166 _ (by omega) (by omega) (by omega) (by omega), Ex 165 _ (by omega) (by omega) (by omega) (by omega), ov_cg e163]; exact g.r4 x hx) 13 0 0 (by omega) (by omega) (Or.inl ⟨l.getD k 0, by omega, gl k hk, Ex _ _ (by omega) (by omega) (by omega) (by omega)⟩)
              exact ov
            · rw [E11] at hl2
              have hl2 : l2 < n := by omega
              have hk : k < n := by omega
              rw [E9 k hk, E9 l2 hl2]
              intro z
              have z : D 165 ((l.getD k 0 : Nat) : Int) = D 165 ((l.getD l2 0 : Nat) : Int) := z
              have a1 := gl k hk
              have a2 := gl l2 hl2
              have ne : l.getD k 0 ≠ l.getD l2 0 := by
                have b1 : l.getD k 0 = l[k]'(by rw [inl.1]; exact hk) := by simp [List.getD, List.getElem?_eq_getElem (show k < l.length by rw [inl.1]; exact hk)]
                have b2 : l.getD l2 0 = l[l2]'(by rw [inl.1]; exact hl2) := by simp [List.getD, List.getElem?_eq_getElem (show l2 < l.length by rw [inl.1]; exact hl2)]
                rw [b1, b2]
                exact (List.pairwise_iff_getElem.1 inl.2.2) k l2 _ _ kl2
              rcases Nat.lt_or_ge (l.getD k 0) (l.getD l2 0) with w | w
              · have := g.r5 _ _ w a2; omega
              · have := g.r5 (l.getD l2 0) (l.getD k 0) (by omega) a1; omega
      · rw [g1, if_neg (show ¬ ¬ (0 : Int) = 0 by omega), if_neg (show ¬ ¬ (0 : Int) = 0 by omega)]
        by_cases q : D 162 7 ≤ 7
        · rw [if_pos q, if_pos q]
          rcases g with g | ⟨k, k1, k2⟩
          · omega
          · have WB := wz_bad (a := a) eD k1 k2 (7 - k) 0 (by omega)
            rw [show 7 - k + (k - 0) + 1 = 8 by omega, show ((0 : Nat) : Int) = 0 from rfl] at WB
            rw [WB.1, WB.2]
            exact ⟨rfl, bMD, rMD, fun z => by omega, by omega, eD⟩
        · rw [if_neg q, if_neg q]
          exact ⟨rfl, bMD, rMD, fun z => by omega, by omega, eD⟩
    · rw [if_pos (show 0 < A 163 (1597 + 12 * a) by omega), if_pos (show 0 < A 163 (1597 + 12 * a) by omega), if_neg hc, if_neg hc]
      exact ⟨rfl, h, r, fun z => by omega, by omega, fun j => rfl⟩
  · rw [if_neg ha, if_neg ha, if_neg ha, if_neg ha]
    exact ⟨rfl, h, r, fun z => by omega, by omega, fun j => rfl⟩
