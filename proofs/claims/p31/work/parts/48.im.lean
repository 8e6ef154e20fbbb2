/-! IMAGES OF THE CLASS -/
def y_bs (o : Int) : Prop := o = 1 ∨ ∃ j, 0 ≤ j ∧ o = 170 + 154 * j
theorem y_hb {o : Int} (h : y_bs o) : x_HB o := by
  rcases h with rfl | ⟨j, hj, rfl⟩
  · exact hb_main
  · exact hb_img hj
theorem y_okv_T {o f k v : Int} (h : y_bs o) (hf : 0 ≤ f ∧ f < 154) : y_okv (o + f) k v = y_okt f k v := by
  rcases h with rfl | ⟨j, hj, rfl⟩
  · rw [okv_m (by omega), show 1 + f - 1 = f by omega]
  · unfold y_okv
    rw [if_neg (by omega), if_neg (by omega), if_neg (by omega), show (170 + 154 * j + f - 170) % 154 = f by omega]
theorem y_okt0 {f k : Int} : y_okt f k 0 := by
  simp [y_okt]
theorem y_okT_of {o f k : Int} {M : Int → Int → Int} (hT : ∀ a k, y_okv a k (M a k)) (h : y_bs o) (hf : 0 ≤ f ∧ f < 154) : y_okt f k (M (o + f) k) := by
  have := hT (o + f) k
  rwa [y_okv_T h hf] at this
/-- what is known of a slot of a town is what a copy keeps -/
theorem y_okt_cp {o u f k : Int} {M M0 : Int → Int → Int} (hC : x_C3 o u 3 M M0) (hf : 0 ≤ f ∧ f < 154) (h : y_okt f k (M0 (u + f) k)) : y_okt f k (M (o + f) k) := by
  by_cases f0 : f = 0
  · subst f0
    unfold y_okt at h ⊢
    rw [if_pos rfl] at h ⊢
    have e := hC.1.1.2.2.1
    by_cases k1 : k = 1
    · subst k1; rw [show o + 0 = o by omega, e.1]; rw [show u + 0 = u by omega] at h; exact h
    by_cases k3 : k = 3
    · subst k3; rw [show o + 0 = o by omega, e.2.1]; rw [show u + 0 = u by omega] at h; exact h
    by_cases k5 : k = 5
    · subst k5; rw [show o + 0 = o by omega, e.2.2.1]; rw [show u + 0 = u by omega] at h; exact h
    by_cases k6 : k = 6
    · subst k6; rw [show o + 0 = o by omega, e.2.2.2]; rw [show u + 0 = u by omega] at h; exact h
    rw [if_neg k1, if_neg k3, if_neg k5, if_neg k6]; trivial
  by_cases f1 : f = 1
  · unfold y_okt; rw [if_neg f0, if_pos f1]; trivial
  by_cases f86 : f < 86
  · obtain ⟨s, hs⟩ : ∃ s, s = (f - 2) / 7 := ⟨_, rfl⟩
    have cs := hC.1.1.2.2.2 s (by omega)
    unfold y_okt at h ⊢
    rw [if_neg f0, if_neg f1, if_pos f86] at h ⊢
    by_cases r0 : (f - 2) % 7 = 0
    · rw [if_pos r0] at h ⊢
      rw [show o + f = 2 + 7 * s + o by omega]
      rw [show u + f = 2 + 7 * s + u by omega] at h
      by_cases k1 : k = 1
      · subst k1; rw [cs.1.1]; exact h
      by_cases k5 : k = 5
      · subst k5; rw [cs.1.2.1]; exact h
      by_cases k6 : k = 6
      · subst k6; rw [cs.1.2.2.1]; exact h
      rw [if_neg k1, if_neg k5, if_neg k6]; trivial
    rw [if_neg r0] at h ⊢
    by_cases r1 : (f - 2) % 7 = 1
    · rw [if_pos r1] at h ⊢
      intro hk
      rw [show o + f = 3 + 7 * s + o by omega, cs.2.1 k hk]
      rw [show u + f = 3 + 7 * s + u by omega] at h
      exact h hk
    rw [if_neg r1] at h ⊢
    by_cases r2 : (f - 2) % 7 = 2
    · rw [if_pos r2] at h ⊢
      intro hk
      rw [show o + f = 4 + 7 * s + o by omega, cs.2.2.1 k hk]
      rw [show u + f = 4 + 7 * s + u by omega] at h
      exact h hk
    rw [if_neg r2] at h ⊢
    by_cases r3 : (f - 2) % 7 = 3
    · rw [if_pos r3] at h ⊢
      intro hk
      rw [show o + f = 5 + 7 * s + o by omega, cs.2.2.2.1 k hk]
      rw [show u + f = 5 + 7 * s + u by omega] at h
      exact h hk
    rw [if_neg r3] at h ⊢
    by_cases r4 : (f - 2) % 7 = 4
    · rw [if_pos r4] at h ⊢
      rw [show o + f = 6 + 7 * s + o by omega]
      rw [show u + f = 6 + 7 * s + u by omega] at h
      by_cases k0 : k = 0
      · subst k0; rw [cs.2.2.2.2.1]; exact h
      rw [if_neg k0]; trivial
    rw [if_neg r4] at h ⊢
    intro hk
    by_cases r5 : (f - 2) % 7 = 5
    · rw [show o + f = 7 + 7 * s + o by omega, cs.2.2.2.2.2.1 k hk]
      rw [show u + f = 7 + 7 * s + u by omega] at h
      exact h hk
    · rw [show o + f = 8 + 7 * s + o by omega, cs.2.2.2.2.2.2 k hk]
      rw [show u + f = 8 + 7 * s + u by omega] at h
      exact h hk
  by_cases f862 : f = 86
  · unfold y_okt; rw [if_neg f0, if_neg f1, if_neg f86, if_pos f862]; trivial
  by_cases f147 : f < 147
  · have e := hC.1.2 (f - 87) (by omega)
    by_cases hk : 1 ≤ k ∧ k ≤ 9
    · have e := e k hk
      rw [show 87 + (f - 87) + o = o + f by omega, show 87 + (f - 87) + u = u + f by omega] at e
      rw [e]; exact h
    · unfold y_okt
      rw [if_neg f0, if_neg f1, if_neg f86, if_neg f862, if_pos f147, if_neg (by omega), if_neg (by omega), if_neg (by omega), if_neg (by omega), if_neg (by omega), if_neg (by omega), if_neg (by omega), if_neg (by omega)]
      trivial
  by_cases f1472 : f = 147
  · unfold y_okt; rw [if_neg f0, if_neg f1, if_neg f86, if_neg f862, if_neg f147, if_pos f1472]; trivial
  obtain ⟨c, hc⟩ : ∃ c, c = (f - 148) / 2 := ⟨_, rfl⟩
  have cc := hC.2 c (by omega)
  unfold y_okt at h ⊢
  rw [if_neg f0, if_neg f1, if_neg f86, if_neg f862, if_neg f147, if_neg f1472] at h ⊢
  by_cases r0 : (f - 148) % 2 = 0
  · rw [if_pos r0] at h ⊢
    rw [show o + f = 148 + 2 * c + o by omega]
    rw [show u + f = 148 + 2 * c + u by omega] at h
    by_cases k1 : k = 1
    · subst k1; rw [cc.1.1]; exact h
    by_cases k2 : k = 2
    · subst k2; rw [cc.1.2.1]; exact h
    by_cases k6 : k = 6
    · subst k6; rw [cc.1.2.2.2.2]; exact h
    rw [if_neg k1, if_neg k2, if_neg k6]; trivial
  rw [if_neg r0] at h ⊢
  intro hk
  rw [show o + f = 149 + 2 * c + o by omega, cc.2 k hk]
  rw [show u + f = 149 + 2 * c + u by omega] at h
  exact h hk
theorem y_tcC {o u : Int} {M M0 : Int → Int → Int} (hT : ∀ a k, y_okv a k (M0 a k)) (ho : y_bs o) (hu : y_bs u) (hC : x_C3 o u 3 M M0) : ∀ a k, y_okv a k (M a k) := by
  intro a k
  by_cases h : o ≤ a ∧ a < o + 154
  · have e : a = o + (a - o) := by omega
    rw [e, y_okv_T ho (by omega)]
    exact y_okt_cp hC (by omega) (y_okT_of hT hu (by omega))
  · rw [hC.1.1.1 a k (by omega)]; exact hT a k
theorem y_tz {o : Int} {M : Int → Int → Int} (hT : ∀ a k, y_okv a k (M a k)) (h : y_bs o) : x_TZ o M := by
  refine ⟨fun s hs => ?_, fun w hw => ⟨?_, ?_⟩⟩
  · have q := y_okT_of (f := 6 + 7 * s) (k := 0) hT h (by omega)
    unfold y_okt at q
    rw [if_neg (by omega), if_neg (by omega), if_pos (by omega), if_neg (by omega), if_neg (by omega), if_neg (by omega), if_neg (by omega), if_pos (by omega), if_pos rfl, show o + (6 + 7 * s) = o + 6 + 7 * s by omega] at q
    omega
  · have q := y_okT_of (f := 87 + w) (k := 7) hT h (by omega)
    unfold y_okt at q
    rw [if_neg (by omega), if_neg (by omega), if_neg (by omega), if_neg (by omega), if_pos (by omega), if_neg (by omega), if_neg (by omega), if_neg (by omega), if_neg (by omega), if_neg (by omega), if_pos rfl, show o + (87 + w) = o + 87 + w by omega] at q
    omega
  · have q := y_okT_of (f := 87 + w) (k := 8) hT h (by omega)
    unfold y_okt at q
    rw [if_neg (by omega), if_neg (by omega), if_neg (by omega), if_neg (by omega), if_pos (by omega), if_neg (by omega), if_neg (by omega), if_neg (by omega), if_neg (by omega), if_neg (by omega), if_neg (by omega), if_pos rfl, show o + (87 + w) = o + 87 + w by omega] at q
    omega
/-- the images that there are -/
def y_IM (z : Int) (P M : Int → Int → Int) : Prop := (∃ c : Int, 0 ≤ c ∧ z = 170 + 154 * c) ∧
  (∀ k, 0 ≤ k → k < 4 → P 155 k = -1 ∨ (x_TP (P 155 k) P ∧ x_TM (P 155 k) M ∧ ∃ j, 0 ≤ j ∧ P 155 k = 170 + 154 * j ∧ 324 + 154 * j ≤ z)) ∧
  ∀ k l, 0 ≤ k → k < 4 → 0 ≤ l → l < 4 → k ≠ l → P 155 k ≠ -1 → P 155 k ≠ P 155 l
theorem y_im_fr {z : Int} {P M M' : Int → Int → Int} (h : y_IM z P M) (f : ∀ b j, 170 ≤ b → M' b j = M b j) : y_IM z P M' := by
  refine ⟨h.1, fun k h0 h4 => ?_, h.2.2⟩
  rcases h.2.1 k h0 h4 with q | ⟨q1, q2, j, hj, e, hz⟩
  · exact Or.inl q
  · exact Or.inr ⟨q1, tm_fr q2 (fun b j2 h1 h2 => f b j2 (by omega)), j, hj, e, hz⟩
/-- after image(a) -/
def y_IP (a z : Int) (P M : Int → Int → Int) (z2 : Int) (P2 M2 : Int → Int → Int) : Prop :=
  x_Sh z2 P2 ∧ y_IM z2 P2 M2 ∧ y_TC M2 ∧ (∀ b j, b < 170 → M2 b j = M b j) ∧
  (∀ k, 0 ≤ k → k < 4 → k ≠ a → P2 155 k = P 155 k ∧ (P 155 k ≠ -1 → ∀ f j, 0 ≤ f → f < 154 → M2 (P 155 k + f) j = M (P 155 k + f) j)) ∧
  (0 ≤ a ∧ a < 4 → P2 155 a ≠ -1 ∧ ∃ M3, x_C3 (P2 155 a) 1 3 M2 M3 ∧ ∀ b j, b < 170 → M3 b j = M b j) ∧
  (¬ (0 ≤ a ∧ a < 4) → P2 = P ∧ M2 = M)
set_option maxHeartbeats 2000000 in
theorem k_x_image {z : Int} {P M : Int → Int → Int} (hS : x_Sh z P) (hI : y_IM z P M) (hT : y_TC M) (a : Int) : x_CallR 108 [.inr 0, .inl (a)] (z, P, M) (fun q => ∃ z2 P2 M2, q = (some (.inl (if 0 ≤ a ∧ a < 4 then 1 else 0)), (z2, P2, M2)) ∧ y_IP a z P M z2 P2 M2) := by
  refine e_body (ls0 := [.inr 0, .inl (a)]) xm108 rfl ?_
  refine e_iload (k := 0) (xi108 0) rfl ?_
  have no : ¬ (0 ≤ a ∧ a < 4) → x_Ev 108 5 [.inr 0, .inl (a)] [] (154, 1831) (z, P, M) (fun q => ∃ z2 P2 M2, q = (some (.inl (if 0 ≤ a ∧ a < 4 then 1 else 0)), (z2, P2, M2)) ∧ y_IP a z P M z2 P2 M2) := fun h => by
    refine e_iconst (k := 5) (xi108 5) ?_
    refine e_zret (k := 6) (xi108 6) (by decide) ?_
    rw [if_neg h]
    exact ⟨z, P, M, rfl, hS, hI, hT, fun b j h => rfl, fun k _ _ _ => ⟨rfl, fun _ f j _ _ => rfl⟩, fun q => absurd q h, fun _ => ⟨rfl, rfl⟩⟩
  refine e_z_lt (k := 1) (xi108 1) (fun c0 => no (by omega)) (fun c0 => ?_)
  refine e_iload (k := 2) (xi108 2) rfl ?_
  refine e_iconst (k := 3) (xi108 3) ?_
  refine e_c_lt (k := 4) (xi108 4) (fun c1 => ?_) (fun c1 => no (by omega))
  have ha : 0 ≤ a ∧ a < 4 := ⟨by omega, c1⟩
  rw [if_pos ha]
  refine e_aload (k := 7) (xi108 7) rfl (by decide) ?_
  refine e_getR (j := 1) (w := 155) (k := 8) (xi108 8) (ok_WS hS) rfl (sh_imgs hS) ?_
  refine e_iload (k := 9) (xi108 9) rfl ?_
  obtain ⟨⟨c, hc0, hcz⟩, hIk, hIa⟩ := id hI
  rcases hIk a ha.1 ha.2 with hm | ⟨hTP, hTM, j0, hj0, e0, hz0⟩
  · -- a new town
    refine e_aald (w := -1) (k := 10) (xi108 10) (x_ok4 (ok_imgs hS) (by decide)) (by rw [ln_imgs]; omega) hm ?_
    refine e_ifnonnull (k := 11) (xi108 11) (by omega) (fun q => absurd (by omega) q) (fun _ => ?_)
    refine e_aload (k := 12) (xi108 12) rfl (by decide) ?_
    refine e_getR (j := 1) (w := 155) (k := 13) (xi108 13) (ok_WS hS) rfl (sh_imgs hS) ?_
    refine e_iload (k := 14) (xi108 14) rfl ?_
    have hbz : x_HB z := by rw [hcz]; exact hb_img hc0
    have hkz : x_kd z = 4 := x_kb hbz (i := 0) (by decide) (by omega) (by omega)
    refine e_new (b1 := 153) (b2 := 1824) (u0 := 7) (k := 15) (xi108 15) ⟨hkz, by decide, rfl⟩ ?_
    refine e_dup (k := 16) (xi108 16) ?_
    show x_Ev 108 17 [.inr 0, .inl (a)] [.inr z, .inr z, .inl (a), .inr 155] (153, 1824) (z + 1, x_clr P z (-1), x_clr M z 0) _
    rw [show z + 1 = 1 + z by omega]
    have hZ : y_Z z M (1 + z, x_clr P z (-1), x_clr M z 0) := ⟨by show z ≤ 1 + z; omega, fun b k h1 h2 => Or.inl (by
      have h2 : b < 1 + z := h2
      have : b = z := by omega
      subst this
      exact x_clr_self), fun b k h1 => by
      have h1 : 1 + z ≤ b := h1
      exact x_clr_ne (by omega)⟩
    refine e_callR (k := 17) (c1 := 0) (c2 := 0) (rest := [.inr z, .inl (a), .inr 155]) (as := [.inr z]) (xi108 17) (by decide) xm38 rfl ⟨rfl, Nat.le_of_ble_eq_true rfl, by decide⟩ (Or.inr (x_okt ⟨by omega, by omega, hkz⟩)) (y_zcall (by decide) hZ (c_town (o := z) (P := x_clr P z (-1)) (M := x_clr M z 0) ⟨by omega, hkz⟩ hbz ⟨x_clr_self, x_clr_self, x_clr_self, x_clr_self⟩)) ?_
    rintro v h1 ⟨⟨P1, M1, hq, hT3⟩, hZ1⟩
    cases hq
    show x_Ev 108 18 [.inr 0, .inl (a)] [.inr z, .inl (a), .inr 155] (0, 0) (154 + z, P1, M1) _
    have fP : ∀ b j, b < z → P1 b j = P b j := fun b j h => ((hT3.1.1.2.2.2 b j (by omega)).1).trans (x_clr_ne (by omega))
    have fM : ∀ b j, b < z → M1 b j = M b j := fun b j h => ((hT3.1.1.2.2.2 b j (by omega)).2).trans (x_clr_ne (by omega))
    refine e_aast (k := 18) (xi108 18) ⟨by omega, by omega, (by decide : x_kd 155 = 12), by decide, by decide⟩ (by rw [ln_imgs]; omega) ⟨by omega, by omega, hkz⟩ ?_
    have gP : ∀ b j, b < z → ¬ (b = 155 ∧ j = a) → x_up P1 155 a z b j = P b j := fun b j h1 h2 => (x_up_no h2).trans (fP b j h1)
    have hS2 : x_Sh (154 + z) (x_up P1 155 a z) := by
      refine ⟨by omega, ⟨(gP _ _ (by omega) (by omega)).trans (sh_town hS), (gP _ _ (by omega) (by omega)).trans (sh_imgs hS), (gP _ _ (by omega) (by omega)).trans (sh_tour hS)⟩, tp_fr hS.2.2.1 (fun b j h1 h2 => gP b j (by omega) (by omega)), ⟨(gP _ _ (by omega) (by omega)).trans (sh_t0 hS), (gP _ _ (by omega) (by omega)).trans (sh_t2 hS), (gP _ _ (by omega) (by omega)).trans (sh_t3 hS), (gP _ _ (by omega) (by omega)).trans (sh_t5 hS), (gP _ _ (by omega) (by omega)).trans (sh_t6 hS)⟩, ⟨(gP _ _ (by omega) (by omega)).trans (sh_all hS), (gP _ _ (by omega) (by omega)).trans (sh_has hS), (gP _ _ (by omega) (by omega)).trans (sh_outs hS), (gP _ _ (by omega) (by omega)).trans (sh_over hS), (gP _ _ (by omega) (by omega)).trans (sh_tried hS), (gP _ _ (by omega) (by omega)).trans (sh_best hS), (gP _ _ (by omega) (by omega)).trans (sh_round hS)⟩⟩
    refine e_aload (k := 19) (xi108 19) rfl (by decide) ?_
    refine e_getR (j := 1) (w := 155) (k := 20) (xi108 20) (ok_WS hS2) rfl (sh_imgs hS2) ?_
    refine e_iload (k := 21) (xi108 21) rfl ?_
    refine e_aald (w := z) (k := 22) (xi108 22) (x_ok4 (ok_imgs hS2) (by decide)) (by rw [ln_imgs]; omega) x_up_self ?_
    refine e_aload (k := 23) (xi108 23) rfl (by decide) ?_
    refine e_getR (j := 0) (w := 1) (k := 24) (xi108 24) (ok_WS hS2) rfl (sh_town hS2) ?_
    have bz : y_bs z := Or.inr ⟨c, hc0, hcz⟩
    have hT1 : ∀ b k, y_okv b k (M1 b k) := fun b k => by
      by_cases hb : b < z
      · rw [fM b k hb]; exact hT.1 b k
      · by_cases hb2 : b < 154 + z
        · rw [show b = z + (b - z) by omega, y_okv_T bz (by omega)]
          rcases hZ1.2.1 b k (by omega) hb2 with q | ⟨q1, q2⟩
          · rw [show z + (b - z) = b by omega]
            have q : M1 b k = 0 := q
            rw [q]
            exact y_okt0
          · subst q1
            have hk : x_kd b = x_tk (b - z) := by have := (hbz (b - z) (by omega) (by omega)).1; rwa [show z + (b - z) = b by omega] at this
            rw [hk] at q2
            unfold x_tk at q2
            unfold y_okt
            by_cases g0 : b - z = 0
            · rw [if_pos g0] at q2; omega
            rw [if_neg g0] at q2 ⊢
            by_cases g1 : b - z = 1
            · rw [if_pos g1]; trivial
            rw [if_neg g1] at q2 ⊢
            by_cases g86 : b - z < 86
            · rw [if_pos g86] at q2 ⊢
              by_cases r0 : (b - z - 2) % 7 = 0
              · rw [if_pos r0, if_neg (by omega), if_neg (by omega), if_neg (by omega)]; trivial
              · rw [if_neg r0] at q2
                by_cases r4 : (b - z - 2) % 7 = 4
                · rw [if_pos r4] at q2; omega
                · rw [if_neg r4] at q2; omega
            rw [if_neg g86] at q2 ⊢
            by_cases g862 : b - z = 86
            · rw [if_pos g862]; trivial
            rw [if_neg g862] at q2 ⊢
            by_cases g147 : b - z < 147
            · rw [if_pos g147, if_neg (by omega), if_neg (by omega), if_neg (by omega), if_neg (by omega), if_neg (by omega), if_neg (by omega), if_neg (by omega), if_neg (by omega)]; trivial
            rw [if_neg g147] at q2 ⊢
            by_cases g1472 : b - z = 147
            · rw [if_pos g1472]; trivial
            rw [if_neg g1472] at q2 ⊢
            by_cases r0 : (b - z - 148) % 2 = 0
            · rw [if_pos r0, if_neg (by omega), if_neg (by omega), if_neg (by omega)]; trivial
            · rw [if_neg r0] at q2; omega
        · have := hZ1.2.2 b k (by show 154 + z ≤ b; omega)
          have this : M1 b k = M b k := this
          rw [this]; exact hT.1 b k
    refine e_callR (k := 25) (c1 := 0) (c2 := 0) (rest := []) (as := [.inr z, .inr 1]) (xi108 25) (by decide) xm39 rfl ⟨rfl, Nat.le_of_ble_eq_true rfl, by decide⟩ (Or.inr (x_okt ⟨by omega, by omega, hkz⟩)) (c_copy (z := 154 + z) (o := z) (u := 1) (P := x_up P1 155 a z) (M := M1) ⟨by omega, by omega⟩ ⟨by omega, by omega⟩ hbz hb_main (tp_fr (t3_TP hT3) (fun b j h1 h2 => x_up_ne (by omega))) hS2.2.2.1 (by omega) (y_tz hT1 (Or.inl rfl)) (t3_TM hT3)) ?_
    rintro v h1 ⟨M2, hq, hC⟩
    cases hq
    refine e_iconst (k := 26) (xi108 26) ?_
    refine e_zret (k := 27) (xi108 27) (by decide) ?_
    have f2 : ∀ b j, b < z → M2 b j = M b j := fun b j h => (hC.1.1.1 b j (by omega)).trans (fM b j h)
    refine ⟨_, _, M2, rfl, hS2, ⟨⟨c + 1, by omega, by omega⟩, fun k h0 h4 => ?_, fun k l k0 k4 l0 l4 hkl hne => ?_⟩, ⟨y_tcC hT1 bz (Or.inl rfl) hC, tm_fr hT.2 (fun b j h1 h2 => f2 b j (by omega))⟩, fun b j h => f2 b j (by omega), fun k k0 k4 hka => ⟨gP _ _ (by omega) (by omega), fun hne f j h1 h2 => ?_⟩, fun _ => ⟨by rw [x_up_self]; omega, M1, by rw [x_up_self]; exact hC, fun b j h => fM b j (by omega)⟩, fun q => absurd ha q⟩
    · by_cases hk : k = a
      · subst hk
        rw [x_up_self]
        exact Or.inr ⟨tp_fr (t3_TP hT3) (fun b j h1 h2 => x_up_ne (by omega)), hC.1.1.2.1, c, hc0, hcz, by omega⟩
      · rw [gP 155 k (by omega) (by omega)]
        rcases hIk k h0 h4 with q | ⟨q1, q2, j, hj, e, hz⟩
        · exact Or.inl q
        · exact Or.inr ⟨tp_fr q1 (fun b j2 h1 h2 => gP b j2 (by omega) (by omega)), tm_fr q2 (fun b j2 h1 h2 => f2 b j2 (by omega)), j, hj, e, by omega⟩
    · by_cases hk : k = a
      · subst hk
        rw [x_up_self, gP 155 l (by omega) (by omega)]
        rcases hIk l l0 l4 with q | ⟨q1, q2, j, hj, e, hz⟩
        · omega
        · omega
      · rw [gP 155 k (by omega) (by omega)] at hne ⊢
        by_cases hl : l = a
        · subst hl
          rw [x_up_self]
          rcases hIk k k0 k4 with q | ⟨q1, q2, j, hj, e, hz⟩
          · exact absurd q hne
          · omega
        · rw [gP 155 l (by omega) (by omega)]
          exact hIa k l k0 k4 l0 l4 hkl hne
    · rcases hIk k k0 k4 with q | ⟨q1, q2, j2, hj, e, hz⟩
      · exact absurd q hne
      · exact f2 _ _ (by omega)
  · -- an image that there is
    have bo : y_bs (P 155 a) := Or.inr ⟨j0, hj0, e0⟩
    have hkz : x_kd (P 155 a) = 4 := x_kb (y_hb bo) (i := 0) (by decide) (by omega) (by omega)
    refine e_aald (w := P 155 a) (k := 10) (xi108 10) (x_ok4 (ok_imgs hS) (by decide)) (by rw [ln_imgs]; omega) rfl ?_
    refine e_ifnonnull (k := 11) (xi108 11) (by omega) (fun _ => ?_) (fun q => absurd q (by omega))
    refine e_aload (k := 19) (xi108 19) rfl (by decide) ?_
    refine e_getR (j := 1) (w := 155) (k := 20) (xi108 20) (ok_WS hS) rfl (sh_imgs hS) ?_
    refine e_iload (k := 21) (xi108 21) rfl ?_
    refine e_aald (w := P 155 a) (k := 22) (xi108 22) (x_ok4 (ok_imgs hS) (by decide)) (by rw [ln_imgs]; omega) rfl ?_
    refine e_aload (k := 23) (xi108 23) rfl (by decide) ?_
    refine e_getR (j := 0) (w := 1) (k := 24) (xi108 24) (ok_WS hS) rfl (sh_town hS) ?_
    show x_Ev 108 25 [.inr 0, .inl (a)] [.inr 1, .inr (P 155 a)] (0 + 154, 0 + 1831) (z, P, M) _
    refine e_callR (k := 25) (c1 := 154) (c2 := 1831) (rest := []) (as := [.inr (P 155 a), .inr 1]) (xi108 25) (by decide) xm39 rfl ⟨rfl, Nat.le_of_ble_eq_true rfl, by decide⟩ (Or.inr (x_okt ⟨by omega, by omega, hkz⟩)) (c_copy (z := z) (o := P 155 a) (u := 1) (P := P) (M := M) ⟨by omega, by omega⟩ ⟨by omega, by omega⟩ (y_hb bo) hb_main hTP hS.2.2.1 (by omega) (y_tz hT.1 (Or.inl rfl)) hTM) ?_
    rintro v h1 ⟨M2, hq, hC⟩
    cases hq
    refine e_iconst (k := 26) (xi108 26) ?_
    refine e_zret (k := 27) (xi108 27) (by decide) ?_
    have f2 : ∀ b j, (b < P 155 a ∨ 154 + P 155 a ≤ b) → M2 b j = M b j := fun b j h => hC.1.1.1 b j h
    refine ⟨_, _, M2, rfl, hS, ⟨⟨c, hc0, hcz⟩, fun k h0 h4 => ?_, hIa⟩, ⟨y_tcC hT.1 bo (Or.inl rfl) hC, tm_fr hT.2 (fun b j h1 h2 => f2 b j (by omega))⟩, fun b j h => f2 b j (by omega), fun k k0 k4 hka => ⟨rfl, fun hne f j h1 h2 => ?_⟩, fun _ => ⟨by omega, M, hC, fun b j h => rfl⟩, fun q => absurd ha q⟩
    · by_cases hk : k = a
      · subst hk
        exact Or.inr ⟨hTP, hC.1.1.2.1, j0, hj0, e0, hz0⟩
      · rcases hIk k h0 h4 with q | ⟨q1, q2, j, hj, e, hz⟩
        · exact Or.inl q
        · have := hIa k a h0 h4 ha.1 ha.2 hk (by omega)
          exact Or.inr ⟨q1, tm_fr q2 (fun b j2 h1 h2 => f2 b j2 (by omega)), j, hj, e, hz⟩
    · rcases hIk k k0 k4 with q | ⟨q1, q2, j2, hj, e, hz⟩
      · exact absurd q hne
      · have := hIa k a k0 k4 ha.1 ha.2 hka hne
        exact f2 _ _ (by omega)
theorem k_x_again {z : Int} {P M : Int → Int → Int} (hS : x_Sh z P) (hI : y_IM z P M) (hT : y_TC M) (a : Int) : x_CallR 109 [.inr 0, .inl (a)] (z, P, M) (fun q => ∃ M2, q = (some (.inl (if (0 ≤ a ∧ a < 4) ∧ P 155 a ≠ -1 then 1 else 0)), (z, P, M2)) ∧ y_TL 2 M M2 ∧ ((0 ≤ a ∧ a < 4) ∧ P 155 a ≠ -1 → x_C3 1 (P 155 a) 3 M2 M) ∧ (¬ ((0 ≤ a ∧ a < 4) ∧ P 155 a ≠ -1) → M2 = M)) := by
  refine e_body (ls0 := [.inr 0, .inl (a)]) xm109 rfl ?_
  refine e_iload (k := 0) (xi109 0) rfl ?_
  have no : ¬ ((0 ≤ a ∧ a < 4) ∧ P 155 a ≠ -1) → x_Ev 109 10 [.inr 0, .inl (a)] [] (0, 0) (z, P, M) (fun q => ∃ M2, q = (some (.inl (if (0 ≤ a ∧ a < 4) ∧ P 155 a ≠ -1 then 1 else 0)), (z, P, M2)) ∧ y_TL 2 M M2 ∧ ((0 ≤ a ∧ a < 4) ∧ P 155 a ≠ -1 → x_C3 1 (P 155 a) 3 M2 M) ∧ (¬ ((0 ≤ a ∧ a < 4) ∧ P 155 a ≠ -1) → M2 = M)) := fun h => by
    refine e_iconst (k := 10) (xi109 10) ?_
    refine e_zret (k := 11) (xi109 11) (by decide) ?_
    rw [if_neg h]
    exact ⟨M, rfl, tl_refl hT, fun q => absurd q h, fun _ => rfl⟩
  refine e_z_lt (k := 1) (xi109 1) (fun c0 => no (by omega)) (fun c0 => ?_)
  refine e_iload (k := 2) (xi109 2) rfl ?_
  refine e_iconst (k := 3) (xi109 3) ?_
  refine e_c_ge (k := 4) (xi109 4) (fun c1 => no (by omega)) (fun c1 => ?_)
  have ha : 0 ≤ a ∧ a < 4 := ⟨by omega, by omega⟩
  refine e_aload (k := 5) (xi109 5) rfl (by decide) ?_
  refine e_getR (j := 1) (w := 155) (k := 6) (xi109 6) (ok_WS hS) rfl (sh_imgs hS) ?_
  refine e_iload (k := 7) (xi109 7) rfl ?_
  refine e_aald (w := P 155 a) (k := 8) (xi109 8) (x_ok4 (ok_imgs hS) (by decide)) (by rw [ln_imgs]; omega) rfl ?_
  rcases hI.2.1 a ha.1 ha.2 with hm | ⟨hTP, hTM, j0, hj0, e0, hz0⟩
  · refine e_ifnonnull (k := 9) (xi109 9) (by omega) (fun q => absurd (by omega) q) (fun _ => no (fun q => q.2 hm))
  · have bo : y_bs (P 155 a) := Or.inr ⟨j0, hj0, e0⟩
    rw [if_pos ⟨ha, by omega⟩]
    refine e_ifnonnull (k := 9) (xi109 9) (by omega) (fun _ => ?_) (fun q => absurd q (by omega))
    refine e_aload (k := 12) (xi109 12) rfl (by decide) ?_
    refine e_getR (j := 0) (w := 1) (k := 13) (xi109 13) (ok_WS hS) rfl (sh_town hS) ?_
    refine e_aload (k := 14) (xi109 14) rfl (by decide) ?_
    refine e_getR (j := 1) (w := 155) (k := 15) (xi109 15) (ok_WS hS) rfl (sh_imgs hS) ?_
    refine e_iload (k := 16) (xi109 16) rfl ?_
    refine e_aald (w := P 155 a) (k := 17) (xi109 17) (x_ok4 (ok_imgs hS) (by decide)) (by rw [ln_imgs]; omega) rfl ?_
    refine e_callR (k := 18) (c1 := 0) (c2 := 0) (rest := []) (as := [.inr 1, .inr (P 155 a)]) (xi109 18) (by decide) xm39 rfl ⟨rfl, Nat.le_of_ble_eq_true rfl, by decide⟩ (Or.inr (x_okt (ok_town hS))) (c_copy (z := z) (o := 1) (u := P 155 a) (P := P) (M := M) ⟨by omega, by omega⟩ ⟨by omega, by omega⟩ hb_main (y_hb bo) hS.2.2.1 hTP (by omega) (y_tz hT.1 bo) hT.2) ?_
    rintro v h1 ⟨M2, hq, hC⟩
    cases hq
    refine e_iconst (k := 19) (xi109 19) ?_
    refine e_zret (k := 20) (xi109 20) (by decide) ?_
    exact ⟨M2, rfl, ⟨⟨y_tcC hT.1 (Or.inl rfl) bo hC, hC.1.1.2.1⟩, fun b j q => hC.1.1.1 b j (by rcases q with q | q <;> omega)⟩, fun _ => hC, fun q => absurd ⟨ha, by omega⟩ q⟩
