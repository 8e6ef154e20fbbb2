/-! WHAT THE CHECKS GIVE -/
theorem x_wdr (n : Nat) : x_dr n = lw_tbl.drop n := by
  induction n with
  | zero => rfl
  | succ n ih =>
    show (x_dr n).tail = _
    rw [ih, List.tail_drop]
theorem x_wd_ok {n : Nat} {w : Cond} (h : x_wd n w = true) : w ∈ lw_tbl := by
  have h1 : (x_dr n).head? = some w := of_decide_eq_true h
  rw [x_wdr, List.head?_drop] at h1
  exact List.mem_of_getElem? h1
theorem x_mdr (n : Nat) : x_md n = xmt.drop n := by
  induction n with
  | zero => rfl
  | succ n ih =>
    show (x_md n).tail = _
    rw [ih, List.tail_drop]
theorem x_len : xmt.length = 182 := by decide +kernel
theorem x_mem {y : Nat} (h : y < 182) : xmt[y]? = some (x_mi y) := by
  unfold x_mi
  rw [x_mdr, List.headD_eq_head?_getD, List.head?_drop]
  rw [List.getElem?_eq_getElem (by rw [x_len]; exact h)]
  rfl
theorem x_apart7 {q : XM → Bool} {y : Nat} (h : y < 182) (h0 : xmt0.all q = true) (h1 : xmt1.all q = true) (h2 : xmt2.all q = true) (h3 : xmt3.all q = true) (h4 : xmt4.all q = true) (h5 : xmt5.all q = true) (h6 : xmt6.all q = true) : q (x_mi y) = true := by
  have hm := List.mem_of_getElem? (x_mem h)
  unfold xmt at hm
  simp only [List.mem_append] at hm
  rcases hm with hm | hm | hm | hm | hm | hm | hm
  · exact List.all_eq_true.mp h0 _ hm
  · exact List.all_eq_true.mp h1 _ hm
  · exact List.all_eq_true.mp h2 _ hm
  · exact List.all_eq_true.mp h3 _ hm
  · exact List.all_eq_true.mp h4 _ hm
  · exact List.all_eq_true.mp h5 _ hm
  · exact List.all_eq_true.mp h6 _ hm
theorem x_ckA_ok {y : Nat} (h : y < 182) : x_ckA (x_mi y) = true := by
  refine x_apart7 h x_a0 x_a1 x_a2 x_a3 x_a4 x_a5 ?_
  rw [← List.take_append_drop 25 xmt6, List.all_append, x_a6, x_aL]
  rfl
theorem x_ckm_ok {y : Nat} (h : y < 181) : x_ckm (x_mi y) = true := by
  have h2 := x_mem (show y < 182 by omega)
  have e : xmt = (xmt0 ++ (xmt1 ++ (xmt2 ++ (xmt3 ++ (xmt4 ++ (xmt5 ++ (xmt6.take 25))))))) ++ xmt6.drop 25 := by
    unfold xmt
    simp only [List.append_assoc, List.take_append_drop]
  have hl : (xmt0 ++ (xmt1 ++ (xmt2 ++ (xmt3 ++ (xmt4 ++ (xmt5 ++ (xmt6.take 25))))))).length = 181 := by decide +kernel
  rw [e, List.getElem?_append_left (by rw [hl]; exact h)] at h2
  have hm := List.mem_of_getElem? h2
  simp only [List.mem_append] at hm
  rcases hm with hm | hm | hm | hm | hm | hm | hm
  · exact List.all_eq_true.mp x_m0 _ hm
  · exact List.all_eq_true.mp x_m1 _ hm
  · exact List.all_eq_true.mp x_m2 _ hm
  · exact List.all_eq_true.mp x_m3 _ hm
  · exact List.all_eq_true.mp x_m4 _ hm
  · exact List.all_eq_true.mp x_m5 _ hm
  · exact List.all_eq_true.mp x_m6 _ hm
theorem x_ckl_ok (me : XM) (bl : List UInt8) : ∀ (r : List xI) (p : Nat), (r = [] ∨ (x_dec (r.headD x_63)).2.2.2.2 = p) → x_ckl me (bl.drop p) r = true → ∀ k n, r[k]? = some n → x_cki me (bl.drop (x_dec n).2.2.2.2) n (x_dec (r.getD (k + 1) x_63)).2.2.2.2 = true := by
  intro r
  induction r with
  | nil => intro p _ _ k n h; simp at h
  | cons a r ih =>
    intro p hp hc k n hk
    have hp : (x_dec a).2.2.2.2 = p := by
      rcases hp with hp | hp
      · cases hp
      · exact hp
    have hc : (x_cki me (bl.drop p) a (x_dec (r.headD x_63)).2.2.2.2 && (r.isEmpty || decide ((x_dec a).2.2.2.2 ≤ (x_dec (r.headD x_63)).2.2.2.2)) && x_ckl me ((bl.drop p).drop ((x_dec (r.headD x_63)).2.2.2.2 - (x_dec a).2.2.2.2)) r) = true := hc
    simp only [Bool.and_eq_true] at hc
    obtain ⟨⟨h1, h2⟩, h3⟩ := hc
    cases k with
    | zero =>
      simp only [List.getElem?_cons_zero, Option.some.injEq] at hk
      subst hk
      rw [hp]
      have e : (a :: r).getD (0 + 1) x_63 = r.headD x_63 := by cases r <;> rfl
      rw [e]
      exact h1
    | succ k =>
      simp only [List.getElem?_cons_succ] at hk
      have hr : r ≠ [] := by intro q; rw [q] at hk; simp at hk
      have h2 : (x_dec a).2.2.2.2 ≤ (x_dec (r.headD x_63)).2.2.2.2 := by
        simp only [Bool.or_eq_true, List.isEmpty_iff, decide_eq_true_eq] at h2
        exact h2.resolve_left hr
      rw [List.drop_drop, show p + ((x_dec (r.headD x_63)).2.2.2.2 - (x_dec a).2.2.2.2) = (x_dec (r.headD x_63)).2.2.2.2 by omega] at h3
      have := ih _ (Or.inr rfl) h3 k n hk
      have e : (a :: r).getD (k + 1 + 1) x_63 = r.getD (k + 1) x_63 := rfl
      rw [e]
      exact this
theorem x_ck {y k : Nat} (hy : y < 182) (hk : k < (x_cd y).length) : x_ckj (x_nm y).cls (x_rt y) (x_dp y) (x_lc y) (x_st y) (x_rk y) (x_cd y) (x_by y) ((x_by y).data.toList.drop (x_pc y k)) (x_in y k) (x_pc y (k + 1)) = true := by
  have h := x_ckA_ok hy
  unfold x_ckA at h
  simp only [Bool.and_eq_true, Bool.or_eq_true, List.isEmpty_iff, decide_eq_true_eq] at h
  obtain ⟨h1, h2⟩ := h
  have hg : (x_cd y)[k]? = some ((x_cd y).getD k x_63) := by
    rw [List.getD_eq_getElem?_getD, List.getElem?_eq_getElem hk]
    rfl
  have h3 := x_ckl_ok (x_mi y) (x_bw (x_mi y)).data.toList (x_mi y).2.2.2.2.2.2 0 h2 (by rw [List.drop_zero]; exact h1) k _ hg
  exact h3
theorem x_D_ok {bw : ByteArray} {p p2 len : Nat} {i : Instr} (h : x_D (bw.data.toList.drop p) p p2 i len = true) : decode bw p = .ok (i, len) ∧ p2 = p + len := by
  unfold x_D at h
  simp only [Bool.and_eq_true, decide_eq_true_eq] at h
  exact ⟨x_is_ok h.1, h.2⟩
