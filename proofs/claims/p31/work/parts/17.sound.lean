section
variable {l : Launch}
theorem x_ml_ok {u : Nat} {own : String} {t pc p2 : Nat} {f : Nat → Instr} {sf : List UInt8} (h : x_ckL own t u f sf pc p2 = true) : ∃ (pl ix : Nat), t < 181 ∧ x_wd pl (.methodLink own ix (x_nm t)) = true ∧ x_D sf pc p2 (f ix) 3 = true := by
  unfold x_ckL at h
  cases hq : xml[u]? with
  | none => rw [hq] at h; cases h
  | some q =>
    obtain ⟨pl, o, ix, y⟩ := q
    rw [hq] at h
    simp only [Bool.and_eq_true, decide_eq_true_eq] at h
    obtain ⟨⟨rfl, rfl⟩, hD⟩ := h
    have := List.all_eq_true.mp x_mlok _ (List.mem_of_getElem? hq)
    simp only [Bool.and_eq_true, decide_eq_true_eq] at this
    exact ⟨pl, ix, this.2, this.1, hD⟩
theorem x_okv_le {z z' : Int} {v : xV} (h : x_okv z v) (hz : z ≤ z') : x_okv z' v := by
  cases v with
  | inl i => exact h
  | inr r => exact Int.lt_of_lt_of_le (show r < z from h) hz
theorem x_Scr.eq {s : State} {A : Nat → Prop} {bs : Nat} {h h2 : xH} (H : x_Scr s A bs h) (e : ∀ j, h2.2.2 (-2) j = h.2.2 (-2) j) : x_Scr s A bs h2 := by
  obtain ⟨N, xs, h1, h2, h3, h4, h5, h6⟩ := H
  exact ⟨N, xs, h1, h2, h3, fun j hj => (e j).trans (h4 j hj), (e _).trans h5, h6⟩
theorem x_arg_ok {t : Nat} {st : List xV} {b : xB} {h : xH} {q : List xV × List xV} (ha : x_arg t st b h = some q) : (x_np t ≤ st.length ∧ (st.drop (x_np t)).length ≤ 8 ∧ x_mc t ≤ b.1 ∧ x_ms t ≤ b.2 ∧ x_np t ≤ x_ml t ∧ (x_st t = 1 ∨ x_rc h.1 (x_rk t) (st.take (x_np t)).reverse = true)) ∧ q = ((st.take (x_np t)).reverse, st.drop (x_np t)) := by
  unfold x_arg at ha
  by_cases g : (x_np t ≤ st.length ∧ (st.drop (x_np t)).length ≤ 8 ∧ x_mc t ≤ b.1 ∧ x_ms t ≤ b.2 ∧ x_np t ≤ x_ml t ∧ (x_st t = 1 ∨ x_rc h.1 (x_rk t) (st.take (x_np t)).reverse = true))
  · rw [if_pos g] at ha
    cases ha
    exact ⟨g, rfl⟩
  · rw [if_neg g] at ha
    cases ha
set_option maxHeartbeats 1000000 in
theorem x_sound (l : Launch) : ∀ n : Nat, x_Sd l n := by
  intro n
  induction n with
  | zero => intro y k als ast b h v h' hr; cases hr
  | succ n ih =>
    intro y k als ast b h v h' hr p e R s m args below meth c Q D cy A bs CC SS L H locs ls cells slots F hCS S hscr kk
    have hk := x_run_lt hr
    have C0 := x_ck F.1 hk
    have hz : (0 : Int) ≤ h.1 := by rw [← S.1.1]; omega
    have hr0 := hr
    unfold x_run at hr
    cases hi : x_in y k with
    | mk op r =>
    obtain ⟨a, t, u, pc⟩ := r
    have hpc : x_pc y k = pc := by unfold x_pc; rw [hi]
    rw [hi] at hr C0
    rw [hpc] at C0
    dsimp only at hr
    by_cases q1 : 40 ≤ op ∧ op ≤ 42
    · rw [if_pos q1] at hr
      cases ha : x_arg t ast b h with
      | none => rw [ha] at hr; cases hr
      | some q =>
        obtain ⟨as, rest⟩ := q
        rw [ha] at hr
        dsimp only at hr
        cases hr1 : x_run n t 0 (as ++ List.replicate (x_ml t - x_np t) x_un) [] (x_mc t, x_ms t) h with
        | none => rw [hr1] at hr; cases hr
        | some q =>
          obtain ⟨v1, h2⟩ := q
          rw [hr1] at hr
          dsimp only at hr
          obtain ⟨⟨g1, g2, g3, g4, g5, g6⟩, hq⟩ := x_arg_ok ha
          cases hq
          have ho := S.2.2.2.2.1
          have hst : ast = ast.take (x_np t) ++ ast.drop (x_np t) := (List.take_append_drop _ _).symm
          have hoA : ∀ w ∈ (ast.take (x_np t)).reverse, x_okv h.1 w := fun w hw => ho w (List.mem_of_mem_take (List.mem_reverse.mp hw))
          have hoR : ∀ w ∈ ast.drop (x_np t), x_okv h.1 w := fun w hw => ho w (List.mem_of_mem_drop hw)
          have hlen : (ast.take (x_np t)).reverse.length = x_np t := by simp; omega
          generalize has : (ast.take (x_np t)).reverse = as at hr1 hoA hlen g6
          generalize hrest : ast.drop (x_np t) = rest at hr hoR g2
          have hst2 : ast.map (x_conc bs L) = (as.map (x_conc bs L)).reverse ++ rest.map (x_conc bs L) := by
            rw [← has, ← hrest, ← List.map_reverse, List.reverse_reverse, ← List.map_append, List.take_append_drop]
          -- behind the call
          have key : ∀ (L' : List Nat) (H1 : Heap) (locs1 : List Loc), x_ext L L' → x_Vw D cy A L' h2 H1 → va_S A s.heap H1 locs1 → (∀ w ∈ v1, x_okv h2.1 w) → W p l e R s m args below meth c H1 locs1 (cells + x_mc t) (slots + x_ms t) Q (F0 m (x_pc y (k + 1)) ls ((v1.map (x_conc bs L')).toList ++ rest.map (x_conc bs L))) := by
            intro L' H1 locs1 he V1 S1 hv1
            have hzz : h.1 ≤ h2.1 := by
              obtain ⟨tt, rfl⟩ := he
              rw [← S.1.1, ← V1.1]
              simp
              omega
            have S' : x_St s D cy A bs y CC SS L' h2 H1 locs1 ls als (v1.toList ++ rest) (b.1 - x_mc t, b.2 - x_ms t) (cells + x_mc t) (slots + x_ms t) := by
              refine ⟨V1, S1, x_lr_ext S.1.1 he S.2.2.2.1 S.2.2.1, fun w hw => x_okv_le (S.2.2.2.1 w hw) hzz, fun w hw => ?_, ?_, ?_⟩
              · rcases List.mem_append.mp hw with hw | hw
                · exact hv1 w (Option.mem_toList.mp hw)
                · exact x_okv_le (hoR w hw) hzz
              · have := S.2.2.2.2.2.1
                show cells + x_mc t + (b.1 - x_mc t) = CC
                omega
              · have := S.2.2.2.2.2.2
                show slots + x_ms t + (b.2 - x_ms t) = SS
                omega
            have K := ih hr F hCS S' (fun q => (hscr q).eq (x_run_scr n hz hr1).2) (fun L2 H2 locs2 ls2 k2 st2 he2 => kk L2 H2 locs2 ls2 k2 st2 (x_ext_tr he he2))
            refine W.eq ?_ K
            rw [List.map_append, x_map_ext S.1.1 he hoR]
            cases v1 <;> rfl
          obtain ⟨hy, hx, hb, hml, hown, hts, hinit, hK, hAO, hfr, hlo, hA⟩ := id F
          have hts2 : ∀ w ∈ lw_tbl.filter goodWord, w.before args s = true := fun w hw => hts w (List.mem_filter.mp hw).1 (List.mem_filter.mp hw).2
          have SF : CallFix p m c (x_by y) (x_ml y) s args (lw_tbl.filter goodWord) (x_nm y).cls := ⟨hx, hb, hml, hown, hts2⟩
          have hPb : ∀ U : State, U.heap = H → s.WarmedH U.vm → x_Pb D cy A L h U := fun U hU hW => ⟨fun q hq => hA q (Nat.le_trans S.2.1.1 (by rw [← hU]; exact hq)), by rw [hU]; exact S.1, va_K.moved hW.alike hK, fun C hC => va_AO.moved hW.alike (hAO C hC)⟩
          have hroom8 : ((rest.map (x_conc bs L)).map fun v => v.category).sum ≤ 8 := by rw [x_sum]; exact g2
          have hf : cells + x_mc t ≤ R.cells ∧ slots + x_ms t ≤ R.slots := by
            have := S.2.2.2.2.2
            omega
          rw [hpc, hst2]
          rcases (show op = 40 ∨ op = 41 ∨ op = 42 by omega) with rfl | rfl | rfl
          · have C : (x_ckL (x_nm y).cls t u .invokevirtual ((x_by y).data.toList.drop pc) pc (x_pc y (k + 1)) && decide (x_st t = 0) && decide (x_dp t + 1 ≤ x_dp y) && decide (8 + (x_ml t + 11) + x_lc t ≤ x_lc y)) = true := C0
            simp only [Bool.and_eq_true, decide_eq_true_eq] at C
            obtain ⟨⟨⟨C, c0⟩, c1⟩, c2⟩ := C
            obtain ⟨pl, ix, ht, hw, hD⟩ := x_ml_ok C
            obtain ⟨hd, hp⟩ := x_D_ok hD
            obtain ⟨m1, m2, m3, m4, m5, m6, m7, m8⟩ := x_ckm_of ht
            rw [if_neg (by omega), if_neg (by omega)] at m8
            have g6 := g6.resolve_left (by omega)
            cases as with
            | nil => cases g6
            | cons w0 as' =>
              cases w0 with
              | inl i => cases g6
              | inr r =>
                obtain ⟨r0, r1, r2⟩ := x_ok_ok (show x_ok h.1 r (x_rk t) = true from g6)
                have hM := x_met ih ht hr1 hlen g5 D cy A bs L hz hoA
                have hl : r < L.length := by rw [S.1.1]; exact r1
                obtain ⟨q1', -, -, -⟩ := x_cls m2
                have hrecv := va_recv hK S.1.2.2.2.1 q1' ((x_ws_get (cy := cy) (h := h) r0 hl).trans (by rw [x_ent_obj r2 m2]))
                rw [List.map_cons, List.reverse_cons, List.append_assoc, x_ref r0]
                rw [List.map_cons, x_ref r0] at hM
                refine x_back (va_runV (C := (x_nm t).cls) (As := as'.map (x_conc bs L)) (rest := rest.map (x_conc bs L)) SF hM (cwV (x_np t - 1) hts2 (x_GoodIn ?_) rfl rfl rfl ⟨rfl, m5.1, m5.2, m8.2.2.1⟩ ⟨show x_dp t + 1 ≤ R.frames by omega, show 8 + (x_ml t + 11) + x_lc t ≤ R.locals by omega⟩) ⟨x_blind, by rw [m1]; exact hrecv, fun U hU hW => ⟨rfl, hPb U hU hW⟩⟩ rfl (by simp at hlen ⊢; omega) S.2.2.1.1 rfl (lv_room hroom8) hd hf) S.2.1 (fun L' H1 locs1 he V1 S1 hv1 => ?_)
                · intro w hw'
                  rcases List.mem_append.mp hw' with hw' | hw'
                  · simp only [List.mem_cons, List.not_mem_nil, or_false] at hw'
                    rcases hw' with rfl | rfl | rfl | rfl
                    · exact x_in_gw (x_wd_ok hw) rfl
                    · exact x_in_gw m8.2.1 rfl
                    · exact x_in_gw m8.2.2.2.2 rfl
                    · exact x_in_gw m7 rfl
                  · exact x_good_wst ht w hw'
                · rw [← hp]
                  exact key L' H1 locs1 he V1 S1 hv1
          · have C : (x_ckL (x_nm y).cls t u .invokestatic ((x_by y).data.toList.drop pc) pc (x_pc y (k + 1)) && decide (x_st t = 1) && decide (x_dp t + 1 ≤ x_dp y) && decide (8 + (x_ml t + 11) + x_lc t ≤ x_lc y)) = true := C0
            simp only [Bool.and_eq_true, decide_eq_true_eq] at C
            obtain ⟨⟨⟨C, c0⟩, c1⟩, c2⟩ := C
            obtain ⟨pl, ix, ht, hw, hD⟩ := x_ml_ok C
            obtain ⟨hd, hp⟩ := x_D_ok hD
            obtain ⟨m1, m2, m3, m4, m5, m6, m7, m8⟩ := x_ckm_of ht
            rw [if_pos c0] at m8
            have hM := x_met ih ht hr1 hlen g5 D cy A bs L hz hoA
            refine x_back (va_runS (As := as.map (x_conc bs L)) (rest := rest.map (x_conc bs L)) SF hM (va_cwS (x_np t) hts2 (x_GoodIn ?_) rfl rfl rfl ⟨m5.1, m5.2, m8.2⟩ ⟨show x_dp t + 1 ≤ R.frames by omega, show 8 + (x_ml t + 11) + x_lc t ≤ R.locals by omega⟩) ⟨x_blind, fun U hU hW => ⟨rfl, hPb U hU hW⟩⟩ rfl (by simp; omega) S.2.2.1.1 rfl (lv_room hroom8) hd hf) S.2.1 (fun L' H1 locs1 he V1 S1 hv1 => ?_)
            · intro w hw'
              rcases List.mem_append.mp hw' with hw' | hw'
              · simp only [List.mem_cons, List.not_mem_nil, or_false] at hw'
                rcases hw' with rfl | rfl | rfl
                · exact x_in_gw (x_wd_ok hw) rfl
                · exact x_in_gw m8.1 rfl
                · exact x_in_gw m7 rfl
              · exact x_good_wst ht w hw'
            · rw [← hp]
              exact key L' H1 locs1 he V1 S1 hv1
          · have C : (x_ckL (x_nm y).cls t u .invokespecial ((x_by y).data.toList.drop pc) pc (x_pc y (k + 1)) && decide (x_st t = 2) && decide (x_dp t + 1 ≤ x_dp y) && decide (8 + (x_ml t + 11) + x_lc t ≤ x_lc y)) = true := C0
            simp only [Bool.and_eq_true, decide_eq_true_eq] at C
            obtain ⟨⟨⟨C, c0⟩, c1⟩, c2⟩ := C
            obtain ⟨pl, ix, ht, hw, hD⟩ := x_ml_ok C
            obtain ⟨hd, hp⟩ := x_D_ok hD
            obtain ⟨m1, m2, m3, m4, m5, m6, m7, m8⟩ := x_ckm_of ht
            rw [if_neg (by omega), if_pos c0] at m8
            have g6 := g6.resolve_left (by omega)
            cases as with
            | nil => cases g6
            | cons w0 as' =>
              cases w0 with
              | inl i => cases g6
              | inr r =>
                obtain ⟨r0, r1, r2⟩ := x_ok_ok (show x_ok h.1 r (x_rk t) = true from g6)
                have hM := x_met ih ht hr1 hlen g5 D cy A bs L hz hoA
                have hws : x_wst t = Cond.code (x_nm t) (x_by t) (x_ml t) none :: lw_tbl.filter goodWord := by
                  unfold x_wst
                  rw [m8.2.2.2.2]
                  rfl
                rw [List.map_cons, List.reverse_cons, List.append_assoc, x_ref r0]
                rw [List.map_cons, x_ref r0] at hM
                refine x_back (va_runI (As := as'.map (x_conc bs L)) (rest := rest.map (x_conc bs L)) SF hM (cwI (x_np t - 1) hts2 (x_GoodIn (x_good_wst ht)) hws rfl rfl (hts _ m7 rfl) (hts _ (x_wd_ok hw) rfl) (hts _ m8.2.1 rfl) m8.2.2.2.1 ⟨m5.1, m5.2, m8.2.2.1⟩ ⟨show x_dp t + 1 ≤ R.frames by omega, show 8 + (x_ml t + 11) + x_lc t ≤ R.locals by omega⟩) ⟨x_blind, fun U hU hW => ⟨rfl, hPb U hU hW⟩⟩ rfl (by simp at hlen ⊢; omega) S.2.2.1.1 rfl (lv_room hroom8) hd hf) S.2.1 (fun L' H1 locs1 he V1 S1 hv1 => ?_)
                rw [← hp]
                exact key L' H1 locs1 he V1 S1 hv1
    · rw [if_neg q1] at hr
      by_cases q2 : 50 ≤ op ∧ op ≤ 53
      · rw [if_pos q2] at hr
        cases hx : x_ret op ast with
        | none => rw [hx] at hr; cases hr
        | some w =>
          rw [hx] at hr
          cases hr
          have hcs := S.2.2.2.2.2
          exact W.widen (by omega) (by omega) (kk L H locs ls k ast (x_ext_rf L) S.1 S.2.1 ⟨hk, by rw [hi]; exact q2.1, by rw [hi]; exact q2.2, by rw [hi]; exact hx, S.2.2.2.2.1⟩)
      · rw [if_neg q2] at hr
        by_cases q3 : op = 56
        · rw [if_pos q3] at hr
          subst q3
          split at hr
          rotate_left
          · cases hr
          rename_i i st
          split at hr
          rotate_left
          · cases hr
          rename_i h8
          have ho := S.2.2.2.2.1
          have oi : x_in32 i := x_hd ho
          obtain ⟨hy, hx, hb, hml, hown, hts, hinit, hK, hAO, hfr, hlo, hA⟩ := id F
          have hts2 : ∀ w ∈ lw_tbl.filter goodWord, w.before args s = true := fun w hw => hts w (List.mem_filter.mp hw).1 (List.mem_filter.mp hw).2
          have C : (x_ckL (x_nm y).cls t u .invokestatic ((x_by y).data.toList.drop pc) pc (x_pc y (k + 1)) && decide (t = xprC ∨ t = xprM) && decide (x_st t = 1) && decide (x_dp t + 1 ≤ x_dp y) && decide (8 + (x_ml t + 11) + x_lc t ≤ x_lc y)) = true := C0
          simp only [Bool.and_eq_true, decide_eq_true_eq] at C
          obtain ⟨⟨⟨⟨C, cp⟩, c0⟩, c1⟩, c2⟩ := C
          obtain ⟨pl, ix, ht, hw, hD⟩ := x_ml_ok C
          obtain ⟨hd, hp⟩ := x_D_ok hD
          obtain ⟨m1, m2, m3, m4, m5, m6, m7, m8⟩ := x_ckm_of ht
          rw [if_pos c0] at m8
          have hM := x_prim (l := l) h8.2 cp oi D cy A bs L h
          have hmm : x_mc t = 0 ∧ x_ms t = 0 ∧ x_np t = 1 := by
            rcases cp with rfl | rfl
            · exact x_prC0
            · exact x_prM0
          have hcs := S.2.2.2.2.2
          rw [hpc]
          show W p l e R s m args below meth c H locs cells slots Q (F0 m pc ls (.int (Int32.ofInt i) :: st.map (x_conc bs L)))
          refine x_back (va_runS (As := [.int (Int32.ofInt i)]) (rest := st.map (x_conc bs L)) ⟨hx, hb, hml, hown, hts2⟩ hM (va_cwS (own := (x_nm y).cls) 1 hts2 (x_GoodIn ?_) rfl rfl rfl ⟨m5.1, m5.2, by rw [m8.2, hmm.2.2]⟩ ⟨show x_dp t + 1 ≤ R.frames by omega, show 8 + (x_ml t + 11) + x_lc t ≤ R.locals by omega⟩) ⟨x_blind, fun U hU hW => ⟨rfl, fun q hq => hA q (Nat.le_trans S.2.1.1 (by rw [← hU]; exact hq)), by rw [hU]; exact S.1, va_K.moved hW.alike hK, fun C hC => va_AO.moved hW.alike (hAO C hC)⟩⟩ rfl rfl S.2.2.1.1 rfl (lv_room (by rw [x_sum]; exact h8.1)) hd ⟨by omega, by omega⟩) S.2.1 (fun L' H1 locs1 he V1 S1 hv1 => ?_)
          · intro w hw'
            rcases List.mem_append.mp hw' with hw' | hw'
            · simp only [List.mem_cons, List.not_mem_nil, or_false] at hw'
              rcases hw' with rfl | rfl | rfl
              · exact x_in_gw (x_wd_ok hw) rfl
              · exact x_in_gw m8.1 rfl
              · exact x_in_gw m7 rfl
            · exact x_good_wst ht w hw'
          · have S' : x_St s D cy A bs y CC SS L' h H1 locs1 ls als (.inl (x_thou i) :: st) b (cells + x_mc t) (slots + x_ms t) := by
              refine ⟨V1, S1, x_lr_ext S.1.1 he S.2.2.2.1 S.2.2.1, S.2.2.2.1, x_cons (x_thou_in h8.2 i) (x_tls ho), ?_, ?_⟩
              · omega
              · omega
            have K := ih hr F hCS S' hscr (fun L2 H2 locs2 ls2 k2 st2 he2 => kk L2 H2 locs2 ls2 k2 st2 (x_ext_tr he he2))
            refine W.eq ?_ K
            rw [hp, List.map_cons, x_map_ext S.1.1 he (x_tls ho)]
            rfl
        · rw [if_neg q3] at hr
          cases hx : x_stp (op, a, t, u, pc) k als ast b h with
          | none => rw [hx] at hr; cases hr
          | some c' =>
            obtain ⟨k', als', ast', b', h1⟩ := c'
            rw [hx] at hr
            dsimp only at hr
            refine x_step F hk S hCS hscr (c' := (k', als', ast', b', h1)) (by rw [hi]; exact hx) ?_
            intro L' H' locs' ls' cells' slots' he S'
            exact ih hr F hCS S' (fun q => (hscr q).eq (x_scr (y := y) hz hx).2) (fun L2 H2 locs2 ls2 k2 st2 he2 => kk L2 H2 locs2 ls2 k2 st2 (x_ext_tr he he2))
end
