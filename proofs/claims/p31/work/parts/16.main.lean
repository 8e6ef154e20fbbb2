/-! THE INTERPRETER IS SOUND: calls and returns -/
section
variable {l : Launch}
theorem x_prC0 : x_mc xprC = 0 ∧ x_ms xprC = 0 ∧ x_np xprC = 1 := by decide +kernel
theorem x_prM0 : x_mc xprM = 0 ∧ x_ms xprM = 0 ∧ x_np xprM = 1 := by decide +kernel
theorem x_run_scr : ∀ (n : Nat) {y k : Nat} {als ast : List xV} {b : xB} {h : xH} {v : Option xV} {h' : xH}, 0 ≤ h.1 → x_run n y k als ast b h = some (v, h') → 0 ≤ h'.1 ∧ ∀ j, h'.2.2 (-2) j = h.2.2 (-2) j := by
  intro n
  induction n with
  | zero => intro y k als ast b h v h' _ hr; cases hr
  | succ n ih =>
    intro y k als ast b h v h' hz hr
    unfold x_run at hr
    generalize x_in y k = i at hr
    obtain ⟨op, a, t, u, pc⟩ := i
    dsimp only at hr
    by_cases q1 : 40 ≤ op ∧ op ≤ 42
    · rw [if_pos q1] at hr
      cases ha : x_arg t ast b h with
      | none => rw [ha] at hr; cases hr
      | some q =>
        obtain ⟨as, rest⟩ := q
        rw [ha] at hr
        dsimp only at hr
        cases hr1 : x_run n t 0 (as ++ List.replicate (x_ml t - x_np t) x_un) [] (x_mc t, x_ms t) h with
        | none => rw [hr1] at hr; cases hr
        | some q =>
          obtain ⟨v1, h2⟩ := q
          rw [hr1] at hr
          dsimp only at hr
          obtain ⟨z1, e1⟩ := ih hz hr1
          obtain ⟨z2, e2⟩ := ih z1 hr
          exact ⟨z2, fun j => (e2 j).trans (e1 j)⟩
    · rw [if_neg q1] at hr
      by_cases q2 : 50 ≤ op ∧ op ≤ 53
      · rw [if_pos q2] at hr
        cases hx : x_ret op ast with
        | none => rw [hx] at hr; cases hr
        | some w => rw [hx] at hr; cases hr; exact ⟨hz, fun j => rfl⟩
      · rw [if_neg q2] at hr
        by_cases q3 : op = 56
        · rw [if_pos q3] at hr
          split at hr
          · split at hr
            · exact ih hz hr
            · cases hr
          · cases hr
        · rw [if_neg q3] at hr
          cases hx : x_stp (op, a, t, u, pc) k als ast b h with
          | none => rw [hx] at hr; cases hr
          | some c' =>
            obtain ⟨k', als', ast', b', h1⟩ := c'
            rw [hx] at hr
            dsimp only at hr
            obtain ⟨z1, e1⟩ := x_scr (y := y) hz hx
            obtain ⟨z2, e2⟩ := ih z1 hr
            exact ⟨z2, fun j => (e2 j).trans (e1 j)⟩
def x_Sd (l : Launch) (n : Nat) : Prop := ∀ {y k : Nat} {als ast : List xV} {b : xB} {h : xH} {v : Option xV} {h' : xH}, x_run n y k als ast b h = some (v, h') →
  ∀ {p : Program} {e : Env} {R : Room} {s : State} {m : MethodId} {args : Array Value} {below : List Frame} {meth : Method} {c : Code} {Q : State → Prop} {D : va_G} {cy : Nat → ClassId} {A : Nat → Prop} {bs CC SS : Nat} {L : List Nat} {H : Heap} {locs : List Loc} {ls : Array Slot} {cells slots : Nat},
  x_Fr p R s m args meth c D cy A y → CC ≤ R.cells ∧ SS ≤ R.slots → x_St s D cy A bs y CC SS L h H locs ls als ast b cells slots → (x_rk y = 8 → x_Scr s A bs h) →
  (∀ (L' : List Nat) (H' : Heap) (locs' : List Loc) (ls' : Array Slot) (k' : Nat) (st' : List xV), x_ext L L' → x_Vw D cy A L' h' H' → va_S A s.heap H' locs' → x_Re y k' st' v h' → W p l e R s m args below meth c H' locs' CC SS Q (F0 m (x_pc y k') ls' (st'.map (x_conc bs L')))) →
  W p l e R s m args below meth c H locs cells slots Q (F0 m (x_pc y k) ls (ast.map (x_conc bs L)))
theorem x_ret_ok {op : Nat} {st : List xV} {v : Option xV} (h : x_ret op st = some v) : (op = 50 ∧ ∃ i, st = [.inl i] ∧ v = some (.inl i)) ∨ (op = 51 ∧ ∃ i, st = [.inl i] ∧ v = some (.inl i) ∧ (i = 0 ∨ i = 1)) ∨ (op = 52 ∧ ∃ r, st = [.inr r] ∧ v = some (.inr r) ∧ -1 ≤ r) ∨ ((op ≠ 50 ∧ op ≠ 51 ∧ op ≠ 52) ∧ st = [] ∧ v = none) := by
  unfold x_ret at h
  by_cases q0 : op = 50
  · rw [if_pos q0] at h
    split at h
    · rename_i i
      cases h
      exact Or.inl ⟨q0, i, rfl, rfl⟩
    · cases h
  · rw [if_neg q0] at h
    by_cases q1 : op = 51
    · rw [if_pos q1] at h
      split at h
      · rename_i i
        split at h
        · rename_i g
          cases h
          exact Or.inr (Or.inl ⟨q1, i, rfl, rfl, g⟩)
        · cases h
      · cases h
    · rw [if_neg q1] at h
      by_cases q2 : op = 52
      · rw [if_pos q2] at h
        split at h
        · rename_i r
          split at h
          · rename_i g
            cases h
            exact Or.inr (Or.inr (Or.inl ⟨q2, r, rfl, rfl, g⟩))
          · cases h
        · cases h
      · rw [if_neg q2] at h
        split at h
        · cases h
          exact Or.inr (Or.inr (Or.inr ⟨⟨q0, q1, q2⟩, rfl, rfl⟩))
        · cases h
theorem x_pc0 {y : Nat} (hy : y < 182) (h : 0 < (x_cd y).length) : x_pc y 0 = 0 := by
  have hc := x_ckA_ok hy
  unfold x_ckA at hc
  simp only [Bool.and_eq_true, Bool.or_eq_true, List.isEmpty_iff, decide_eq_true_eq] at hc
  rcases hc.2 with q | q
  · have : (x_cd y) = [] := q
    rw [this] at h
    cases h
  · unfold x_pc x_in
    have e : (x_cd y).getD 0 x_63 = (x_mi y).2.2.2.2.2.2.headD x_63 := by
      show (x_mi y).2.2.2.2.2.2.getD 0 x_63 = _
      cases (x_mi y).2.2.2.2.2.2 <;> rfl
    rw [e]
    exact q
theorem x_run_lt {n y k : Nat} {als ast : List xV} {b : xB} {h : xH} {v : Option xV} {h' : xH} (hr : x_run n y k als ast b h = some (v, h')) : k < (x_cd y).length := by
  cases n with
  | zero => cases hr
  | succ n =>
    apply x_in_lt
    intro q
    unfold x_run at hr
    generalize x_in y k = i at hr q
    obtain ⟨op, a, t, u, pc⟩ := i
    have q : op = 63 := q
    subst q
    cases hr
theorem x_lr0 {bs : Nat} {L : List Nat} {ls : Array Slot} {nL d : Nat} {as : List xV} (hl : lv_has ls nL (lv_args 0 (as.map (x_conc bs L)))) (hn : as.length + d = nL) : x_lr bs L ls nL (as ++ List.replicate d x_un) := by
  have hc : ∀ v ∈ as.map (x_conc bs L), v.category = 1 := fun v hv => by
    obtain ⟨w, -, rfl⟩ := List.mem_map.mp hv
    exact x_cat bs L w
  rw [(x_sl _ hc).2] at hl
  refine ⟨hl.1, hl.2.1, by simp; omega, fun i v hi hv => ?_⟩
  by_cases q : i < as.length
  · rw [List.getElem?_append_left q] at hi
    refine hl.2.2 (i, x_conc bs L v) (List.mem_map.mpr ⟨(x_conc bs L v, i), List.mem_zipIdx_iff_getElem?.mpr ?_, rfl⟩)
    rw [List.getElem?_map, hi]
    rfl
  · rw [List.getElem?_append_right (by omega), List.getElem?_replicate] at hi
    split at hi
    · cases hi
      exact absurd rfl hv
    · cases hi
theorem x_met {n t : Nat} (Sd : x_Sd l n) (ht : t < 181) {as : List xV} {h : xH} {v : Option xV} {h' : xH} (hrun : x_run n t 0 (as ++ List.replicate (x_ml t - x_np t) x_un) [] (x_mc t, x_ms t) h = some (v, h')) (hlen : as.length = x_np t) (hnp : x_np t ≤ x_ml t) (D : va_G) (cy : Nat → ClassId) (A : Nat → Prop) (bs : Nat) (L : List Nat) (hz : 0 ≤ h.1) (hok : ∀ w ∈ as, x_okv h.1 w) : Met l (x_nm t) (x_wst t) (x_rm t) (va_Pc (as.map (x_conc bs L)) (x_Pb D cy A L h)) (x_Qc D cy A bs L v h') (x_mc t) (x_ms t) A := by
  obtain ⟨m1, m2, m3, m4, m5, m6, m7, m8⟩ := x_ckm_of ht
  refine Met.ofW (cc := x_by t) (maxL := x_ml t) (ret := x_rty (x_rt t)) m4 rfl ?_
  intro p e s m args below meth c s₁ B hml hv
  obtain ⟨rfl, hA, V, hK, hAO⟩ := hv
  have hts := atoms_spec (ws := x_wst t) B.pre
  have hx := B.exec
  have hb := B.bytes
  have hr := B.returns
  have hlocks := B.notSynchronized
  have F : x_Fr p (headSpec (x_wst t) (x_rm t)).room s m (as.map (x_conc bs L)).toArray meth c D cy A t :=
    ⟨by omega, hx, hb, hml, findClass_of_methodNamed B.named, fun w hw hg => hts w (List.mem_cons_of_mem _ (List.mem_filter.mpr ⟨hw, hg⟩)), fun q => by
      rw [if_neg (by omega), if_pos q] at m8
      rw [(name_of_methodNamed B.named B.method).1]
      exact m8.2.2.2.1, hK, hAO, Nat.le_refl _, Nat.le_refl _, hA⟩
  have hc : ∀ v ∈ as.map (x_conc bs L), v.category = 1 := fun v hv => by
    obtain ⟨w, -, rfl⟩ := List.mem_map.mp hv
    exact x_cat bs L w
  have hl := lv_entry (as.map (x_conc bs L)) (n := x_ml t) (by rw [(x_sl _ hc).1]; simp; omega)
  rw [lg_entry_eq]
  generalize (lg_sl (as.map (x_conc bs L)) ++ List.replicate (x_ml t - (lg_sl (as.map (x_conc bs L))).length) Slot.unset).toArray = ls at hl ⊢
  have S : x_St s D cy A bs t (x_mc t) (x_ms t) L h s.heap [] ls (as ++ List.replicate (x_ml t - x_np t) x_un) [] (x_mc t, x_ms t) 0 0 := by
    refine ⟨V, va_S.rf, x_lr0 hl (by omega), fun w hw => ?_, fun w hw => (by cases hw), (by simp), (by simp)⟩
    rcases List.mem_append.mp hw with hw | hw
    · exact hok w hw
    · rw [(List.mem_replicate.mp hw).2]
      show (-9 : Int) < h.1
      omega
  have K := Sd hrun F ⟨Nat.le_refl _, Nat.le_refl _⟩ S (fun q => absurd q (by omega)) (e := e) (below := below) (Q := MQ below (x_Qc D cy A bs L v h') (as.map (x_conc bs L)).toArray s (x_mc t) (x_ms t) A) ?_
  · rw [x_pc0 (by omega) (x_run_lt hrun)] at K
    exact K
  · intro L' H' locs' ls' k' st' he hV hS hR
    obtain ⟨r1, r2, r3, r4, r5⟩ := hR
    have C := x_ck (y := t) (by omega) r1
    unfold x_pc at C ⊢
    revert C r2 r3 r4
    generalize x_in t k' = i
    intro r2 r3 r4 C
    obtain ⟨op, a, tt, u, pc⟩ := i
    have hq : ∀ (w : Option Value), w = v.map (x_conc bs L') → ∀ t' : State, t'.heap = H' → s.WarmedH t'.vm → x_Qc D cy A bs L v h' (as.map (x_conc bs L)).toArray s (.returned w) t' := fun w hw t' e1 e2 => by
      refine ⟨⟨L', he, by rw [hw], by rw [e1]; exact hV, fun w' hw' => ?_⟩, hS.F e1⟩
      rcases x_ret_ok r4 with ⟨-, i, h1, h2⟩ | ⟨-, i, h1, h2, -⟩ | ⟨-, i, h1, h2, -⟩ | ⟨-, h1, h2⟩
      · rw [h2] at hw'; cases hw'; exact r5 _ (by rw [h1]; exact List.mem_cons_self)
      · rw [h2] at hw'; cases hw'; exact r5 _ (by rw [h1]; exact List.mem_cons_self)
      · rw [h2] at hw'; cases hw'; exact r5 _ (by rw [h1]; exact List.mem_cons_self)
      · rw [h2] at hw'; cases hw'
    have hf : ∀ q ∈ locs', A q.base := hS.2.2
    rcases x_ret_ok r4 with ⟨ho, i, rfl, rfl⟩ | ⟨ho, i, rfl, rfl, hi⟩ | ⟨ho, r, rfl, rfl, hi⟩ | ⟨ho, rfl, rfl⟩
    · have ho : op = 50 := ho
      subst ho
      have C : (x_is ((x_by t).data.toList.drop pc) .ireturn 1 && decide (x_rt t = 1)) = true := C
      simp only [Bool.and_eq_true, decide_eq_true_eq] at C
      exact W.iret hx hb (by rw [hr, C.2]; rfl) (hq _ rfl) hf (x_is_ok C.1)
    · have ho : op = 51 := ho
      subst ho
      have C : (x_is ((x_by t).data.toList.drop pc) .ireturn 1 && decide (x_rt t = 2)) = true := C
      simp only [Bool.and_eq_true, decide_eq_true_eq] at C
      exact W.zret (ty := .boolean) hx hb (by rw [hr, C.2]; rfl) (by rcases hi with rfl | rfl <;> rfl) (hq _ rfl) hf (x_is_ok C.1)
    · have ho : op = 52 := ho
      subst ho
      have C : (x_is ((x_by t).data.toList.drop pc) .areturn 1 && decide (3 ≤ x_rt t)) = true := C
      simp only [Bool.and_eq_true, decide_eq_true_eq] at C
      have hrt : ∃ n, x_rty (x_rt t) = some (.object n) := by
        unfold x_rty
        rw [if_neg (by omega), if_neg (by omega), if_neg (by omega)]
        split
        · exact ⟨_, rfl⟩
        · split
          · exact ⟨_, rfl⟩
          · exact ⟨_, rfl⟩
      obtain ⟨nm, hnm⟩ := hrt
      refine W.aret (rt := .object nm) hx hb (by rw [hr]; exact hnm) (Or.inl ⟨nm, rfl⟩) ?_ (hq _ rfl) hf (x_is_ok C.1)
      by_cases q : r < 0
      · exact Or.inl (x_null q (by omega))
      · exact Or.inr ⟨_, x_ref (by omega)⟩
    · have ho2 : op = 53 := by
        have r2 : 50 ≤ op := r2
        have r3 : op ≤ 53 := r3
        have ho : op ≠ 50 ∧ op ≠ 51 ∧ op ≠ 52 := ho
        omega
      subst ho2
      have C : (x_is ((x_by t).data.toList.drop pc) .return_ 1 && decide (x_rt t = 0)) = true := C
      simp only [Bool.and_eq_true, decide_eq_true_eq] at C
      exact W.vret hx hb (by rw [hr, C.2]; rfl) (hq _ rfl) hf (x_is_ok C.1)
end
