/-! THE TWO METHODS OVER FLOATS AND LONGS: their contracts -/
theorem y_th2_in {e f : Int} (he : 100 ≤ e ∧ e ≤ 127) (hf : 0 ≤ f ∧ f < 8388608) (h7 : e = 127 → f = 0) : 0 ≤ x_th2 e f ∧ x_th2 e f ≤ 1000 := by
  have hk : 8388608 ≤ (2 : Int) ^ (150 - e).toNat := by
    have := Nat.pow_le_pow_right (n := 2) (by decide) (show 23 ≤ (150 - e).toNat by omega)
    have h : (((2 : Nat) ^ 23 : Nat) : Int) ≤ (((2 : Nat) ^ (150 - e).toNat : Nat) : Int) := Int.ofNat_le.mpr this
    rw [Int.natCast_pow, Int.natCast_pow] at h
    exact h
  have hk2 : ¬ e = 127 → 16777216 ≤ (2 : Int) ^ (150 - e).toNat := fun q => by
    have := Nat.pow_le_pow_right (n := 2) (by decide) (show 24 ≤ (150 - e).toNat by omega)
    have h : (((2 : Nat) ^ 24 : Nat) : Int) ≤ (((2 : Nat) ^ (150 - e).toNat : Nat) : Int) := Int.ofNat_le.mpr this
    rw [Int.natCast_pow, Int.natCast_pow] at h
    exact h
  unfold x_th2
  generalize (2 : Int) ^ (150 - e).toNat = W at hk hk2 ⊢
  have key : ∀ D : Int, D = 512 ∨ D = 1024 → 0 ≤ (if D < 2 * ((8388608 + f) * 1000 % D) ∨ (2 * ((8388608 + f) * 1000 % D) = D ∧ (8388608 + f) * 1000 / D % 2 = 1) then (8388608 + f) * 1000 / D + 1 else (8388608 + f) * 1000 / D) * D ∧ (if D < 2 * ((8388608 + f) * 1000 % D) ∨ (2 * ((8388608 + f) * 1000 % D) = D ∧ (8388608 + f) * 1000 / D % 2 = 1) then (8388608 + f) * 1000 / D + 1 else (8388608 + f) * 1000 / D) * D ≤ (8388608 + f) * 1000 + 1024 := by
    intro D hD
    rcases hD with rfl | rfl <;> split <;> omega
  have k2 := key (if (8388608 + f) * 1000 < 8589934592 then 512 else 1024) (by split <;> omega)
  revert k2
  generalize (if (if (8388608 + f) * 1000 < 8589934592 then (512 : Int) else 1024) < 2 * ((8388608 + f) * 1000 % (if (8388608 + f) * 1000 < 8589934592 then (512 : Int) else 1024)) ∨ (2 * ((8388608 + f) * 1000 % (if (8388608 + f) * 1000 < 8589934592 then (512 : Int) else 1024)) = (if (8388608 + f) * 1000 < 8589934592 then (512 : Int) else 1024) ∧ (8388608 + f) * 1000 / (if (8388608 + f) * 1000 < 8589934592 then (512 : Int) else 1024) % 2 = 1) then (8388608 + f) * 1000 / (if (8388608 + f) * 1000 < 8589934592 then (512 : Int) else 1024) + 1 else (8388608 + f) * 1000 / (if (8388608 + f) * 1000 < 8589934592 then (512 : Int) else 1024)) * (if (8388608 + f) * 1000 < 8589934592 then (512 : Int) else 1024) = N
  intro k2
  refine ⟨Int.ediv_nonneg k2.1 (by omega), ?_⟩
  have h2 : N / W < 1001 := Int.ediv_lt_of_lt_mul (by omega) (by
    by_cases q : e = 127
    · have := h7 q; omega
    · have := hk2 q; omega)
  omega
theorem y_thou_in (v : Int) : -1 ≤ x_thou v ∧ x_thou v ≤ 1000 := by
  unfold x_thou
  by_cases h0 : v < 0
  · rw [if_pos h0]; split <;> omega
  · rw [if_neg h0]
    by_cases h1 : 127 < v / 8388608 ∨ (v / 8388608 = 127 ∧ ¬ v % 8388608 = 0)
    · rw [if_pos h1]; omega
    · rw [if_neg h1]
      by_cases h2 : v / 8388608 < 100
      · rw [if_pos h2]; omega
      · rw [if_neg h2]
        have := y_th2_in (e := v / 8388608) (f := v % 8388608) (by omega) (by omega) (by omega)
        omega
theorem x_thou_in (hpm : x_pm = true) (v : Int) : x_in32 (x_thou v) := by
  have := y_thou_in v
  unfold x_in32
  omega
section
variable {l : Launch}
theorem p_met {t : Nat} (ht : t < 181) (hrt : x_rt t = 1) (hn : x_mc t = 0 ∧ x_ms t = 0) (hml1 : 1 ≤ x_ml t) {v w : Int} (hw : x_in32 w) (D : va_G) (cy : Nat → ClassId) (A : Nat → Prop) (bs : Nat) (L : List Nat) (h : xH)
    (body : ∀ {p : Program} {e : Env} {R : Room} {s : State} {m : MethodId} {args : Array Value} {below : List Frame} {meth : Method} {c : Code} {H : Heap} {locs : List Loc} {cells slots : Nat} {Q : State → Prop} {ls : Array Slot}, p.tables.exec = Jvm.exec → c.code = x_by t → s.vm.findClass (x_nm t).cls = some m.cls → (∀ q ∈ lw_tbl, goodWord q = true → q.before args s = true) → lv_has ls (x_ml t) [(0, .int (Int32.ofInt v))] → (∀ (w' : Int32) (pc : Nat) (ls : Array Slot), decode (x_by t) pc = .ok (.ireturn, 1) → w' = Int32.ofInt w → W p l e R s m args below meth c H locs cells slots Q (F0 m pc ls [.int w'])) → W p l e R s m args below meth c H locs cells slots Q (F0 m 0 ls [])) :
    Met l (x_nm t) (x_wst t) (x_rm t) (va_Pc [.int (Int32.ofInt v)] (x_Pb D cy A L h)) (x_Qc D cy A bs L (some (.inl w)) h) (x_mc t) (x_ms t) A := by
  obtain ⟨m1, m2, m3, m4, m5, m6, m7, m8⟩ := x_ckm_of ht
  rw [hn.1, hn.2]
  refine Met.ofW (cc := x_by t) (maxL := x_ml t) (ret := x_rty (x_rt t)) m4 rfl ?_
  intro p e s m args below meth c s₁ B hml hv
  obtain ⟨rfl, hA, V, hK, hAO⟩ := hv
  have hts := atoms_spec (ws := x_wst t) B.pre
  have hx := B.exec
  have hb := B.bytes
  have hr := B.returns
  have hlocks := B.notSynchronized
  have hl := lv_entry ([.int (Int32.ofInt v)]) (n := x_ml t) (by show 1 ≤ x_ml t; exact hml1)
  rw [lg_entry_eq]
  generalize (lg_sl ([.int (Int32.ofInt v)]) ++ List.replicate (x_ml t - (lg_sl ([.int (Int32.ofInt v)])).length) Slot.unset).toArray = ls at hl ⊢
  refine body hx hb (findClass_of_methodNamed B.named) (fun w hw hg => hts w (List.mem_cons_of_mem _ (List.mem_filter.mpr ⟨hw, hg⟩))) hl (fun w' pc ls' hd hw' => ?_)
  subst hw'
  exact W.iret hx hb (by rw [hr, hrt]; rfl) (fun t' e1 e2 => ⟨⟨L, x_ext_rf L, rfl, by rw [e1]; exact V, fun q hq => by cases hq; exact hw⟩, va_S.rf.F e1⟩) (fun q hq => by cases hq) hd
theorem x_prim (hpm : x_pm = true) {t : Nat} (ht : t = xprC ∨ t = xprM) {v : Int} (hv : x_in32 v) (D : va_G) (cy : Nat → ClassId) (A : Nat → Prop) (bs : Nat) (L : List Nat) (h : xH) : Met l (x_nm t) (x_wst t) (x_rm t) (va_Pc [.int (Int32.ofInt v)] (x_Pb D cy A L h)) (x_Qc D cy A bs L (some (.inl (x_thou v))) h) (x_mc t) (x_ms t) A := by
  have hw := x_thou_in hpm v
  rcases ht with rfl | rfl
  · have e0 := p_miC
    refine p_met (by decide) (by unfold x_rt; show (x_mi 111).2.2.1 = 1; rw [e0]) (by unfold x_mc x_ms; show (x_mi 111).2.2.2.1.2.2.1 = 0 ∧ (x_mi 111).2.2.2.1.2.2.2 = 0; rw [e0]; exact ⟨rfl, rfl⟩) (by unfold x_ml; show 1 ≤ (x_mi 111).2.1; rw [e0]; decide) hw D cy A bs L h ?_
    intro p e R s m args below meth c H locs cells slots Q ls hx hb hown hts hl fin
    have hml : x_ml xprC = 4 := by unfold x_ml; show (x_mi 111).2.1 = 4; rw [e0]
    rw [hml] at hl
    have hown2 : s.vm.findClass "WheelStands" = some m.cls := by
      have : (x_nm xprC).cls = "WheelStands" := by unfold x_nm; show (x_mi 111).1.cls = _; rw [e0]
      rwa [this] at hown
    have hby : x_by xprC = prog_1_method_35_code := p_byC
    rw [hby] at hb fin
    exact p_C hv hx hb hown2 (hts _ (x_wd_ok (n := 428) (by decide +kernel)) rfl) (hts _ (x_wd_ok (n := 429) (by decide +kernel)) rfl) (hts _ (x_wd_ok (n := 430) (by decide +kernel)) rfl) (hts _ (x_wd_ok (n := 431) (by decide +kernel)) rfl) (hts _ (x_wd_ok (n := 432) (by decide +kernel)) rfl) (hts _ (x_wd_ok (n := 433) (by decide +kernel)) rfl) fin hl
  · have e0 := p_miM
    refine p_met (by decide) (by unfold x_rt; show (x_mi 140).2.2.1 = 1; rw [e0]) (by unfold x_mc x_ms; show (x_mi 140).2.2.2.1.2.2.1 = 0 ∧ (x_mi 140).2.2.2.1.2.2.2 = 0; rw [e0]; exact ⟨rfl, rfl⟩) (by unfold x_ml; show 1 ≤ (x_mi 140).2.1; rw [e0]; decide) hw D cy A bs L h ?_
    intro p e R s m args below meth c H locs cells slots Q ls hx hb hown hts hl fin
    have hml : x_ml xprM = 13 := by unfold x_ml; show (x_mi 140).2.1 = 13; rw [e0]
    rw [hml] at hl
    have hown2 : s.vm.findClass "WheelStandsModel" = some m.cls := by
      have : (x_nm xprM).cls = "WheelStandsModel" := by unfold x_nm; show (x_mi 140).1.cls = _; rw [e0]
      rwa [this] at hown
    have hby : x_by xprM = prog_9_method_29_code := p_byM
    rw [hby] at hb fin
    exact p_M hv hx hb hown2 (hts _ (x_wd_ok (n := 902) (by decide +kernel)) rfl) (hts _ (x_wd_ok (n := 903) (by decide +kernel)) rfl) (hts _ (x_wd_ok (n := 904) (by decide +kernel)) rfl) (hts _ (x_wd_ok (n := 905) (by decide +kernel)) rfl) fin hl
end
