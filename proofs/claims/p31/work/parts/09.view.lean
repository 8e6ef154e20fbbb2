/-! THE WORLD AS THE INTERPRETER SEES IT -/
def x_rf (L : List Nat) (r : Int) : Option Nat := if r < 0 then none else some (L.getD r.toNat 0)
def x_conc (bs : Nat) (L : List Nat) : xV → Value
  | .inl i => .int (Int32.ofInt i)
  | .inr r => if r = -2 then .ref bs else va_rf (x_rf L r)
def x_fv (L : List Nat) (h : xH) (a : Int) (c j : Nat) : Value := if xrf c j = true then va_rf (x_rf L (h.2.1 a j)) else .int (Int32.ofInt (h.2.2 a j))
def x_fs (L : List Nat) (h : xH) (a : Int) (c : Nat) : List Value := (List.range (xnsl c)).map (fun j => x_fv L h a c j)
def x_ent (cy : Nat → ClassId) (L : List Nat) (h : xH) (a : Int) : va_E := if x_kd a < 8 then .inr (x_kd a, x_fs L h a (x_kd a)) else if x_kd a < 10 then .inl (cy (x_kd a), (x_ln a).toNat, .inl (fun j => Int32.ofInt (h.2.2 a j))) else .inl (cy (x_kd a), (x_ln a).toNat, .inr (.inr (.inr (.inr (fun j => x_rf L (h.2.1 a j))))))
def x_ws (cy : Nat → ClassId) (L : List Nat) (h : xH) : va_W := (List.range L.length).map (fun k => (L.getD k 0, x_ent cy L h k))
def x_tys (cy : Nat → ClassId) : List (ClassId × FieldType) := [(cy 8, .int), (cy 9, .boolean), (cy 10, .object "WheelStands$Cart"), (cy 11, .object "WheelStands$Stand"), (cy 12, .object "WheelStands$Town"), (cy 13, .object "WheelStands$Wheel")]
def x_aos : List String := ["WheelStands$Cart", "WheelStands$Stand", "WheelStands$Town", "WheelStands$Wheel"]
def x_in32 (i : Int) : Prop := -2147483648 ≤ i ∧ i < 2147483648
def x_okv (z : Int) : xV → Prop
  | .inl i => x_in32 i
  | .inr r => r < z
def x_Vw (D : va_G) (cy : Nat → ClassId) (A : Nat → Prop) (L : List Nat) (h : xH) (H : Heap) : Prop := (L.length : Int) = h.1 ∧ (∀ a k, x_in32 (h.2.2 a k)) ∧ (∀ a k, -1 ≤ h.2.1 a k ∧ h.2.1 a k < h.1) ∧ va_P D vwCl (x_ws cy L h) H ∧ va_D A (x_ws cy L h)
def x_lr (bs : Nat) (L : List Nat) (ls : Array Slot) (nL : Nat) (als : List xV) : Prop := ls.size = nL ∧ lv_wf ls ∧ als.length = nL ∧ ∀ (i : Nat) (v : xV), als[i]? = some v → v ≠ x_un → ls[i]? = some (Slot.val (x_conc bs L v))
def x_ext (L L' : List Nat) : Prop := ∃ t, L' = L ++ t
def x_Scr (s : State) (A : Nat → Prop) (bs : Nat) (h : xH) : Prop := ∃ (N : Nat) (xs : Nat → Int32), va_X bs N xs s s.heap ∧ bs < s.heap.size ∧ ¬ A bs ∧ (∀ j : Nat, j < N → h.2.2 (-2) j = (xs j).toInt) ∧ h.2.2 (-2) (-1) = N ∧ N < 2147483648
def x_Fr (p : Program) (R : Room) (s : State) (m : MethodId) (args : Array Value) (meth : Method) (c : Code) (D : va_G) (cy : Nat → ClassId) (A : Nat → Prop) (y : Nat) : Prop :=
  y < 182 ∧ p.tables.exec = Jvm.exec ∧ c.code = x_by y ∧ c.maxLocals = x_ml y ∧ s.vm.findClass (x_nm y).cls = some m.cls ∧ (∀ w ∈ lw_tbl, goodWord w = true → w.before args s = true) ∧ (x_st y = 2 → meth.name = "<init>") ∧ va_K D vwCl (x_tys cy) s ∧ (∀ C ∈ x_aos, va_AO C s) ∧ x_dp y ≤ R.frames ∧ x_lc y ≤ R.locals ∧ (∀ q : Nat, s.heap.size ≤ q → A q)
def x_St (s : State) (D : va_G) (cy : Nat → ClassId) (A : Nat → Prop) (bs y CC SS : Nat) (L : List Nat) (h : xH) (H : Heap) (locs : List Loc) (ls : Array Slot) (als ast : List xV) (b : xB) (cells slots : Nat) : Prop :=
  x_Vw D cy A L h H ∧ va_S A s.heap H locs ∧ x_lr bs L ls (x_ml y) als ∧ (∀ v ∈ als, x_okv h.1 v) ∧ (∀ v ∈ ast, x_okv h.1 v) ∧ cells + b.1 = CC ∧ slots + b.2 = SS
/-! numbers -/
theorem x_toInt {i : Int} (h : x_in32 i) : (Int32.ofInt i).toInt = i := Int32.toInt_ofInt_of_le (by have := h.1; simpa using this) (by have := h.2; simpa using this)
theorem x_of (v : Int32) : Int32.ofInt v.toInt = v := Int32.ofInt_toInt v
theorem x_in32_t (v : Int32) : x_in32 v.toInt := ⟨by have := Int32.le_toInt v; simpa using this, by have := Int32.toInt_lt v; simpa using this⟩
theorem x_w_in (x : Int) : x_in32 (x_w x) := by
  unfold x_in32 x_w
  omega
theorem x_w_of (x : Int) : Int32.ofInt (x_w x) = Int32.ofInt x := by
  apply Int32.toInt_inj.mp
  rw [x_toInt (x_w_in x), Int32.toInt_ofInt]
  have e : ((Int32.size : Nat) : Int) = 4294967296 := rfl
  unfold x_w
  rw [Int.bmod_def, e]
  omega
theorem x_w_eq {x : Int} (h : x_in32 x) : x_w x = x := by
  unfold x_in32 at h
  unfold x_w
  omega
theorem x_add (i j : Int) : Int32.ofInt i + Int32.ofInt j = Int32.ofInt (x_w (i + j)) := by
  rw [x_w_of, Int32.ofInt_add]
theorem x_sub (i j : Int) : Int32.ofInt i - Int32.ofInt j = Int32.ofInt (x_w (i - j)) := by
  rw [x_w_of, Int32.ofInt_sub]
theorem x_mul (i j : Int) : Int32.ofInt i * Int32.ofInt j = Int32.ofInt (x_w (i * j)) := by
  rw [x_w_of, Int32.ofInt_mul]
theorem x_neg (i : Int) : -Int32.ofInt i = Int32.ofInt (x_w (-i)) := by
  rw [x_w_of, Int32.ofInt_neg]
theorem x_lt {i j : Int} (hi : x_in32 i) (hj : x_in32 j) : Int32.ofInt i < Int32.ofInt j ↔ i < j := by
  rw [Int32.lt_iff_toInt_lt, x_toInt hi, x_toInt hj]
theorem x_le {i j : Int} (hi : x_in32 i) (hj : x_in32 j) : Int32.ofInt i ≤ Int32.ofInt j ↔ i ≤ j := by
  rw [Int32.le_iff_toInt_le, x_toInt hi, x_toInt hj]
theorem x_eqi {i j : Int} (hi : x_in32 i) (hj : x_in32 j) : Int32.ofInt i = Int32.ofInt j ↔ i = j := by
  rw [← Int32.toInt_inj, x_toInt hi, x_toInt hj]
theorem x_zero : x_in32 0 := by unfold x_in32; omega
theorem x_of0 : Int32.ofInt 0 = 0 := rfl
theorem x_clamp {i : Int} (h : x_in32 i) : (Int32.ofInt i).toNatClampNeg = i.toNat := by
  show (Int32.ofInt i).toInt.toNat = _
  rw [x_toInt h]
theorem x_vpin {i n : Int} (h : x_in32 i) (h0 : 0 ≤ i) (h1 : i < n) : vp_in (Int32.ofInt i) n.toNat := by
  rw [vp_in_iff, x_toInt h]
  omega
/-! references -/
theorem x_getD_ext {L t : List Nat} {k : Nat} (h : k < L.length) : (L ++ t).getD k 0 = L.getD k 0 := by
  simp [List.getD_eq_getElem?_getD, List.getElem?_append_left h]
theorem x_rf_ext {L t : List Nat} {r : Int} (h : r < L.length) : x_rf (L ++ t) r = x_rf L r := by
  unfold x_rf
  by_cases q : r < 0
  · rw [if_pos q, if_pos q]
  · rw [if_neg q, if_neg q, x_getD_ext (by omega)]
theorem x_conc_ext {bs : Nat} {L L' : List Nat} {z : Int} {v : xV} (hz : (L.length : Int) = z) (he : x_ext L L') (h : x_okv z v) : x_conc bs L' v = x_conc bs L v := by
  obtain ⟨t, rfl⟩ := he
  cases v with
  | inl i => rfl
  | inr r =>
    show (if r = -2 then _ else va_rf (x_rf (L ++ t) r)) = if r = -2 then _ else va_rf (x_rf L r)
    rw [x_rf_ext (by rw [hz]; exact h)]
theorem x_map_ext {bs : Nat} {L L' : List Nat} {z : Int} {vs : List xV} (hz : (L.length : Int) = z) (he : x_ext L L') (h : ∀ v ∈ vs, x_okv z v) : vs.map (x_conc bs L') = vs.map (x_conc bs L) :=
  List.map_congr_left fun v hv => x_conc_ext hz he (h v hv)
theorem x_ext_rf (L : List Nat) : x_ext L L := ⟨[], by simp⟩
theorem x_ext_tr {L L1 L2 : List Nat} (h : x_ext L L1) (h2 : x_ext L1 L2) : x_ext L L2 := by
  obtain ⟨t, rfl⟩ := h
  obtain ⟨u, rfl⟩ := h2
  exact ⟨t ++ u, by simp⟩
theorem x_cat (bs : Nat) (L : List Nat) (v : xV) : (x_conc bs L v).category = 1 := by
  cases v with
  | inl i => rfl
  | inr r =>
    show (if r = -2 then Value.ref bs else va_rf (x_rf L r)).category = 1
    by_cases q : r = -2
    · rw [if_pos q]; rfl
    · rw [if_neg q]
      cases x_rf L r <;> rfl
theorem x_ref {bs : Nat} {L : List Nat} {r : Int} (h : 0 ≤ r) : x_conc bs L (.inr r) = .ref (L.getD r.toNat 0) := by
  show (if r = -2 then _ else va_rf (x_rf L r)) = _
  rw [if_neg (by omega)]
  unfold x_rf
  rw [if_neg (by omega)]
  rfl
theorem x_null {bs : Nat} {L : List Nat} {r : Int} (h : r < 0) (h2 : r ≠ -2) : x_conc bs L (.inr r) = .null := by
  show (if r = -2 then _ else va_rf (x_rf L r)) = _
  rw [if_neg h2]
  unfold x_rf
  rw [if_pos h]
  rfl
/-! the cells -/
theorem x_ws_get {cy : Nat → ClassId} {L : List Nat} {h : xH} {r : Int} (h0 : 0 ≤ r) (h1 : r < L.length) : (x_ws cy L h)[r.toNat]? = some (L.getD r.toNat 0, x_ent cy L h r) := by
  unfold x_ws
  rw [List.getElem?_map, List.getElem?_range (by omega)]
  show some (_, x_ent cy L h ((r.toNat : Nat) : Int)) = _
  rw [Int.toNat_of_nonneg h0]
theorem x_ws_set {cy : Nat → ClassId} {L : List Nat} {h h' : xH} {r : Int} {e : va_E} (h0 : 0 ≤ r) (h1 : r < L.length) (he : x_ent cy L h' r = e) (ho : ∀ q : Int, q ≠ r → x_ent cy L h' q = x_ent cy L h q) : (x_ws cy L h).set r.toNat (L.getD r.toNat 0, e) = x_ws cy L h' := by
  apply List.ext_getElem?
  intro k
  by_cases hk : k = r.toNat
  · subst hk
    rw [List.getElem?_set_self (by simp [x_ws]; omega), x_ws_get h0 h1, he]
  · rw [List.getElem?_set_ne (fun q => hk q.symm)]
    unfold x_ws
    rw [List.getElem?_map, List.getElem?_map]
    by_cases hl : k < L.length
    · rw [List.getElem?_range hl]
      simp only [Option.map_some]
      rw [ho k (by omega)]
    · rw [List.getElem?_eq_none (by simp; omega)]
      rfl
theorem x_ent_obj {cy : Nat → ClassId} {L : List Nat} {h : xH} {r : Int} {c : Nat} (hk : x_kd r = c) (hc : c < 8) : x_ent cy L h r = .inr (c, x_fs L h r c) := by
  unfold x_ent
  rw [hk, if_pos hc]
theorem x_ent_int {cy : Nat → ClassId} {L : List Nat} {h : xH} {r : Int} {c : Nat} (hk : x_kd r = c) (hc : ¬ c < 8) (hc2 : c < 10) : x_ent cy L h r = .inl (cy c, (x_ln r).toNat, .inl (fun j => Int32.ofInt (h.2.2 r j))) := by
  unfold x_ent
  rw [hk, if_neg hc, if_pos hc2]
theorem x_ent_ref {cy : Nat → ClassId} {L : List Nat} {h : xH} {r : Int} {c : Nat} (hk : x_kd r = c) (hc2 : ¬ c < 10) : x_ent cy L h r = .inl (cy c, (x_ln r).toNat, .inr (.inr (.inr (.inr (fun j => x_rf L (h.2.1 r j)))))) := by
  unfold x_ent
  rw [hk, if_neg (by omega), if_neg hc2]
theorem x_fs_get {L : List Nat} {h : xH} {a : Int} {c j : Nat} (hj : j < xnsl c) : (x_fs L h a c)[j]? = some (x_fv L h a c j) := by
  unfold x_fs
  rw [List.getElem?_map, List.getElem?_range hj]
  rfl
theorem x_fs_set {L : List Nat} {h h' : xH} {a : Int} {c j : Nat} {v : Value} (hj : j < xnsl c) (hv : x_fv L h' a c j = v) (ho : ∀ i, i ≠ j → x_fv L h' a c i = x_fv L h a c i) : (x_fs L h a c).set j v = x_fs L h' a c := by
  apply List.ext_getElem?
  intro k
  by_cases hk : k = j
  · subst hk
    rw [List.getElem?_set_self (by simp [x_fs]; exact hj), x_fs_get hj, hv]
  · rw [List.getElem?_set_ne (fun q => hk q.symm)]
    unfold x_fs
    rw [List.getElem?_map, List.getElem?_map]
    by_cases hl : k < xnsl c
    · rw [List.getElem?_range hl]
      simp only [Option.map_some]
      rw [ho k hk]
    · rw [List.getElem?_eq_none (by simp; omega)]
      rfl
theorem x_ok_ok {z r : Int} {c : Nat} (h : x_ok z r c = true) : 0 ≤ r ∧ r < z ∧ x_kd r = c := by
  unfold x_ok at h
  simp only [Bool.and_eq_true, decide_eq_true_eq] at h
  exact ⟨h.1.1, h.1.2, h.2⟩
/-! the locals -/
def x_lvs (bs : Nat) (L : List Nat) (als : List xV) : List (Nat × Value) := (als.zipIdx.filter (fun q => decide (q.1 ≠ x_un))).map (fun q => (q.2, x_conc bs L q.1))
theorem x_lvs_mem {bs : Nat} {L : List Nat} {als : List xV} {i : Nat} {w : Value} : (i, w) ∈ x_lvs bs L als ↔ ∃ v, als[i]? = some v ∧ v ≠ x_un ∧ w = x_conc bs L v := by
  unfold x_lvs
  simp only [List.mem_map, List.mem_filter, decide_eq_true_eq, Prod.mk.injEq, Prod.exists]
  constructor
  · rintro ⟨v, j, ⟨h1, h2⟩, rfl, rfl⟩
    exact ⟨v, List.mem_zipIdx_iff_getElem?.mp h1, h2, rfl⟩
  · rintro ⟨v, h1, h2, rfl⟩
    exact ⟨v, i, ⟨List.mem_zipIdx_iff_getElem?.mpr h1, h2⟩, rfl, rfl⟩
theorem x_lr_has {bs : Nat} {L : List Nat} {ls : Array Slot} {nL : Nat} {als : List xV} (h : x_lr bs L ls nL als) : lv_has ls nL (x_lvs bs L als) := by
  refine ⟨h.1, h.2.1, fun q hq => ?_⟩
  obtain ⟨i, w⟩ := q
  obtain ⟨v, h1, h2, rfl⟩ := x_lvs_mem.mp hq
  exact h.2.2.2 i v h1 h2
theorem x_lr_set {bs : Nat} {L : List Nat} {ls ls' : Array Slot} {nL i : Nat} {als : List xV} {v : xV} (h : x_lr bs L ls nL als) (hi : i < als.length) (h' : lv_has ls' nL ((i, x_conc bs L v) :: (x_lvs bs L als).filter (fun q => !(q.1 == i) && !(q.1 + 1 == i && q.2.category == 2)))) : x_lr bs L ls' nL (als.set i v) := by
  refine ⟨h'.1, h'.2.1, by rw [List.length_set]; exact h.2.2.1, fun j w hj hw => ?_⟩
  by_cases q : j = i
  · subst q
    rw [List.getElem?_set_self hi] at hj
    cases hj
    exact h'.2.2 (j, _) List.mem_cons_self
  · rw [List.getElem?_set_ne (fun z => q z.symm)] at hj
    refine h'.2.2 (j, x_conc bs L w) (List.mem_cons_of_mem _ (List.mem_filter.mpr ⟨x_lvs_mem.mpr ⟨w, hj, hw, rfl⟩, ?_⟩))
    simp [q, x_cat]
theorem x_lr_at {bs : Nat} {L : List Nat} {ls : Array Slot} {nL i : Nat} {als : List xV} {v : xV} (h : x_lr bs L ls nL als) (hi : als[i]? = some v) (hv : v ≠ x_un) : ls[i]? = some (.val (x_conc bs L v)) := h.2.2.2 i v hi hv
theorem x_lr_ext {bs : Nat} {L L' : List Nat} {ls : Array Slot} {nL : Nat} {als : List xV} {z : Int} (hz : (L.length : Int) = z) (he : x_ext L L') (ho : ∀ v ∈ als, x_okv z v) (h : x_lr bs L ls nL als) : x_lr bs L' ls nL als :=
  ⟨h.1, h.2.1, h.2.2.1, fun i v hi hv => by rw [x_conc_ext hz he (ho v (List.mem_of_getElem? hi))]; exact h.2.2.2 i v hi hv⟩
