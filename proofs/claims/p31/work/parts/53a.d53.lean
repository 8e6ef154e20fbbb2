/-! THE FULL RELATION -/
def y_FS (C A : Int → Int → Int) : Prop := (C 1 1 = A 163 0) ∧ (C 1 3 = A 163 1) ∧ (C 1 5 = A 163 2) ∧ (C 1 6 = A 163 3) ∧ (∀ s, 0 ≤ s → s < 12 → C (3 + 7 * s) 1 = A 163 (10 + 80 * s)) ∧ (∀ s, 0 ≤ s → s < 12 → C (3 + 7 * s) 5 = A 163 (25 + 80 * s)) ∧ (∀ s, 0 ≤ s → s < 12 → C (3 + 7 * s) 6 = A 163 (24 + 80 * s)) ∧ (∀ s, 0 ≤ s → s < 12 → C (3 + 7 * s) 7 = A 163 (23 + 80 * s)) ∧ (∀ s d, 0 ≤ s → s < 12 → 0 ≤ d → d < 12 → d < A 163 (10 + 80 * s) → C (4 + 7 * s) d = A 163 (11 + 80 * s + d)) ∧ (∀ s t, 0 ≤ s → s < 12 → 0 ≤ t → t < 12 → s < A 163 0 → C (5 + 7 * s) t = A 163 (970 + 12 * s + t)) ∧ (∀ s k, 0 ≤ s → s < 12 → 0 ≤ k → k < 8 → C (6 + 7 * s) k = A 163 (26 + 80 * s + k)) ∧ (∀ s, 0 ≤ s → s < 12 → C (7 + 7 * s) 0 = A 163 (34 + 80 * s)) ∧ (∀ s h, 0 ≤ s → s < 12 → 0 ≤ h → h < 24 → C (8 + 7 * s) h = if A 163 (34 + 80 * s) = 0 then 0 else A 163 (35 + 80 * s + h)) ∧ (∀ s h, 0 ≤ s → s < 12 → 0 ≤ h → h < 24 → C (9 + 7 * s) h = if A 163 (34 + 80 * s) = 0 then 0 else A 163 (59 + 80 * s + h))
theorem y_FS.n {C A : Int → Int → Int} (h : y_FS C A) : C 1 1 = A 163 0 := h.1
theorem y_FS.nw {C A : Int → Int → Int} (h : y_FS C A) : C 1 3 = A 163 1 := h.2.1
theorem y_FS.nc {C A : Int → Int → Int} (h : y_FS C A) : C 1 5 = A 163 2 := h.2.2.1
theorem y_FS.hr {C A : Int → Int → Int} (h : y_FS C A) : C 1 6 = A 163 3 := h.2.2.2.1
theorem y_FS.dk {C A : Int → Int → Int} (h : y_FS C A) : ∀ s, 0 ≤ s → s < 12 → C (3 + 7 * s) 1 = A 163 (10 + 80 * s) := h.2.2.2.2.1
theorem y_FS.oc {C A : Int → Int → Int} (h : y_FS C A) : ∀ s, 0 ≤ s → s < 12 → C (3 + 7 * s) 5 = A 163 (25 + 80 * s) := h.2.2.2.2.2.1
theorem y_FS.wa {C A : Int → Int → Int} (h : y_FS C A) : ∀ s, 0 ≤ s → s < 12 → C (3 + 7 * s) 6 = A 163 (24 + 80 * s) := h.2.2.2.2.2.2.1
theorem y_FS.fl {C A : Int → Int → Int} (h : y_FS C A) : ∀ s, 0 ≤ s → s < 12 → C (3 + 7 * s) 7 = A 163 (23 + 80 * s) := h.2.2.2.2.2.2.2.1
theorem y_FS.ct {C A : Int → Int → Int} (h : y_FS C A) : ∀ s d, 0 ≤ s → s < 12 → 0 ≤ d → d < 12 → d < A 163 (10 + 80 * s) → C (4 + 7 * s) d = A 163 (11 + 80 * s + d) := h.2.2.2.2.2.2.2.2.1
theorem y_FS.ln {C A : Int → Int → Int} (h : y_FS C A) : ∀ s t, 0 ≤ s → s < 12 → 0 ≤ t → t < 12 → s < A 163 0 → C (5 + 7 * s) t = A 163 (970 + 12 * s + t) := h.2.2.2.2.2.2.2.2.2.1
theorem y_FS.ot {C A : Int → Int → Int} (h : y_FS C A) : ∀ s k, 0 ≤ s → s < 12 → 0 ≤ k → k < 8 → C (6 + 7 * s) k = A 163 (26 + 80 * s + k) := h.2.2.2.2.2.2.2.2.2.2.1
theorem y_FS.dm {C A : Int → Int → Int} (h : y_FS C A) : ∀ s, 0 ≤ s → s < 12 → C (7 + 7 * s) 0 = A 163 (34 + 80 * s) := h.2.2.2.2.2.2.2.2.2.2.2.1
theorem y_FS.db {C A : Int → Int → Int} (h : y_FS C A) : ∀ s h, 0 ≤ s → s < 12 → 0 ≤ h → h < 24 → C (8 + 7 * s) h = if A 163 (34 + 80 * s) = 0 then 0 else A 163 (35 + 80 * s + h) := h.2.2.2.2.2.2.2.2.2.2.2.2.1
theorem y_FS.dw {C A : Int → Int → Int} (h : y_FS C A) : ∀ s h, 0 ≤ s → s < 12 → 0 ≤ h → h < 24 → C (9 + 7 * s) h = if A 163 (34 + 80 * s) = 0 then 0 else A 163 (59 + 80 * s + h) := h.2.2.2.2.2.2.2.2.2.2.2.2.2
def y_FW (C A : Int → Int → Int) : Prop := (∀ w, 0 ≤ w → w < 60 → C (88 + w) 1 = A 163 (1114 + 8 * w)) ∧ (∀ w, 0 ≤ w → w < 60 → C (88 + w) 2 = A 163 (1115 + 8 * w)) ∧ (∀ w, 0 ≤ w → w < 60 → C (88 + w) 3 = A 163 (1116 + 8 * w)) ∧ (∀ w, 0 ≤ w → w < 60 → C (88 + w) 4 = if A 163 (1116 + 8 * w) = 1 then -1 else A 163 (1117 + 8 * w)) ∧ (∀ w, 0 ≤ w → w < 60 → C (88 + w) 5 = if A 163 (1116 + 8 * w) = 1 then A 163 (1117 + 8 * w) else A 163 (1118 + 8 * w)) ∧ (∀ w, 0 ≤ w → w < 60 → C (88 + w) 7 = if 0 < A 163 (1120 + 8 * w) then 1 else 0) ∧ (∀ w, 0 ≤ w → w < 60 → C (88 + w) 8 = if A 163 (1120 + 8 * w) = 2 then 1 else 0) ∧ (∀ w, 0 ≤ w → w < 60 → C (88 + w) 9 = A 163 (1121 + 8 * w))
theorem y_FW.w0 {C A : Int → Int → Int} (h : y_FW C A) : ∀ w, 0 ≤ w → w < 60 → C (88 + w) 1 = A 163 (1114 + 8 * w) := h.1
theorem y_FW.w1 {C A : Int → Int → Int} (h : y_FW C A) : ∀ w, 0 ≤ w → w < 60 → C (88 + w) 2 = A 163 (1115 + 8 * w) := h.2.1
theorem y_FW.w2 {C A : Int → Int → Int} (h : y_FW C A) : ∀ w, 0 ≤ w → w < 60 → C (88 + w) 3 = A 163 (1116 + 8 * w) := h.2.2.1
theorem y_FW.w3 {C A : Int → Int → Int} (h : y_FW C A) : ∀ w, 0 ≤ w → w < 60 → C (88 + w) 4 = if A 163 (1116 + 8 * w) = 1 then -1 else A 163 (1117 + 8 * w) := h.2.2.2.1
theorem y_FW.w4 {C A : Int → Int → Int} (h : y_FW C A) : ∀ w, 0 ≤ w → w < 60 → C (88 + w) 5 = if A 163 (1116 + 8 * w) = 1 then A 163 (1117 + 8 * w) else A 163 (1118 + 8 * w) := h.2.2.2.2.1
theorem y_FW.w6 {C A : Int → Int → Int} (h : y_FW C A) : ∀ w, 0 ≤ w → w < 60 → C (88 + w) 7 = if 0 < A 163 (1120 + 8 * w) then 1 else 0 := h.2.2.2.2.2.1
theorem y_FW.wn {C A : Int → Int → Int} (h : y_FW C A) : ∀ w, 0 ≤ w → w < 60 → C (88 + w) 8 = if A 163 (1120 + 8 * w) = 2 then 1 else 0 := h.2.2.2.2.2.2.1
theorem y_FW.w7 {C A : Int → Int → Int} (h : y_FW C A) : ∀ w, 0 ≤ w → w < 60 → C (88 + w) 9 = A 163 (1121 + 8 * w) := h.2.2.2.2.2.2.2
def y_FK (C A : Int → Int → Int) : Prop := (∀ c, 0 ≤ c → c < 3 → C (149 + 2 * c) 1 = A 163 (1594 + 12 * c)) ∧ (∀ c, 0 ≤ c → c < 3 → C (149 + 2 * c) 2 = A 163 (1595 + 12 * c)) ∧ (∀ c, 0 ≤ c → c < 3 → C (149 + 2 * c) 4 = A 163 (1596 + 12 * c)) ∧ (∀ c, 0 ≤ c → c < 3 → C (149 + 2 * c) 6 = A 163 (1597 + 12 * c)) ∧ (∀ c k, 0 ≤ c → c < 3 → 0 ≤ k → k < 8 → C (150 + 2 * c) k = A 163 (1598 + 12 * c + k))
theorem y_FK.k0 {C A : Int → Int → Int} (h : y_FK C A) : ∀ c, 0 ≤ c → c < 3 → C (149 + 2 * c) 1 = A 163 (1594 + 12 * c) := h.1
theorem y_FK.k1 {C A : Int → Int → Int} (h : y_FK C A) : ∀ c, 0 ≤ c → c < 3 → C (149 + 2 * c) 2 = A 163 (1595 + 12 * c) := h.2.1
theorem y_FK.k2 {C A : Int → Int → Int} (h : y_FK C A) : ∀ c, 0 ≤ c → c < 3 → C (149 + 2 * c) 4 = A 163 (1596 + 12 * c) := h.2.2.1
theorem y_FK.k3 {C A : Int → Int → Int} (h : y_FK C A) : ∀ c, 0 ≤ c → c < 3 → C (149 + 2 * c) 6 = A 163 (1597 + 12 * c) := h.2.2.2.1
theorem y_FK.kr {C A : Int → Int → Int} (h : y_FK C A) : ∀ c k, 0 ≤ c → c < 3 → 0 ≤ k → k < 8 → C (150 + 2 * c) k = A 163 (1598 + 12 * c + k) := h.2.2.2.2
def y_F (C A : Int → Int → Int) : Prop := y_FS C A ∧ y_FW C A ∧ y_FK C A
theorem y_F.toy_FS {C A : Int → Int → Int} (h : y_F C A) : y_FS C A := h.1
theorem y_F.toy_FW {C A : Int → Int → Int} (h : y_F C A) : y_FW C A := h.2.1
theorem y_F.toy_FK {C A : Int → Int → Int} (h : y_F C A) : y_FK C A := h.2.2
theorem y_F.n {C A : Int → Int → Int} (h : y_F C A) : C 1 1 = A 163 0 := (h.toy_FS).n
theorem y_F.nw {C A : Int → Int → Int} (h : y_F C A) : C 1 3 = A 163 1 := (h.toy_FS).nw
theorem y_F.nc {C A : Int → Int → Int} (h : y_F C A) : C 1 5 = A 163 2 := (h.toy_FS).nc
theorem y_F.hr {C A : Int → Int → Int} (h : y_F C A) : C 1 6 = A 163 3 := (h.toy_FS).hr
theorem y_F.dk {C A : Int → Int → Int} (h : y_F C A) : ∀ s, 0 ≤ s → s < 12 → C (3 + 7 * s) 1 = A 163 (10 + 80 * s) := (h.toy_FS).dk
theorem y_F.oc {C A : Int → Int → Int} (h : y_F C A) : ∀ s, 0 ≤ s → s < 12 → C (3 + 7 * s) 5 = A 163 (25 + 80 * s) := (h.toy_FS).oc
theorem y_F.wa {C A : Int → Int → Int} (h : y_F C A) : ∀ s, 0 ≤ s → s < 12 → C (3 + 7 * s) 6 = A 163 (24 + 80 * s) := (h.toy_FS).wa
theorem y_F.fl {C A : Int → Int → Int} (h : y_F C A) : ∀ s, 0 ≤ s → s < 12 → C (3 + 7 * s) 7 = A 163 (23 + 80 * s) := (h.toy_FS).fl
theorem y_F.ct {C A : Int → Int → Int} (h : y_F C A) : ∀ s d, 0 ≤ s → s < 12 → 0 ≤ d → d < 12 → d < A 163 (10 + 80 * s) → C (4 + 7 * s) d = A 163 (11 + 80 * s + d) := (h.toy_FS).ct
theorem y_F.ln {C A : Int → Int → Int} (h : y_F C A) : ∀ s t, 0 ≤ s → s < 12 → 0 ≤ t → t < 12 → s < A 163 0 → C (5 + 7 * s) t = A 163 (970 + 12 * s + t) := (h.toy_FS).ln
theorem y_F.ot {C A : Int → Int → Int} (h : y_F C A) : ∀ s k, 0 ≤ s → s < 12 → 0 ≤ k → k < 8 → C (6 + 7 * s) k = A 163 (26 + 80 * s + k) := (h.toy_FS).ot
theorem y_F.dm {C A : Int → Int → Int} (h : y_F C A) : ∀ s, 0 ≤ s → s < 12 → C (7 + 7 * s) 0 = A 163 (34 + 80 * s) := (h.toy_FS).dm
theorem y_F.db {C A : Int → Int → Int} (h : y_F C A) : ∀ s h, 0 ≤ s → s < 12 → 0 ≤ h → h < 24 → C (8 + 7 * s) h = if A 163 (34 + 80 * s) = 0 then 0 else A 163 (35 + 80 * s + h) := (h.toy_FS).db
theorem y_F.dw {C A : Int → Int → Int} (h : y_F C A) : ∀ s h, 0 ≤ s → s < 12 → 0 ≤ h → h < 24 → C (9 + 7 * s) h = if A 163 (34 + 80 * s) = 0 then 0 else A 163 (59 + 80 * s + h) := (h.toy_FS).dw
theorem y_F.w0 {C A : Int → Int → Int} (h : y_F C A) : ∀ w, 0 ≤ w → w < 60 → C (88 + w) 1 = A 163 (1114 + 8 * w) := (h.toy_FW).w0
theorem y_F.w1 {C A : Int → Int → Int} (h : y_F C A) : ∀ w, 0 ≤ w → w < 60 → C (88 + w) 2 = A 163 (1115 + 8 * w) := (h.toy_FW).w1
theorem y_F.w2 {C A : Int → Int → Int} (h : y_F C A) : ∀ w, 0 ≤ w → w < 60 → C (88 + w) 3 = A 163 (1116 + 8 * w) := (h.toy_FW).w2
theorem y_F.w3 {C A : Int → Int → Int} (h : y_F C A) : ∀ w, 0 ≤ w → w < 60 → C (88 + w) 4 = if A 163 (1116 + 8 * w) = 1 then -1 else A 163 (1117 + 8 * w) := (h.toy_FW).w3
theorem y_F.w4 {C A : Int → Int → Int} (h : y_F C A) : ∀ w, 0 ≤ w → w < 60 → C (88 + w) 5 = if A 163 (1116 + 8 * w) = 1 then A 163 (1117 + 8 * w) else A 163 (1118 + 8 * w) := (h.toy_FW).w4
theorem y_F.w6 {C A : Int → Int → Int} (h : y_F C A) : ∀ w, 0 ≤ w → w < 60 → C (88 + w) 7 = if 0 < A 163 (1120 + 8 * w) then 1 else 0 := (h.toy_FW).w6
theorem y_F.wn {C A : Int → Int → Int} (h : y_F C A) : ∀ w, 0 ≤ w → w < 60 → C (88 + w) 8 = if A 163 (1120 + 8 * w) = 2 then 1 else 0 := (h.toy_FW).wn
theorem y_F.w7 {C A : Int → Int → Int} (h : y_F C A) : ∀ w, 0 ≤ w → w < 60 → C (88 + w) 9 = A 163 (1121 + 8 * w) := (h.toy_FW).w7
theorem y_F.k0 {C A : Int → Int → Int} (h : y_F C A) : ∀ c, 0 ≤ c → c < 3 → C (149 + 2 * c) 1 = A 163 (1594 + 12 * c) := (h.toy_FK).k0
theorem y_F.k1 {C A : Int → Int → Int} (h : y_F C A) : ∀ c, 0 ≤ c → c < 3 → C (149 + 2 * c) 2 = A 163 (1595 + 12 * c) := (h.toy_FK).k1
theorem y_F.k2 {C A : Int → Int → Int} (h : y_F C A) : ∀ c, 0 ≤ c → c < 3 → C (149 + 2 * c) 4 = A 163 (1596 + 12 * c) := (h.toy_FK).k2
theorem y_F.k3 {C A : Int → Int → Int} (h : y_F C A) : ∀ c, 0 ≤ c → c < 3 → C (149 + 2 * c) 6 = A 163 (1597 + 12 * c) := (h.toy_FK).k3
theorem y_F.kr {C A : Int → Int → Int} (h : y_F C A) : ∀ c k, 0 ≤ c → c < 3 → 0 ≤ k → k < 8 → C (150 + 2 * c) k = A 163 (1598 + 12 * c + k) := (h.toy_FK).kr
/-- what a wheel of this kind takes on a cart's k-th place -/
def y_s1 (A : Int → Int → Int) (c k : Int) : Int := if k < A 163 (1597 + 12 * c) then (if A 163 (1114 + 8 * A 163 (1598 + 12 * c + k)) = 2 then 2 else 1) else 0
def y_tk (A : Int → Int → Int) (c : Int) : Int := y_s1 A c 0 + y_s1 A c 1 + y_s1 A c 2 + y_s1 A c 3 + y_s1 A c 4 + y_s1 A c 5 + y_s1 A c 6 + y_s1 A c 7
def y_FT (C A : Int → Int → Int) : Prop := ∀ c, 0 ≤ c → c < 3 → C (149 + 2 * c) 3 = y_tk A c ∧ (c < A 163 2 → y_tk A c ≤ A 163 (1594 + 12 * c))
/-- what holds of the model's row -/
def y_IS (A : Int → Int → Int) : Prop := (0 ≤ A 163 0 ∧ A 163 0 ≤ 12) ∧ (0 ≤ A 163 1 ∧ A 163 1 ≤ 60) ∧ (0 ≤ A 163 2 ∧ A 163 2 ≤ 3) ∧ (0 ≤ A 163 3 ∧ A 163 3 < 24) ∧ (∀ s, 0 ≤ s → s < 12 → s < A 163 0 → 2 ≤ A 163 (10 + 80 * s) ∧ A 163 (10 + 80 * s) ≤ 12) ∧ (∀ s, 0 ≤ s → s < 12 → A 163 0 ≤ s → A 163 (23 + 80 * s) = 0 ∧ A 163 (34 + 80 * s) = 0) ∧ (∀ s t, 0 ≤ s → s < 12 → 0 ≤ t → t < 12 → A 163 0 ≤ s → A 163 (970 + 12 * s + t) = if s = t then 0 else 999) ∧ (∀ s t, 0 ≤ s → s < 12 → 0 ≤ t → t < 12 → 0 ≤ A 163 (970 + 12 * s + t) ∧ A 163 (970 + 12 * s + t) ≤ 999) ∧ (∀ s, 0 ≤ s → s < 12 → s < A 163 0 → -1 ≤ A 163 (25 + 80 * s) ∧ A 163 (25 + 80 * s) ≤ 8) ∧ (∀ s k, 0 ≤ s → s < 12 → 0 ≤ k → k < 8 → s < A 163 0 → k < A 163 (25 + 80 * s) → 0 ≤ A 163 (26 + 80 * s + k) ∧ A 163 (26 + 80 * s + k) < A 163 0) ∧ (∀ s, 0 ≤ s → s < 12 → s < A 163 0 → -1 ≤ A 163 (24 + 80 * s) ∧ A 163 (24 + 80 * s) ≤ 12) ∧ (∀ s, 0 ≤ s → s < 12 → A 163 (34 + 80 * s) = 0 ∨ A 163 (34 + 80 * s) = 1) ∧ (∀ s i, 0 ≤ s → s < 12 → 0 ≤ i → i < 48 → A 163 (34 + 80 * s) = 1 → 0 ≤ A 163 (35 + 80 * s + i) ∧ A 163 (35 + 80 * s + i) ≤ 99)
theorem y_IS.n {A : Int → Int → Int} (h : y_IS A) : 0 ≤ A 163 0 ∧ A 163 0 ≤ 12 := h.1
theorem y_IS.nw {A : Int → Int → Int} (h : y_IS A) : 0 ≤ A 163 1 ∧ A 163 1 ≤ 60 := h.2.1
theorem y_IS.nc {A : Int → Int → Int} (h : y_IS A) : 0 ≤ A 163 2 ∧ A 163 2 ≤ 3 := h.2.2.1
theorem y_IS.hr {A : Int → Int → Int} (h : y_IS A) : 0 ≤ A 163 3 ∧ A 163 3 < 24 := h.2.2.2.1
theorem y_IS.dk {A : Int → Int → Int} (h : y_IS A) : ∀ s, 0 ≤ s → s < 12 → s < A 163 0 → 2 ≤ A 163 (10 + 80 * s) ∧ A 163 (10 + 80 * s) ≤ 12 := h.2.2.2.2.1
theorem y_IS.de {A : Int → Int → Int} (h : y_IS A) : ∀ s, 0 ≤ s → s < 12 → A 163 0 ≤ s → A 163 (23 + 80 * s) = 0 ∧ A 163 (34 + 80 * s) = 0 := h.2.2.2.2.2.1
theorem y_IS.dl {A : Int → Int → Int} (h : y_IS A) : ∀ s t, 0 ≤ s → s < 12 → 0 ≤ t → t < 12 → A 163 0 ≤ s → A 163 (970 + 12 * s + t) = if s = t then 0 else 999 := h.2.2.2.2.2.2.1
theorem y_IS.ln {A : Int → Int → Int} (h : y_IS A) : ∀ s t, 0 ≤ s → s < 12 → 0 ≤ t → t < 12 → 0 ≤ A 163 (970 + 12 * s + t) ∧ A 163 (970 + 12 * s + t) ≤ 999 := h.2.2.2.2.2.2.2.1
theorem y_IS.oc {A : Int → Int → Int} (h : y_IS A) : ∀ s, 0 ≤ s → s < 12 → s < A 163 0 → -1 ≤ A 163 (25 + 80 * s) ∧ A 163 (25 + 80 * s) ≤ 8 := h.2.2.2.2.2.2.2.2.1
theorem y_IS.os {A : Int → Int → Int} (h : y_IS A) : ∀ s k, 0 ≤ s → s < 12 → 0 ≤ k → k < 8 → s < A 163 0 → k < A 163 (25 + 80 * s) → 0 ≤ A 163 (26 + 80 * s + k) ∧ A 163 (26 + 80 * s + k) < A 163 0 := h.2.2.2.2.2.2.2.2.2.1
theorem y_IS.wa {A : Int → Int → Int} (h : y_IS A) : ∀ s, 0 ≤ s → s < 12 → s < A 163 0 → -1 ≤ A 163 (24 + 80 * s) ∧ A 163 (24 + 80 * s) ≤ 12 := h.2.2.2.2.2.2.2.2.2.2.1
theorem y_IS.dm {A : Int → Int → Int} (h : y_IS A) : ∀ s, 0 ≤ s → s < 12 → A 163 (34 + 80 * s) = 0 ∨ A 163 (34 + 80 * s) = 1 := h.2.2.2.2.2.2.2.2.2.2.2.1
theorem y_IS.db {A : Int → Int → Int} (h : y_IS A) : ∀ s i, 0 ≤ s → s < 12 → 0 ≤ i → i < 48 → A 163 (34 + 80 * s) = 1 → 0 ≤ A 163 (35 + 80 * s + i) ∧ A 163 (35 + 80 * s + i) ≤ 99 := h.2.2.2.2.2.2.2.2.2.2.2.2
def y_IW (A : Int → Int → Int) : Prop := (∀ s d, 0 ≤ s → s < 12 → 0 ≤ d → d < 12 → s < A 163 0 → d < A 163 (10 + 80 * s) → -2 ≤ A 163 (11 + 80 * s + d) ∧ A 163 (11 + 80 * s + d) < A 163 1) ∧ (∀ s d w, 0 ≤ s → s < 12 → 0 ≤ d → d < 12 → 0 ≤ w → w < 60 → s < A 163 0 → d < A 163 (10 + 80 * s) → A 163 (11 + 80 * s + d) = w → A 163 (1116 + 8 * w) = 0 ∧ A 163 (1117 + 8 * w) = s ∧ A 163 (1118 + 8 * w) ≤ d ∧ d < A 163 (1118 + 8 * w) + (if A 163 (1114 + 8 * w) = 2 then 2 else 1)) ∧ (∀ w, 0 ≤ w → w < 60 → w < A 163 1 → (0 ≤ A 163 (1114 + 8 * w) ∧ A 163 (1114 + 8 * w) ≤ 3) ∧ (0 ≤ A 163 (1116 + 8 * w) ∧ A 163 (1116 + 8 * w) ≤ 3) ∧ 0 ≤ A 163 (1115 + 8 * w) ∧ A 163 (1115 + 8 * w) ≤ 1000) ∧ (∀ w, 0 ≤ w → w < 60 → w < A 163 1 → A 163 (1116 + 8 * w) = 0 → (0 ≤ A 163 (1117 + 8 * w) ∧ A 163 (1117 + 8 * w) < 12) ∧ (0 ≤ A 163 (1118 + 8 * w) ∧ A 163 (1118 + 8 * w) + (if A 163 (1114 + 8 * w) = 2 then 2 else 1) ≤ 12) ∧ A 163 (1118 + 8 * w) + (if A 163 (1114 + 8 * w) = 2 then 2 else 1) ≤ A 163 (10 + 80 * A 163 (1117 + 8 * w)) ∧ A 163 (11 + 80 * A 163 (1117 + 8 * w) + A 163 (1118 + 8 * w)) = w ∧ (A 163 (1114 + 8 * w) = 2 → A 163 (12 + 80 * A 163 (1117 + 8 * w) + A 163 (1118 + 8 * w)) = w)) ∧ (∀ w, 0 ≤ w → w < 60 → w < A 163 1 → A 163 (1116 + 8 * w) ≠ 1 → 0 ≤ A 163 (1117 + 8 * w) ∧ A 163 (1117 + 8 * w) < A 163 0) ∧ (∀ w, 0 ≤ w → w < 60 → w < A 163 1 → A 163 (1116 + 8 * w) ≠ 0 → A 163 (1118 + 8 * w) = -1) ∧ (∀ w, 0 ≤ w → w < 60 → w < A 163 1 → A 163 (1121 + 8 * w) = -1 ∨ (A 163 (1116 + 8 * w) = 2 ∧ (0 ≤ A 163 (1121 + 8 * w) ∧ A 163 (1121 + 8 * w) < 60) ∧ A 163 (1121 + 8 * w) < A 163 1 ∧ A 163 (1116 + 8 * A 163 (1121 + 8 * w)) = 2 ∧ A 163 (1121 + 8 * A 163 (1121 + 8 * w)) = w ∧ (A 163 (1114 + 8 * w) = 3 ↔ ¬ A 163 (1114 + 8 * A 163 (1121 + 8 * w)) = 3))) ∧ (∀ w, 0 ≤ w → w < 60 → 0 ≤ A 163 (1120 + 8 * w))
theorem y_IW.cr {A : Int → Int → Int} (h : y_IW A) : ∀ s d, 0 ≤ s → s < 12 → 0 ≤ d → d < 12 → s < A 163 0 → d < A 163 (10 + 80 * s) → -2 ≤ A 163 (11 + 80 * s + d) ∧ A 163 (11 + 80 * s + d) < A 163 1 := h.1
theorem y_IW.ct {A : Int → Int → Int} (h : y_IW A) : ∀ s d w, 0 ≤ s → s < 12 → 0 ≤ d → d < 12 → 0 ≤ w → w < 60 → s < A 163 0 → d < A 163 (10 + 80 * s) → A 163 (11 + 80 * s + d) = w → A 163 (1116 + 8 * w) = 0 ∧ A 163 (1117 + 8 * w) = s ∧ A 163 (1118 + 8 * w) ≤ d ∧ d < A 163 (1118 + 8 * w) + (if A 163 (1114 + 8 * w) = 2 then 2 else 1) := h.2.1
theorem y_IW.kd {A : Int → Int → Int} (h : y_IW A) : ∀ w, 0 ≤ w → w < 60 → w < A 163 1 → (0 ≤ A 163 (1114 + 8 * w) ∧ A 163 (1114 + 8 * w) ≤ 3) ∧ (0 ≤ A 163 (1116 + 8 * w) ∧ A 163 (1116 + 8 * w) ≤ 3) ∧ 0 ≤ A 163 (1115 + 8 * w) ∧ A 163 (1115 + 8 * w) ≤ 1000 := h.2.2.1
theorem y_IW.pd {A : Int → Int → Int} (h : y_IW A) : ∀ w, 0 ≤ w → w < 60 → w < A 163 1 → A 163 (1116 + 8 * w) = 0 → (0 ≤ A 163 (1117 + 8 * w) ∧ A 163 (1117 + 8 * w) < 12) ∧ (0 ≤ A 163 (1118 + 8 * w) ∧ A 163 (1118 + 8 * w) + (if A 163 (1114 + 8 * w) = 2 then 2 else 1) ≤ 12) ∧ A 163 (1118 + 8 * w) + (if A 163 (1114 + 8 * w) = 2 then 2 else 1) ≤ A 163 (10 + 80 * A 163 (1117 + 8 * w)) ∧ A 163 (11 + 80 * A 163 (1117 + 8 * w) + A 163 (1118 + 8 * w)) = w ∧ (A 163 (1114 + 8 * w) = 2 → A 163 (12 + 80 * A 163 (1117 + 8 * w) + A 163 (1118 + 8 * w)) = w) := h.2.2.2.1
theorem y_IW.ps {A : Int → Int → Int} (h : y_IW A) : ∀ w, 0 ≤ w → w < 60 → w < A 163 1 → A 163 (1116 + 8 * w) ≠ 1 → 0 ≤ A 163 (1117 + 8 * w) ∧ A 163 (1117 + 8 * w) < A 163 0 := h.2.2.2.2.1
theorem y_IW.pn {A : Int → Int → Int} (h : y_IW A) : ∀ w, 0 ≤ w → w < 60 → w < A 163 1 → A 163 (1116 + 8 * w) ≠ 0 → A 163 (1118 + 8 * w) = -1 := h.2.2.2.2.2.1
theorem y_IW.pa {A : Int → Int → Int} (h : y_IW A) : ∀ w, 0 ≤ w → w < 60 → w < A 163 1 → A 163 (1121 + 8 * w) = -1 ∨ (A 163 (1116 + 8 * w) = 2 ∧ (0 ≤ A 163 (1121 + 8 * w) ∧ A 163 (1121 + 8 * w) < 60) ∧ A 163 (1121 + 8 * w) < A 163 1 ∧ A 163 (1116 + 8 * A 163 (1121 + 8 * w)) = 2 ∧ A 163 (1121 + 8 * A 163 (1121 + 8 * w)) = w ∧ (A 163 (1114 + 8 * w) = 3 ↔ ¬ A 163 (1114 + 8 * A 163 (1121 + 8 * w)) = 3)) := h.2.2.2.2.2.2.1
theorem y_IW.bk {A : Int → Int → Int} (h : y_IW A) : ∀ w, 0 ≤ w → w < 60 → 0 ≤ A 163 (1120 + 8 * w) := h.2.2.2.2.2.2.2
def y_IK (A : Int → Int → Int) : Prop := (∀ c, 0 ≤ c → c < 3 → c < A 163 2 → (1 ≤ A 163 (1594 + 12 * c) ∧ A 163 (1594 + 12 * c) ≤ 8) ∧ (0 ≤ A 163 (1595 + 12 * c) ∧ A 163 (1595 + 12 * c) < A 163 0)) ∧ (∀ c, 0 ≤ c → c < 3 → 0 ≤ A 163 (1597 + 12 * c) ∧ A 163 (1597 + 12 * c) ≤ 8 ∧ (A 163 2 ≤ c → A 163 (1597 + 12 * c) = 0)) ∧ (∀ c k, 0 ≤ c → c < 3 → 0 ≤ k → k < 8 → k < A 163 (1597 + 12 * c) → (0 ≤ A 163 (1598 + 12 * c + k) ∧ A 163 (1598 + 12 * c + k) < 60) ∧ A 163 (1598 + 12 * c + k) < A 163 1 ∧ A 163 (1116 + 8 * A 163 (1598 + 12 * c + k)) = 1 ∧ A 163 (1117 + 8 * A 163 (1598 + 12 * c + k)) = c) ∧ (∀ c k l, 0 ≤ c → c < 3 → 0 ≤ k → k < l → l < 8 → l < A 163 (1597 + 12 * c) → A 163 (1598 + 12 * c + k) ≠ A 163 (1598 + 12 * c + l))
theorem y_IK.kl {A : Int → Int → Int} (h : y_IK A) : ∀ c, 0 ≤ c → c < 3 → c < A 163 2 → (1 ≤ A 163 (1594 + 12 * c) ∧ A 163 (1594 + 12 * c) ≤ 8) ∧ (0 ≤ A 163 (1595 + 12 * c) ∧ A 163 (1595 + 12 * c) < A 163 0) := h.1
theorem y_IK.kk {A : Int → Int → Int} (h : y_IK A) : ∀ c, 0 ≤ c → c < 3 → 0 ≤ A 163 (1597 + 12 * c) ∧ A 163 (1597 + 12 * c) ≤ 8 ∧ (A 163 2 ≤ c → A 163 (1597 + 12 * c) = 0) := h.2.1
theorem y_IK.kr {A : Int → Int → Int} (h : y_IK A) : ∀ c k, 0 ≤ c → c < 3 → 0 ≤ k → k < 8 → k < A 163 (1597 + 12 * c) → (0 ≤ A 163 (1598 + 12 * c + k) ∧ A 163 (1598 + 12 * c + k) < 60) ∧ A 163 (1598 + 12 * c + k) < A 163 1 ∧ A 163 (1116 + 8 * A 163 (1598 + 12 * c + k)) = 1 ∧ A 163 (1117 + 8 * A 163 (1598 + 12 * c + k)) = c := h.2.2.1
theorem y_IK.ki {A : Int → Int → Int} (h : y_IK A) : ∀ c k l, 0 ≤ c → c < 3 → 0 ≤ k → k < l → l < 8 → l < A 163 (1597 + 12 * c) → A 163 (1598 + 12 * c + k) ≠ A 163 (1598 + 12 * c + l) := h.2.2.2
def y_I (A : Int → Int → Int) : Prop := y_IS A ∧ y_IW A ∧ y_IK A
theorem y_I.toy_IS {A : Int → Int → Int} (h : y_I A) : y_IS A := h.1
theorem y_I.toy_IW {A : Int → Int → Int} (h : y_I A) : y_IW A := h.2.1
theorem y_I.toy_IK {A : Int → Int → Int} (h : y_I A) : y_IK A := h.2.2
theorem y_I.n {A : Int → Int → Int} (h : y_I A) : 0 ≤ A 163 0 ∧ A 163 0 ≤ 12 := (h.toy_IS).n
theorem y_I.nw {A : Int → Int → Int} (h : y_I A) : 0 ≤ A 163 1 ∧ A 163 1 ≤ 60 := (h.toy_IS).nw
theorem y_I.nc {A : Int → Int → Int} (h : y_I A) : 0 ≤ A 163 2 ∧ A 163 2 ≤ 3 := (h.toy_IS).nc
theorem y_I.hr {A : Int → Int → Int} (h : y_I A) : 0 ≤ A 163 3 ∧ A 163 3 < 24 := (h.toy_IS).hr
theorem y_I.dk {A : Int → Int → Int} (h : y_I A) : ∀ s, 0 ≤ s → s < 12 → s < A 163 0 → 2 ≤ A 163 (10 + 80 * s) ∧ A 163 (10 + 80 * s) ≤ 12 := (h.toy_IS).dk
theorem y_I.de {A : Int → Int → Int} (h : y_I A) : ∀ s, 0 ≤ s → s < 12 → A 163 0 ≤ s → A 163 (23 + 80 * s) = 0 ∧ A 163 (34 + 80 * s) = 0 := (h.toy_IS).de
theorem y_I.dl {A : Int → Int → Int} (h : y_I A) : ∀ s t, 0 ≤ s → s < 12 → 0 ≤ t → t < 12 → A 163 0 ≤ s → A 163 (970 + 12 * s + t) = if s = t then 0 else 999 := (h.toy_IS).dl
theorem y_I.ln {A : Int → Int → Int} (h : y_I A) : ∀ s t, 0 ≤ s → s < 12 → 0 ≤ t → t < 12 → 0 ≤ A 163 (970 + 12 * s + t) ∧ A 163 (970 + 12 * s + t) ≤ 999 := (h.toy_IS).ln
theorem y_I.oc {A : Int → Int → Int} (h : y_I A) : ∀ s, 0 ≤ s → s < 12 → s < A 163 0 → -1 ≤ A 163 (25 + 80 * s) ∧ A 163 (25 + 80 * s) ≤ 8 := (h.toy_IS).oc
theorem y_I.os {A : Int → Int → Int} (h : y_I A) : ∀ s k, 0 ≤ s → s < 12 → 0 ≤ k → k < 8 → s < A 163 0 → k < A 163 (25 + 80 * s) → 0 ≤ A 163 (26 + 80 * s + k) ∧ A 163 (26 + 80 * s + k) < A 163 0 := (h.toy_IS).os
theorem y_I.wa {A : Int → Int → Int} (h : y_I A) : ∀ s, 0 ≤ s → s < 12 → s < A 163 0 → -1 ≤ A 163 (24 + 80 * s) ∧ A 163 (24 + 80 * s) ≤ 12 := (h.toy_IS).wa
theorem y_I.dm {A : Int → Int → Int} (h : y_I A) : ∀ s, 0 ≤ s → s < 12 → A 163 (34 + 80 * s) = 0 ∨ A 163 (34 + 80 * s) = 1 := (h.toy_IS).dm
theorem y_I.db {A : Int → Int → Int} (h : y_I A) : ∀ s i, 0 ≤ s → s < 12 → 0 ≤ i → i < 48 → A 163 (34 + 80 * s) = 1 → 0 ≤ A 163 (35 + 80 * s + i) ∧ A 163 (35 + 80 * s + i) ≤ 99 := (h.toy_IS).db
theorem y_I.cr {A : Int → Int → Int} (h : y_I A) : ∀ s d, 0 ≤ s → s < 12 → 0 ≤ d → d < 12 → s < A 163 0 → d < A 163 (10 + 80 * s) → -2 ≤ A 163 (11 + 80 * s + d) ∧ A 163 (11 + 80 * s + d) < A 163 1 := (h.toy_IW).cr
theorem y_I.ct {A : Int → Int → Int} (h : y_I A) : ∀ s d w, 0 ≤ s → s < 12 → 0 ≤ d → d < 12 → 0 ≤ w → w < 60 → s < A 163 0 → d < A 163 (10 + 80 * s) → A 163 (11 + 80 * s + d) = w → A 163 (1116 + 8 * w) = 0 ∧ A 163 (1117 + 8 * w) = s ∧ A 163 (1118 + 8 * w) ≤ d ∧ d < A 163 (1118 + 8 * w) + (if A 163 (1114 + 8 * w) = 2 then 2 else 1) := (h.toy_IW).ct
theorem y_I.kd {A : Int → Int → Int} (h : y_I A) : ∀ w, 0 ≤ w → w < 60 → w < A 163 1 → (0 ≤ A 163 (1114 + 8 * w) ∧ A 163 (1114 + 8 * w) ≤ 3) ∧ (0 ≤ A 163 (1116 + 8 * w) ∧ A 163 (1116 + 8 * w) ≤ 3) ∧ 0 ≤ A 163 (1115 + 8 * w) ∧ A 163 (1115 + 8 * w) ≤ 1000 := (h.toy_IW).kd
theorem y_I.pd {A : Int → Int → Int} (h : y_I A) : ∀ w, 0 ≤ w → w < 60 → w < A 163 1 → A 163 (1116 + 8 * w) = 0 → (0 ≤ A 163 (1117 + 8 * w) ∧ A 163 (1117 + 8 * w) < 12) ∧ (0 ≤ A 163 (1118 + 8 * w) ∧ A 163 (1118 + 8 * w) + (if A 163 (1114 + 8 * w) = 2 then 2 else 1) ≤ 12) ∧ A 163 (1118 + 8 * w) + (if A 163 (1114 + 8 * w) = 2 then 2 else 1) ≤ A 163 (10 + 80 * A 163 (1117 + 8 * w)) ∧ A 163 (11 + 80 * A 163 (1117 + 8 * w) + A 163 (1118 + 8 * w)) = w ∧ (A 163 (1114 + 8 * w) = 2 → A 163 (12 + 80 * A 163 (1117 + 8 * w) + A 163 (1118 + 8 * w)) = w) := (h.toy_IW).pd
theorem y_I.ps {A : Int → Int → Int} (h : y_I A) : ∀ w, 0 ≤ w → w < 60 → w < A 163 1 → A 163 (1116 + 8 * w) ≠ 1 → 0 ≤ A 163 (1117 + 8 * w) ∧ A 163 (1117 + 8 * w) < A 163 0 := (h.toy_IW).ps
theorem y_I.pn {A : Int → Int → Int} (h : y_I A) : ∀ w, 0 ≤ w → w < 60 → w < A 163 1 → A 163 (1116 + 8 * w) ≠ 0 → A 163 (1118 + 8 * w) = -1 := (h.toy_IW).pn
theorem y_I.pa {A : Int → Int → Int} (h : y_I A) : ∀ w, 0 ≤ w → w < 60 → w < A 163 1 → A 163 (1121 + 8 * w) = -1 ∨ (A 163 (1116 + 8 * w) = 2 ∧ (0 ≤ A 163 (1121 + 8 * w) ∧ A 163 (1121 + 8 * w) < 60) ∧ A 163 (1121 + 8 * w) < A 163 1 ∧ A 163 (1116 + 8 * A 163 (1121 + 8 * w)) = 2 ∧ A 163 (1121 + 8 * A 163 (1121 + 8 * w)) = w ∧ (A 163 (1114 + 8 * w) = 3 ↔ ¬ A 163 (1114 + 8 * A 163 (1121 + 8 * w)) = 3)) := (h.toy_IW).pa
theorem y_I.bk {A : Int → Int → Int} (h : y_I A) : ∀ w, 0 ≤ w → w < 60 → 0 ≤ A 163 (1120 + 8 * w) := (h.toy_IW).bk
theorem y_I.kl {A : Int → Int → Int} (h : y_I A) : ∀ c, 0 ≤ c → c < 3 → c < A 163 2 → (1 ≤ A 163 (1594 + 12 * c) ∧ A 163 (1594 + 12 * c) ≤ 8) ∧ (0 ≤ A 163 (1595 + 12 * c) ∧ A 163 (1595 + 12 * c) < A 163 0) := (h.toy_IK).kl
theorem y_I.kk {A : Int → Int → Int} (h : y_I A) : ∀ c, 0 ≤ c → c < 3 → 0 ≤ A 163 (1597 + 12 * c) ∧ A 163 (1597 + 12 * c) ≤ 8 ∧ (A 163 2 ≤ c → A 163 (1597 + 12 * c) = 0) := (h.toy_IK).kk
theorem y_I.kr {A : Int → Int → Int} (h : y_I A) : ∀ c k, 0 ≤ c → c < 3 → 0 ≤ k → k < 8 → k < A 163 (1597 + 12 * c) → (0 ≤ A 163 (1598 + 12 * c + k) ∧ A 163 (1598 + 12 * c + k) < 60) ∧ A 163 (1598 + 12 * c + k) < A 163 1 ∧ A 163 (1116 + 8 * A 163 (1598 + 12 * c + k)) = 1 ∧ A 163 (1117 + 8 * A 163 (1598 + 12 * c + k)) = c := (h.toy_IK).kr
theorem y_I.ki {A : Int → Int → Int} (h : y_I A) : ∀ c k l, 0 ≤ c → c < 3 → 0 ≤ k → k < l → l < 8 → l < A 163 (1597 + 12 * c) → A 163 (1598 + 12 * c + k) ≠ A 163 (1598 + 12 * c + l) := (h.toy_IK).ki
def y_B (C A : Int → Int → Int) : Prop := (y_F C A) ∧ (y_I A) ∧ (y_FT C A)
theorem y_B.f {C A : Int → Int → Int} (h : y_B C A) : y_F C A := h.1
theorem y_B.i {C A : Int → Int → Int} (h : y_B C A) : y_I A := h.2.1
theorem y_B.t {C A : Int → Int → Int} (h : y_B C A) : y_FT C A := h.2.2
/-! frames -/
theorem FS_fr {C A C2 A2 : Int → Int → Int} (h : y_FS C A) (hc : ∀ a k, 1 ≤ a → a < 88 → C2 a k = C a k) (ha : ∀ k, 0 ≤ k → k < 1114 → A2 163 k = A 163 k) : y_FS C2 A2 := by
  refine ⟨?_, ?_, ?_, ?_, ?_, ?_, ?_, ?_, ?_, ?_, ?_, ?_, ?_, ?_⟩
  · rw [hc _ _ (by omega) (by omega), ha _ (by omega) (by omega)]; exact h.n
  · rw [hc _ _ (by omega) (by omega), ha _ (by omega) (by omega)]; exact h.nw
  · rw [hc _ _ (by omega) (by omega), ha _ (by omega) (by omega)]; exact h.nc
  · rw [hc _ _ (by omega) (by omega), ha _ (by omega) (by omega)]; exact h.hr
  · intro s s0 s1; rw [hc _ _ (by omega) (by omega), ha _ (by omega) (by omega)]; exact h.dk s s0 s1
  · intro s s0 s1; rw [hc _ _ (by omega) (by omega), ha _ (by omega) (by omega)]; exact h.oc s s0 s1
  · intro s s0 s1; rw [hc _ _ (by omega) (by omega), ha _ (by omega) (by omega)]; exact h.wa s s0 s1
  · intro s s0 s1; rw [hc _ _ (by omega) (by omega), ha _ (by omega) (by omega)]; exact h.fl s s0 s1
  · intro s d s0 s1 d0 d1; rw [hc _ _ (by omega) (by omega), ha _ (by omega) (by omega), ha _ (by omega) (by omega)]; exact h.ct s d s0 s1 d0 d1
  · intro s t s0 s1 t0 t1; rw [hc _ _ (by omega) (by omega), ha _ (by omega) (by omega), ha _ (by omega) (by omega)]; exact h.ln s t s0 s1 t0 t1
  · intro s k s0 s1 k0 k1; rw [hc _ _ (by omega) (by omega), ha _ (by omega) (by omega)]; exact h.ot s k s0 s1 k0 k1
  · intro s s0 s1; rw [hc _ _ (by omega) (by omega), ha _ (by omega) (by omega)]; exact h.dm s s0 s1
  · intro s i s0 s1 i0 i1; rw [hc _ _ (by omega) (by omega), ha _ (by omega) (by omega), ha _ (by omega) (by omega)]; exact h.db s i s0 s1 i0 i1
  · intro s i s0 s1 i0 i1; rw [hc _ _ (by omega) (by omega), ha _ (by omega) (by omega), ha _ (by omega) (by omega)]; exact h.dw s i s0 s1 i0 i1
theorem FW_fr {C A C2 A2 : Int → Int → Int} (h : y_FW C A) (hc : ∀ a k, 88 ≤ a → a < 148 → k ≠ 6 → C2 a k = C a k) (ha : ∀ k, 1114 ≤ k → k < 1594 → (k - 1114) % 8 ≠ 5 → A2 163 k = A 163 k) : y_FW C2 A2 := by
  refine ⟨?_, ?_, ?_, ?_, ?_, ?_, ?_, ?_⟩
  · intro w w0 w1; rw [hc _ _ (by omega) (by omega) (by omega), ha _ (by omega) (by omega) (by omega)]; exact h.w0 w w0 w1
  · intro w w0 w1; rw [hc _ _ (by omega) (by omega) (by omega), ha _ (by omega) (by omega) (by omega)]; exact h.w1 w w0 w1
  · intro w w0 w1; rw [hc _ _ (by omega) (by omega) (by omega), ha _ (by omega) (by omega) (by omega)]; exact h.w2 w w0 w1
  · intro w w0 w1; rw [hc _ _ (by omega) (by omega) (by omega), ha _ (by omega) (by omega) (by omega), ha _ (by omega) (by omega) (by omega)]; exact h.w3 w w0 w1
  · intro w w0 w1; rw [hc _ _ (by omega) (by omega) (by omega), ha _ (by omega) (by omega) (by omega), ha _ (by omega) (by omega) (by omega), ha _ (by omega) (by omega) (by omega)]; exact h.w4 w w0 w1
  · intro w w0 w1; rw [hc _ _ (by omega) (by omega) (by omega), ha _ (by omega) (by omega) (by omega)]; exact h.w6 w w0 w1
  · intro w w0 w1; rw [hc _ _ (by omega) (by omega) (by omega), ha _ (by omega) (by omega) (by omega)]; exact h.wn w w0 w1
  · intro w w0 w1; rw [hc _ _ (by omega) (by omega) (by omega), ha _ (by omega) (by omega) (by omega)]; exact h.w7 w w0 w1
theorem FK_fr {C A C2 A2 : Int → Int → Int} (h : y_FK C A) (hc : ∀ a k, 149 ≤ a → a < 155 → C2 a k = C a k) (ha : ∀ k, 1594 ≤ k → k < 1630 → A2 163 k = A 163 k) : y_FK C2 A2 := by
  refine ⟨?_, ?_, ?_, ?_, ?_⟩
  · intro c c0 c1; rw [hc _ _ (by omega) (by omega), ha _ (by omega) (by omega)]; exact h.k0 c c0 c1
  · intro c c0 c1; rw [hc _ _ (by omega) (by omega), ha _ (by omega) (by omega)]; exact h.k1 c c0 c1
  · intro c c0 c1; rw [hc _ _ (by omega) (by omega), ha _ (by omega) (by omega)]; exact h.k2 c c0 c1
  · intro c c0 c1; rw [hc _ _ (by omega) (by omega), ha _ (by omega) (by omega)]; exact h.k3 c c0 c1
  · intro c k c0 c1 k0 k1; rw [hc _ _ (by omega) (by omega), ha _ (by omega) (by omega)]; exact h.kr c k c0 c1 k0 k1
theorem IS_fr {A A2 : Int → Int → Int} (h : y_IS A) (hw : 0 ≤ A2 163 1 ∧ A2 163 1 ≤ 60) (ha : ∀ k, 0 ≤ k → k < 1114 → k ≠ 1 → (k < 10 ∨ 970 ≤ k ∨ (k - 10) % 80 = 0 ∨ 13 ≤ (k - 10) % 80) → A2 163 k = A 163 k) : y_IS A2 := by
  refine ⟨?_, hw, ?_, ?_, ?_, ?_, ?_, ?_, ?_, ?_, ?_, ?_, ?_⟩
  · rw [ha 0 (by omega) (by omega) (by omega) (by omega)]; exact h.n
  · rw [ha 2 (by omega) (by omega) (by omega) (by omega)]; exact h.nc
  · rw [ha 3 (by omega) (by omega) (by omega) (by omega)]; exact h.hr
  · intro s s0 s1; rw [ha 0 (by omega) (by omega) (by omega) (by omega), ha (10 + 80 * s) (by omega) (by omega) (by omega) (by omega)]; exact h.dk s s0 s1
  · intro s s0 s1; rw [ha 0 (by omega) (by omega) (by omega) (by omega), ha (23 + 80 * s) (by omega) (by omega) (by omega) (by omega), ha (34 + 80 * s) (by omega) (by omega) (by omega) (by omega)]; exact h.de s s0 s1
  · intro s t s0 s1 t0 t1; rw [ha 0 (by omega) (by omega) (by omega) (by omega), ha (970 + 12 * s + t) (by omega) (by omega) (by omega) (by omega)]; exact h.dl s t s0 s1 t0 t1
  · intro s t s0 s1 t0 t1; rw [ha (970 + 12 * s + t) (by omega) (by omega) (by omega) (by omega)]; exact h.ln s t s0 s1 t0 t1
  · intro s s0 s1; rw [ha 0 (by omega) (by omega) (by omega) (by omega), ha (25 + 80 * s) (by omega) (by omega) (by omega) (by omega)]; exact h.oc s s0 s1
  · intro s k s0 s1 k0 k1; rw [ha 0 (by omega) (by omega) (by omega) (by omega), ha (25 + 80 * s) (by omega) (by omega) (by omega) (by omega), ha (26 + 80 * s + k) (by omega) (by omega) (by omega) (by omega)]; exact h.os s k s0 s1 k0 k1
  · intro s s0 s1; rw [ha 0 (by omega) (by omega) (by omega) (by omega), ha (24 + 80 * s) (by omega) (by omega) (by omega) (by omega)]; exact h.wa s s0 s1
  · intro s s0 s1; rw [ha (34 + 80 * s) (by omega) (by omega) (by omega) (by omega)]; exact h.dm s s0 s1
  · intro s i s0 s1 i0 i1; rw [ha (34 + 80 * s) (by omega) (by omega) (by omega) (by omega), ha (35 + 80 * s + i) (by omega) (by omega) (by omega) (by omega)]; exact h.db s i s0 s1 i0 i1
theorem IW_fr {A A2 : Int → Int → Int} (h : y_IW A) (e0 : A2 163 0 = A 163 0) (e1 : A2 163 1 = A 163 1) (hs : ∀ k, 10 ≤ k → k < 970 → (k - 10) % 80 ≤ 12 → A2 163 k = A 163 k) (hw : ∀ k, 1114 ≤ k → k < 1594 → (k - 1114) % 8 ≠ 5 → A2 163 k = A 163 k) : y_IW A2 := by
  refine ⟨?_, ?_, ?_, ?_, ?_, ?_, ?_, ?_⟩
  · intro s d s0 s1 d0 d1; rw [e0, e1, hs (10 + 80 * s) (by omega) (by omega) (by omega), hs (11 + 80 * s + d) (by omega) (by omega) (by omega)]; exact h.cr s d s0 s1 d0 d1
  · intro s d w s0 s1 d0 d1 w0 w1; rw [e0, hs (10 + 80 * s) (by omega) (by omega) (by omega), hs (11 + 80 * s + d) (by omega) (by omega) (by omega), hw (1116 + 8 * w) (by omega) (by omega) (by omega), hw (1117 + 8 * w) (by omega) (by omega) (by omega), hw (1118 + 8 * w) (by omega) (by omega) (by omega), hw (1114 + 8 * w) (by omega) (by omega) (by omega)]; exact h.ct s d w s0 s1 d0 d1 w0 w1
  · intro w w0 w1; rw [e1, hw (1114 + 8 * w) (by omega) (by omega) (by omega), hw (1116 + 8 * w) (by omega) (by omega) (by omega), hw (1115 + 8 * w) (by omega) (by omega) (by omega)]; exact h.kd w w0 w1
  · intro w w0 w1 w2 w3
    rw [e1] at w2
    rw [hw (1116 + 8 * w) (by omega) (by omega) (by omega)] at w3
    have q := h.pd w w0 w1 w2 w3
    have q9 : A 163 (1118 + 8 * w) < 12 := by have := q.2.1.2; split at this <;> omega
    rw [hw (1114 + 8 * w) (by omega) (by omega) (by omega), hw (1117 + 8 * w) (by omega) (by omega) (by omega), hw (1118 + 8 * w) (by omega) (by omega) (by omega), hs (10 + 80 * A 163 (1117 + 8 * w)) (by omega) (by omega) (by omega), hs (11 + 80 * A 163 (1117 + 8 * w) + A 163 (1118 + 8 * w)) (by omega) (by omega) (by omega)]
    refine ⟨q.1, q.2.1, q.2.2.1, q.2.2.2.1, fun g => ?_⟩
    have g4 := q.2.1.2
    rw [if_pos g] at g4
    exact (hs (12 + 80 * A 163 (1117 + 8 * w) + A 163 (1118 + 8 * w)) (by omega) (by omega) (by omega)).trans (q.2.2.2.2 g)
  · intro w w0 w1; rw [e0, e1, hw (1116 + 8 * w) (by omega) (by omega) (by omega), hw (1117 + 8 * w) (by omega) (by omega) (by omega)]; exact h.ps w w0 w1
  · intro w w0 w1; rw [e1, hw (1116 + 8 * w) (by omega) (by omega) (by omega), hw (1118 + 8 * w) (by omega) (by omega) (by omega)]; exact h.pn w w0 w1
  · intro w w0 w1 w2
    rw [e1] at w2 ⊢
    rw [hw (1121 + 8 * w) (by omega) (by omega) (by omega), hw (1116 + 8 * w) (by omega) (by omega) (by omega), hw (1114 + 8 * w) (by omega) (by omega) (by omega)]
    rcases h.pa w w0 w1 w2 with q | q
    · exact Or.inl q
    · right
      rw [hw (1116 + 8 * A 163 (1121 + 8 * w)) (by omega) (by omega) (by omega), hw (1121 + 8 * A 163 (1121 + 8 * w)) (by omega) (by omega) (by omega), hw (1114 + 8 * A 163 (1121 + 8 * w)) (by omega) (by omega) (by omega)]; exact q
  · intro w w0 w1; rw [hw (1120 + 8 * w) (by omega) (by omega) (by omega)]; exact h.bk w w0 w1
theorem IK_fr {A A2 : Int → Int → Int} (h : y_IK A) (e0 : A2 163 0 = A 163 0) (e1 : A 163 1 ≤ A2 163 1) (e2 : A2 163 2 = A 163 2) (hk : ∀ k, 1594 ≤ k → k < 1630 → A2 163 k = A 163 k) (hw : ∀ w, 0 ≤ w → w < 60 → w < A 163 1 → A 163 (1116 + 8 * w) = 1 → A2 163 (1116 + 8 * w) = 1 ∧ A2 163 (1117 + 8 * w) = A 163 (1117 + 8 * w)) : y_IK A2 := by
  refine ⟨?_, ?_, ?_, ?_⟩
  · intro c c0 c1; rw [e2, e0, hk _ (by omega) (by omega), hk _ (by omega) (by omega)]; exact h.kl c c0 c1
  · intro c c0 c1; rw [e2, hk _ (by omega) (by omega)]; exact h.kk c c0 c1
  · intro c k c0 c1 k0 k1 k2
    rw [hk _ (by omega) (by omega)] at k2
    have q := h.kr c k c0 c1 k0 k1 k2
    rw [hk (1598 + 12 * c + k) (by omega) (by omega)]
    have q2 := hw _ q.1.1 q.1.2 q.2.1 q.2.2.1
    rw [q2.1, q2.2]; exact ⟨q.1, by have := q.2.1; omega, rfl, q.2.2.2⟩
  · intro c k l c0 c1 k0 k1 l1 l2
    rw [hk _ (by omega) (by omega)] at l2
    rw [hk (1598 + 12 * c + k) (by omega) (by omega), hk (1598 + 12 * c + l) (by omega) (by omega)]
    exact h.ki c k l c0 c1 k0 k1 l1 l2
theorem tk_fr {A A2 : Int → Int → Int} {c : Int} (e1 : A2 163 (1597 + 12 * c) = A 163 (1597 + 12 * c)) (e2 : ∀ k, 0 ≤ k → k < 8 → k < A 163 (1597 + 12 * c) → A2 163 (1598 + 12 * c + k) = A 163 (1598 + 12 * c + k) ∧ A2 163 (1114 + 8 * A 163 (1598 + 12 * c + k)) = A 163 (1114 + 8 * A 163 (1598 + 12 * c + k))) : y_tk A2 c = y_tk A c := by
  have key : ∀ k, 0 ≤ k → k < 8 → y_s1 A2 c k = y_s1 A c k := fun k h0 h1 => by
    unfold y_s1
    rw [e1]
    by_cases q : k < A 163 (1597 + 12 * c)
    · rw [if_pos q, if_pos q, (e2 k h0 h1 q).1, (e2 k h0 h1 q).2]
    · rw [if_neg q, if_neg q]
  unfold y_tk
  rw [key 0 (by omega) (by omega), key 1 (by omega) (by omega), key 2 (by omega) (by omega), key 3 (by omega) (by omega), key 4 (by omega) (by omega), key 5 (by omega) (by omega), key 6 (by omega) (by omega), key 7 (by omega) (by omega)]
theorem FT_fr {C A C2 A2 : Int → Int → Int} (h : y_FT C A) (hI : y_IK A) (hc : ∀ c, 0 ≤ c → c < 3 → C2 (149 + 2 * c) 3 = C (149 + 2 * c) 3) (e2 : A2 163 2 = A 163 2) (hk : ∀ k, 1594 ≤ k → k < 1630 → A2 163 k = A 163 k) (hw : ∀ w, 0 ≤ w → w < 60 → w < A 163 1 → A2 163 (1114 + 8 * w) = A 163 (1114 + 8 * w)) : y_FT C2 A2 := by
  intro c c0 c1
  have e : y_tk A2 c = y_tk A c := tk_fr (hk _ (by omega) (by omega)) (fun k k0 k1 q => ⟨hk _ (by omega) (by omega), by
    have := hI.kr c k c0 c1 k0 k1 q
    exact hw _ this.1.1 this.1.2 this.2.1⟩)
  rw [hc c c0 c1, e, e2, hk _ (by omega) (by omega)]
  exact h c c0 c1
