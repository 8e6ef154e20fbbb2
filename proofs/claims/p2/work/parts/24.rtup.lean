/-! THE RELATION UNDER WRITES -/
theorem x_eq1 {M : Int → Int → Int} {A : Int → Int} {a k v i w b j t : Int} (h : M b j = A t) (hv : v = w) (hc : (b = a ∧ j = k) ↔ t = i) : x_up M a k v b j = a_up A i w t := by
  unfold x_up a_up
  by_cases c : b = a ∧ j = k
  · rw [if_pos c, if_pos (hc.mp c), hv]
  · rw [if_neg c, if_neg (fun q => c (hc.mpr q))]; exact h
theorem x_eqM {M : Int → Int → Int} {a k v b j m : Int} (h : M b j = m) (hc : ¬ (b = a ∧ j = k)) : x_up M a k v b j = m := by
  unfold x_up
  rw [if_neg hc]; exact h
theorem x_eqA {A : Int → Int} {i w t m : Int} (h : m = A t) (hc : ¬ t = i) : m = a_up A i w t := by
  unfold a_up
  rw [if_neg hc]; exact h
theorem a_tkn_cg {A B : Int → Int} {c : Int} (n : Nat) (h : ∀ k : Int, 0 ≤ k → k < n → a_sz (B (1114 + 8 * B (1598 + 12 * c + k))) = a_sz (A (1114 + 8 * A (1598 + 12 * c + k)))) : a_tkn B c n = a_tkn A c n := by
  induction n with
  | zero => rfl
  | succ n ih =>
    show a_tkn B c n + a_sz _ = a_tkn A c n + a_sz _
    rw [ih (fun k h1 h2 => h k h1 (by omega)), h n (by omega) (by omega)]
theorem a_tk_cg {A B : Int → Int} {c : Int} (h1 : B (1597 + 12 * c) = A (1597 + 12 * c)) (h : ∀ k : Int, 0 ≤ k → k < A (1597 + 12 * c) → a_sz (B (1114 + 8 * B (1598 + 12 * c + k))) = a_sz (A (1114 + 8 * A (1598 + 12 * c + k)))) : a_tk B c = a_tk A c := by
  unfold a_tk
  rw [h1]
  exact a_tkn_cg _ (fun k h2 h3 => h k h2 (by omega))
theorem rt_upC {M : Int → Int → Int} {A : Int → Int} (hR : x_RT M A) (hn12 : 0 ≤ A 0 ∧ A 0 ≤ 12) (hm60 : 0 ≤ A 1 ∧ A 1 ≤ 60) (hq3 : 0 ≤ A 2 ∧ A 2 ≤ 3) (hdk : ∀ s, 0 ≤ s ∧ s < A 0 → A (10 + 80 * s) ≤ 12) (hoc : ∀ s, 0 ≤ s ∧ s < A 0 → A (25 + 80 * s) ≤ 8) (hcnt : ∀ c, 0 ≤ c ∧ c < A 2 → A (1597 + 12 * c) ≤ 8) (hrw : ∀ c k, (0 ≤ c ∧ c < A 2) → (0 ≤ k ∧ k < A (1597 + 12 * c)) → 0 ≤ A (1598 + 12 * c + k) ∧ A (1598 + 12 * c + k) < A 1) {s0 : Int} (hs0 : 0 ≤ s0 ∧ s0 < A 0) {d0 v : Int} (hd0 : 0 ≤ d0 ∧ d0 < A (10 + 80 * s0)) : x_RT (x_up M (4 + 7 * s0) d0 v) (a_up A (11 + 80 * s0 + d0) v) := by
  have hk0 := hdk s0 hs0
  have e0 : (a_up A (11 + 80 * s0 + d0) v) 0 = A 0 := (a_up_n (by omega))
  have e1 : (a_up A (11 + 80 * s0 + d0) v) 1 = A 1 := (a_up_n (by omega))
  have e2 : (a_up A (11 + 80 * s0 + d0) v) 2 = A 2 := (a_up_n (by omega))
  refine ⟨?_, ?_, ?_, ?_, ?_, ?_, ?_, ?_, ?_, ?_⟩
  · exact ⟨(x_eq1 (rt_n hR) rfl (by omega)), (x_eq1 (rt_m hR) rfl (by omega)), (x_eq1 (rt_q hR) rfl (by omega)), (x_eq1 (rt_h hR) rfl (by omega))⟩
  · exact ⟨fun s hs => (x_eqM (rt_sn hR hs) (by omega)), fun w hw => (x_eqM (rt_wn hR hw) (by omega)), fun c hc => (x_eqM (rt_cn hR hc) (by omega))⟩
  · intro s hs
    rw [e0] at hs
    exact ⟨(x_eq1 (rt_dk hR hs) rfl (by omega)), (x_eq1 (rt_fl hR hs) rfl (by omega)), (x_eq1 (rt_wt hR hs) rfl (by omega)), (x_eq1 (rt_oc hR hs) rfl (by omega)), (x_eq1 (rt_dm hR hs) rfl (by omega))⟩
  · intro s d hs hd
    rw [e0] at hs
    rw [show (a_up A (11 + 80 * s0 + d0) v) (10 + 80 * s) = A (10 + 80 * s) from (a_up_n (by omega))] at hd
    have hk1 := hdk s hs
    exact (x_eq1 (rt_con hR hs hd) rfl (by omega))
  · intro s j hs hj
    rw [e0] at hs
    exact (x_eq1 (rt_len hR hs hj) rfl (by omega))
  · intro s k hs hk
    rw [e0] at hs
    rw [show (a_up A (11 + 80 * s0 + d0) v) (25 + 80 * s) = A (25 + 80 * s) from (a_up_n (by omega))] at hk
    have hk1 := hoc s hs
    exact (x_eq1 (rt_oth hR hs hk) rfl (by omega))
  · intro s j hs hj
    rw [e0] at hs
    rw [show (a_up A (11 + 80 * s0 + d0) v) (34 + 80 * s) = A (34 + 80 * s) from (a_up_n (by omega)), show (a_up A (11 + 80 * s0 + d0) v) (35 + 80 * s + j) = A (35 + 80 * s + j) from (a_up_n (by omega)), show (a_up A (11 + 80 * s0 + d0) v) (59 + 80 * s + j) = A (59 + 80 * s + j) from (a_up_n (by omega))]
    exact ⟨(x_eqM (rt_br hR hs hj) (by omega)), (x_eqM (rt_wa hR hs hj) (by omega))⟩
  · intro w hw
    rw [e1] at hw
    have hm := hm60
    refine ⟨(x_eq1 (rt_w1 hR hw) rfl (by omega)), (x_eq1 (rt_w2 hR hw) rfl (by omega)), (x_eq1 (rt_w3 hR hw) rfl (by omega)), ?_, ?_, fun hp => ?_, fun hp => ?_, fun hp => ?_⟩
    · rw [show (a_up A (11 + 80 * s0 + d0) v) (1120 + 8 * w) = A (1120 + 8 * w) from (a_up_n (by omega))]
      exact (x_eqM (rt_w7 hR hw) (by omega))
    · rw [show (a_up A (11 + 80 * s0 + d0) v) (1120 + 8 * w) = A (1120 + 8 * w) from (a_up_n (by omega))]
      exact (x_eqM (rt_w8 hR hw) (by omega))
    · rw [show (a_up A (11 + 80 * s0 + d0) v) (1116 + 8 * w) = A (1116 + 8 * w) from (a_up_n (by omega))] at hp
      exact (x_eq1 (rt_w4 hR hw hp) rfl (by omega))
    · rw [show (a_up A (11 + 80 * s0 + d0) v) (1116 + 8 * w) = A (1116 + 8 * w) from (a_up_n (by omega))] at hp
      exact (x_eq1 (rt_w5 hR hw hp) rfl (by omega))
    · rw [show (a_up A (11 + 80 * s0 + d0) v) (1116 + 8 * w) = A (1116 + 8 * w) from (a_up_n (by omega))] at hp
      exact (x_eq1 (rt_w9 hR hw hp) rfl (by omega))
  · intro c hc
    rw [e2] at hc
    have hq := hq3
    refine ⟨(x_eq1 (rt_c1 hR hc) rfl (by omega)), (x_eq1 (rt_c2 hR hc) rfl (by omega)), (x_eq1 (rt_c4 hR hc) rfl (by omega)), (x_eq1 (rt_c6 hR hc) rfl (by omega)), ?_⟩
    rw [a_tk_cg (A := A) (a_up_n (by omega)) (fun k h1 h2 => ?_)]
    · exact (x_eqM (rt_c3 hR hc) (by omega))
    · have h3 := hcnt c hc
      have h4 := hrw c k hc ⟨h1, h2⟩
      rw [show (a_up A (11 + 80 * s0 + d0) v) (1598 + 12 * c + k) = A (1598 + 12 * c + k) from (a_up_n (by omega)), show (a_up A (11 + 80 * s0 + d0) v) (1114 + 8 * A (1598 + 12 * c + k)) = A (1114 + 8 * A (1598 + 12 * c + k)) from (a_up_n (by omega))]
  · intro c k hc hk
    rw [e2] at hc
    rw [show (a_up A (11 + 80 * s0 + d0) v) (1597 + 12 * c) = A (1597 + 12 * c) from (a_up_n (by omega))] at hk
    have h3 := hcnt c hc
    exact (x_eq1 (rt_row hR hc hk) rfl (by omega))
theorem rt_upF {M : Int → Int → Int} {A : Int → Int} (hR : x_RT M A) (hn12 : 0 ≤ A 0 ∧ A 0 ≤ 12) (hm60 : 0 ≤ A 1 ∧ A 1 ≤ 60) (hq3 : 0 ≤ A 2 ∧ A 2 ≤ 3) (hdk : ∀ s, 0 ≤ s ∧ s < A 0 → A (10 + 80 * s) ≤ 12) (hoc : ∀ s, 0 ≤ s ∧ s < A 0 → A (25 + 80 * s) ≤ 8) (hcnt : ∀ c, 0 ≤ c ∧ c < A 2 → A (1597 + 12 * c) ≤ 8) (hrw : ∀ c k, (0 ≤ c ∧ c < A 2) → (0 ≤ k ∧ k < A (1597 + 12 * c)) → 0 ≤ A (1598 + 12 * c + k) ∧ A (1598 + 12 * c + k) < A 1) {s0 : Int} (hs0 : 0 ≤ s0 ∧ s0 < A 0) {v : Int} : x_RT (x_up M (3 + 7 * s0) 7 v) (a_up A (23 + 80 * s0) v) := by
  have e0 : (a_up A (23 + 80 * s0) v) 0 = A 0 := (a_up_n (by omega))
  have e1 : (a_up A (23 + 80 * s0) v) 1 = A 1 := (a_up_n (by omega))
  have e2 : (a_up A (23 + 80 * s0) v) 2 = A 2 := (a_up_n (by omega))
  refine ⟨?_, ?_, ?_, ?_, ?_, ?_, ?_, ?_, ?_, ?_⟩
  · exact ⟨(x_eq1 (rt_n hR) rfl (by omega)), (x_eq1 (rt_m hR) rfl (by omega)), (x_eq1 (rt_q hR) rfl (by omega)), (x_eq1 (rt_h hR) rfl (by omega))⟩
  · exact ⟨fun s hs => (x_eqM (rt_sn hR hs) (by omega)), fun w hw => (x_eqM (rt_wn hR hw) (by omega)), fun c hc => (x_eqM (rt_cn hR hc) (by omega))⟩
  · intro s hs
    rw [e0] at hs
    exact ⟨(x_eq1 (rt_dk hR hs) rfl (by omega)), (x_eq1 (rt_fl hR hs) rfl (by omega)), (x_eq1 (rt_wt hR hs) rfl (by omega)), (x_eq1 (rt_oc hR hs) rfl (by omega)), (x_eq1 (rt_dm hR hs) rfl (by omega))⟩
  · intro s d hs hd
    rw [e0] at hs
    rw [show (a_up A (23 + 80 * s0) v) (10 + 80 * s) = A (10 + 80 * s) from (a_up_n (by omega))] at hd
    have hk1 := hdk s hs
    exact (x_eq1 (rt_con hR hs hd) rfl (by omega))
  · intro s j hs hj
    rw [e0] at hs
    exact (x_eq1 (rt_len hR hs hj) rfl (by omega))
  · intro s k hs hk
    rw [e0] at hs
    rw [show (a_up A (23 + 80 * s0) v) (25 + 80 * s) = A (25 + 80 * s) from (a_up_n (by omega))] at hk
    have hk1 := hoc s hs
    exact (x_eq1 (rt_oth hR hs hk) rfl (by omega))
  · intro s j hs hj
    rw [e0] at hs
    rw [show (a_up A (23 + 80 * s0) v) (34 + 80 * s) = A (34 + 80 * s) from (a_up_n (by omega)), show (a_up A (23 + 80 * s0) v) (35 + 80 * s + j) = A (35 + 80 * s + j) from (a_up_n (by omega)), show (a_up A (23 + 80 * s0) v) (59 + 80 * s + j) = A (59 + 80 * s + j) from (a_up_n (by omega))]
    exact ⟨(x_eqM (rt_br hR hs hj) (by omega)), (x_eqM (rt_wa hR hs hj) (by omega))⟩
  · intro w hw
    rw [e1] at hw
    have hm := hm60
    refine ⟨(x_eq1 (rt_w1 hR hw) rfl (by omega)), (x_eq1 (rt_w2 hR hw) rfl (by omega)), (x_eq1 (rt_w3 hR hw) rfl (by omega)), ?_, ?_, fun hp => ?_, fun hp => ?_, fun hp => ?_⟩
    · rw [show (a_up A (23 + 80 * s0) v) (1120 + 8 * w) = A (1120 + 8 * w) from (a_up_n (by omega))]
      exact (x_eqM (rt_w7 hR hw) (by omega))
    · rw [show (a_up A (23 + 80 * s0) v) (1120 + 8 * w) = A (1120 + 8 * w) from (a_up_n (by omega))]
      exact (x_eqM (rt_w8 hR hw) (by omega))
    · rw [show (a_up A (23 + 80 * s0) v) (1116 + 8 * w) = A (1116 + 8 * w) from (a_up_n (by omega))] at hp
      exact (x_eq1 (rt_w4 hR hw hp) rfl (by omega))
    · rw [show (a_up A (23 + 80 * s0) v) (1116 + 8 * w) = A (1116 + 8 * w) from (a_up_n (by omega))] at hp
      exact (x_eq1 (rt_w5 hR hw hp) rfl (by omega))
    · rw [show (a_up A (23 + 80 * s0) v) (1116 + 8 * w) = A (1116 + 8 * w) from (a_up_n (by omega))] at hp
      exact (x_eq1 (rt_w9 hR hw hp) rfl (by omega))
  · intro c hc
    rw [e2] at hc
    have hq := hq3
    refine ⟨(x_eq1 (rt_c1 hR hc) rfl (by omega)), (x_eq1 (rt_c2 hR hc) rfl (by omega)), (x_eq1 (rt_c4 hR hc) rfl (by omega)), (x_eq1 (rt_c6 hR hc) rfl (by omega)), ?_⟩
    rw [a_tk_cg (A := A) (a_up_n (by omega)) (fun k h1 h2 => ?_)]
    · exact (x_eqM (rt_c3 hR hc) (by omega))
    · have h3 := hcnt c hc
      have h4 := hrw c k hc ⟨h1, h2⟩
      rw [show (a_up A (23 + 80 * s0) v) (1598 + 12 * c + k) = A (1598 + 12 * c + k) from (a_up_n (by omega)), show (a_up A (23 + 80 * s0) v) (1114 + 8 * A (1598 + 12 * c + k)) = A (1114 + 8 * A (1598 + 12 * c + k)) from (a_up_n (by omega))]
  · intro c k hc hk
    rw [e2] at hc
    rw [show (a_up A (23 + 80 * s0) v) (1597 + 12 * c) = A (1597 + 12 * c) from (a_up_n (by omega))] at hk
    have h3 := hcnt c hc
    exact (x_eq1 (rt_row hR hc hk) rfl (by omega))
theorem rt_upW {M : Int → Int → Int} {A : Int → Int} (hR : x_RT M A) (hn12 : 0 ≤ A 0 ∧ A 0 ≤ 12) (hm60 : 0 ≤ A 1 ∧ A 1 ≤ 60) (hq3 : 0 ≤ A 2 ∧ A 2 ≤ 3) (hdk : ∀ s, 0 ≤ s ∧ s < A 0 → A (10 + 80 * s) ≤ 12) (hoc : ∀ s, 0 ≤ s ∧ s < A 0 → A (25 + 80 * s) ≤ 8) (hcnt : ∀ c, 0 ≤ c ∧ c < A 2 → A (1597 + 12 * c) ≤ 8) (hrw : ∀ c k, (0 ≤ c ∧ c < A 2) → (0 ≤ k ∧ k < A (1597 + 12 * c)) → 0 ≤ A (1598 + 12 * c + k) ∧ A (1598 + 12 * c + k) < A 1) {s0 : Int} (hs0 : 0 ≤ s0 ∧ s0 < A 0) {v : Int} : x_RT (x_up M (3 + 7 * s0) 6 v) (a_up A (24 + 80 * s0) v) := by
  have e0 : (a_up A (24 + 80 * s0) v) 0 = A 0 := (a_up_n (by omega))
  have e1 : (a_up A (24 + 80 * s0) v) 1 = A 1 := (a_up_n (by omega))
  have e2 : (a_up A (24 + 80 * s0) v) 2 = A 2 := (a_up_n (by omega))
  refine ⟨?_, ?_, ?_, ?_, ?_, ?_, ?_, ?_, ?_, ?_⟩
  · exact ⟨(x_eq1 (rt_n hR) rfl (by omega)), (x_eq1 (rt_m hR) rfl (by omega)), (x_eq1 (rt_q hR) rfl (by omega)), (x_eq1 (rt_h hR) rfl (by omega))⟩
  · exact ⟨fun s hs => (x_eqM (rt_sn hR hs) (by omega)), fun w hw => (x_eqM (rt_wn hR hw) (by omega)), fun c hc => (x_eqM (rt_cn hR hc) (by omega))⟩
  · intro s hs
    rw [e0] at hs
    exact ⟨(x_eq1 (rt_dk hR hs) rfl (by omega)), (x_eq1 (rt_fl hR hs) rfl (by omega)), (x_eq1 (rt_wt hR hs) rfl (by omega)), (x_eq1 (rt_oc hR hs) rfl (by omega)), (x_eq1 (rt_dm hR hs) rfl (by omega))⟩
  · intro s d hs hd
    rw [e0] at hs
    rw [show (a_up A (24 + 80 * s0) v) (10 + 80 * s) = A (10 + 80 * s) from (a_up_n (by omega))] at hd
    have hk1 := hdk s hs
    exact (x_eq1 (rt_con hR hs hd) rfl (by omega))
  · intro s j hs hj
    rw [e0] at hs
    exact (x_eq1 (rt_len hR hs hj) rfl (by omega))
  · intro s k hs hk
    rw [e0] at hs
    rw [show (a_up A (24 + 80 * s0) v) (25 + 80 * s) = A (25 + 80 * s) from (a_up_n (by omega))] at hk
    have hk1 := hoc s hs
    exact (x_eq1 (rt_oth hR hs hk) rfl (by omega))
  · intro s j hs hj
    rw [e0] at hs
    rw [show (a_up A (24 + 80 * s0) v) (34 + 80 * s) = A (34 + 80 * s) from (a_up_n (by omega)), show (a_up A (24 + 80 * s0) v) (35 + 80 * s + j) = A (35 + 80 * s + j) from (a_up_n (by omega)), show (a_up A (24 + 80 * s0) v) (59 + 80 * s + j) = A (59 + 80 * s + j) from (a_up_n (by omega))]
    exact ⟨(x_eqM (rt_br hR hs hj) (by omega)), (x_eqM (rt_wa hR hs hj) (by omega))⟩
  · intro w hw
    rw [e1] at hw
    have hm := hm60
    refine ⟨(x_eq1 (rt_w1 hR hw) rfl (by omega)), (x_eq1 (rt_w2 hR hw) rfl (by omega)), (x_eq1 (rt_w3 hR hw) rfl (by omega)), ?_, ?_, fun hp => ?_, fun hp => ?_, fun hp => ?_⟩
    · rw [show (a_up A (24 + 80 * s0) v) (1120 + 8 * w) = A (1120 + 8 * w) from (a_up_n (by omega))]
      exact (x_eqM (rt_w7 hR hw) (by omega))
    · rw [show (a_up A (24 + 80 * s0) v) (1120 + 8 * w) = A (1120 + 8 * w) from (a_up_n (by omega))]
      exact (x_eqM (rt_w8 hR hw) (by omega))
    · rw [show (a_up A (24 + 80 * s0) v) (1116 + 8 * w) = A (1116 + 8 * w) from (a_up_n (by omega))] at hp
      exact (x_eq1 (rt_w4 hR hw hp) rfl (by omega))
    · rw [show (a_up A (24 + 80 * s0) v) (1116 + 8 * w) = A (1116 + 8 * w) from (a_up_n (by omega))] at hp
      exact (x_eq1 (rt_w5 hR hw hp) rfl (by omega))
    · rw [show (a_up A (24 + 80 * s0) v) (1116 + 8 * w) = A (1116 + 8 * w) from (a_up_n (by omega))] at hp
      exact (x_eq1 (rt_w9 hR hw hp) rfl (by omega))
  · intro c hc
    rw [e2] at hc
    have hq := hq3
    refine ⟨(x_eq1 (rt_c1 hR hc) rfl (by omega)), (x_eq1 (rt_c2 hR hc) rfl (by omega)), (x_eq1 (rt_c4 hR hc) rfl (by omega)), (x_eq1 (rt_c6 hR hc) rfl (by omega)), ?_⟩
    rw [a_tk_cg (A := A) (a_up_n (by omega)) (fun k h1 h2 => ?_)]
    · exact (x_eqM (rt_c3 hR hc) (by omega))
    · have h3 := hcnt c hc
      have h4 := hrw c k hc ⟨h1, h2⟩
      rw [show (a_up A (24 + 80 * s0) v) (1598 + 12 * c + k) = A (1598 + 12 * c + k) from (a_up_n (by omega)), show (a_up A (24 + 80 * s0) v) (1114 + 8 * A (1598 + 12 * c + k)) = A (1114 + 8 * A (1598 + 12 * c + k)) from (a_up_n (by omega))]
  · intro c k hc hk
    rw [e2] at hc
    rw [show (a_up A (24 + 80 * s0) v) (1597 + 12 * c) = A (1597 + 12 * c) from (a_up_n (by omega))] at hk
    have h3 := hcnt c hc
    exact (x_eq1 (rt_row hR hc hk) rfl (by omega))
theorem rt_upK2 {M : Int → Int → Int} {A : Int → Int} (hR : x_RT M A) (hn12 : 0 ≤ A 0 ∧ A 0 ≤ 12) (hm60 : 0 ≤ A 1 ∧ A 1 ≤ 60) (hq3 : 0 ≤ A 2 ∧ A 2 ≤ 3) (hdk : ∀ s, 0 ≤ s ∧ s < A 0 → A (10 + 80 * s) ≤ 12) (hoc : ∀ s, 0 ≤ s ∧ s < A 0 → A (25 + 80 * s) ≤ 8) (hcnt : ∀ c, 0 ≤ c ∧ c < A 2 → A (1597 + 12 * c) ≤ 8) (hrw : ∀ c k, (0 ≤ c ∧ c < A 2) → (0 ≤ k ∧ k < A (1597 + 12 * c)) → 0 ≤ A (1598 + 12 * c + k) ∧ A (1598 + 12 * c + k) < A 1) {w0 : Int} (hw0 : 0 ≤ w0 ∧ w0 < A 1) {v : Int} : x_RT (x_up M (88 + w0) 2 v) (a_up A (1115 + 8 * w0) v) := by
  have e0 : (a_up A (1115 + 8 * w0) v) 0 = A 0 := (a_up_n (by omega))
  have e1 : (a_up A (1115 + 8 * w0) v) 1 = A 1 := (a_up_n (by omega))
  have e2 : (a_up A (1115 + 8 * w0) v) 2 = A 2 := (a_up_n (by omega))
  refine ⟨?_, ?_, ?_, ?_, ?_, ?_, ?_, ?_, ?_, ?_⟩
  · exact ⟨(x_eq1 (rt_n hR) rfl (by omega)), (x_eq1 (rt_m hR) rfl (by omega)), (x_eq1 (rt_q hR) rfl (by omega)), (x_eq1 (rt_h hR) rfl (by omega))⟩
  · exact ⟨fun s hs => (x_eqM (rt_sn hR hs) (by omega)), fun w hw => (x_eqM (rt_wn hR hw) (by omega)), fun c hc => (x_eqM (rt_cn hR hc) (by omega))⟩
  · intro s hs
    rw [e0] at hs
    exact ⟨(x_eq1 (rt_dk hR hs) rfl (by omega)), (x_eq1 (rt_fl hR hs) rfl (by omega)), (x_eq1 (rt_wt hR hs) rfl (by omega)), (x_eq1 (rt_oc hR hs) rfl (by omega)), (x_eq1 (rt_dm hR hs) rfl (by omega))⟩
  · intro s d hs hd
    rw [e0] at hs
    rw [show (a_up A (1115 + 8 * w0) v) (10 + 80 * s) = A (10 + 80 * s) from (a_up_n (by omega))] at hd
    have hk1 := hdk s hs
    exact (x_eq1 (rt_con hR hs hd) rfl (by omega))
  · intro s j hs hj
    rw [e0] at hs
    exact (x_eq1 (rt_len hR hs hj) rfl (by omega))
  · intro s k hs hk
    rw [e0] at hs
    rw [show (a_up A (1115 + 8 * w0) v) (25 + 80 * s) = A (25 + 80 * s) from (a_up_n (by omega))] at hk
    have hk1 := hoc s hs
    exact (x_eq1 (rt_oth hR hs hk) rfl (by omega))
  · intro s j hs hj
    rw [e0] at hs
    rw [show (a_up A (1115 + 8 * w0) v) (34 + 80 * s) = A (34 + 80 * s) from (a_up_n (by omega)), show (a_up A (1115 + 8 * w0) v) (35 + 80 * s + j) = A (35 + 80 * s + j) from (a_up_n (by omega)), show (a_up A (1115 + 8 * w0) v) (59 + 80 * s + j) = A (59 + 80 * s + j) from (a_up_n (by omega))]
    exact ⟨(x_eqM (rt_br hR hs hj) (by omega)), (x_eqM (rt_wa hR hs hj) (by omega))⟩
  · intro w hw
    rw [e1] at hw
    have hm := hm60
    refine ⟨(x_eq1 (rt_w1 hR hw) rfl (by omega)), (x_eq1 (rt_w2 hR hw) rfl (by omega)), (x_eq1 (rt_w3 hR hw) rfl (by omega)), ?_, ?_, fun hp => ?_, fun hp => ?_, fun hp => ?_⟩
    · rw [show (a_up A (1115 + 8 * w0) v) (1120 + 8 * w) = A (1120 + 8 * w) from (a_up_n (by omega))]
      exact (x_eqM (rt_w7 hR hw) (by omega))
    · rw [show (a_up A (1115 + 8 * w0) v) (1120 + 8 * w) = A (1120 + 8 * w) from (a_up_n (by omega))]
      exact (x_eqM (rt_w8 hR hw) (by omega))
    · rw [show (a_up A (1115 + 8 * w0) v) (1116 + 8 * w) = A (1116 + 8 * w) from (a_up_n (by omega))] at hp
      exact (x_eq1 (rt_w4 hR hw hp) rfl (by omega))
    · rw [show (a_up A (1115 + 8 * w0) v) (1116 + 8 * w) = A (1116 + 8 * w) from (a_up_n (by omega))] at hp
      exact (x_eq1 (rt_w5 hR hw hp) rfl (by omega))
    · rw [show (a_up A (1115 + 8 * w0) v) (1116 + 8 * w) = A (1116 + 8 * w) from (a_up_n (by omega))] at hp
      exact (x_eq1 (rt_w9 hR hw hp) rfl (by omega))
  · intro c hc
    rw [e2] at hc
    have hq := hq3
    refine ⟨(x_eq1 (rt_c1 hR hc) rfl (by omega)), (x_eq1 (rt_c2 hR hc) rfl (by omega)), (x_eq1 (rt_c4 hR hc) rfl (by omega)), (x_eq1 (rt_c6 hR hc) rfl (by omega)), ?_⟩
    rw [a_tk_cg (A := A) (a_up_n (by omega)) (fun k h1 h2 => ?_)]
    · exact (x_eqM (rt_c3 hR hc) (by omega))
    · have h3 := hcnt c hc
      have h4 := hrw c k hc ⟨h1, h2⟩
      rw [show (a_up A (1115 + 8 * w0) v) (1598 + 12 * c + k) = A (1598 + 12 * c + k) from (a_up_n (by omega)), show (a_up A (1115 + 8 * w0) v) (1114 + 8 * A (1598 + 12 * c + k)) = A (1114 + 8 * A (1598 + 12 * c + k)) from (a_up_n (by omega))]
  · intro c k hc hk
    rw [e2] at hc
    rw [show (a_up A (1115 + 8 * w0) v) (1597 + 12 * c) = A (1597 + 12 * c) from (a_up_n (by omega))] at hk
    have h3 := hcnt c hc
    exact (x_eq1 (rt_row hR hc hk) rfl (by omega))
theorem rt_upc2 {M : Int → Int → Int} {A : Int → Int} (hR : x_RT M A) (hn12 : 0 ≤ A 0 ∧ A 0 ≤ 12) (hm60 : 0 ≤ A 1 ∧ A 1 ≤ 60) (hq3 : 0 ≤ A 2 ∧ A 2 ≤ 3) (hdk : ∀ s, 0 ≤ s ∧ s < A 0 → A (10 + 80 * s) ≤ 12) (hoc : ∀ s, 0 ≤ s ∧ s < A 0 → A (25 + 80 * s) ≤ 8) (hcnt : ∀ c, 0 ≤ c ∧ c < A 2 → A (1597 + 12 * c) ≤ 8) (hrw : ∀ c k, (0 ≤ c ∧ c < A 2) → (0 ≤ k ∧ k < A (1597 + 12 * c)) → 0 ≤ A (1598 + 12 * c + k) ∧ A (1598 + 12 * c + k) < A 1) {c0 : Int} (hc0 : 0 ≤ c0 ∧ c0 < A 2) {v : Int} : x_RT (x_up M (149 + 2 * c0) 2 v) (a_up A (1595 + 12 * c0) v) := by
  have e0 : (a_up A (1595 + 12 * c0) v) 0 = A 0 := (a_up_n (by omega))
  have e1 : (a_up A (1595 + 12 * c0) v) 1 = A 1 := (a_up_n (by omega))
  have e2 : (a_up A (1595 + 12 * c0) v) 2 = A 2 := (a_up_n (by omega))
  refine ⟨?_, ?_, ?_, ?_, ?_, ?_, ?_, ?_, ?_, ?_⟩
  · exact ⟨(x_eq1 (rt_n hR) rfl (by omega)), (x_eq1 (rt_m hR) rfl (by omega)), (x_eq1 (rt_q hR) rfl (by omega)), (x_eq1 (rt_h hR) rfl (by omega))⟩
  · exact ⟨fun s hs => (x_eqM (rt_sn hR hs) (by omega)), fun w hw => (x_eqM (rt_wn hR hw) (by omega)), fun c hc => (x_eqM (rt_cn hR hc) (by omega))⟩
  · intro s hs
    rw [e0] at hs
    exact ⟨(x_eq1 (rt_dk hR hs) rfl (by omega)), (x_eq1 (rt_fl hR hs) rfl (by omega)), (x_eq1 (rt_wt hR hs) rfl (by omega)), (x_eq1 (rt_oc hR hs) rfl (by omega)), (x_eq1 (rt_dm hR hs) rfl (by omega))⟩
  · intro s d hs hd
    rw [e0] at hs
    rw [show (a_up A (1595 + 12 * c0) v) (10 + 80 * s) = A (10 + 80 * s) from (a_up_n (by omega))] at hd
    have hk1 := hdk s hs
    exact (x_eq1 (rt_con hR hs hd) rfl (by omega))
  · intro s j hs hj
    rw [e0] at hs
    exact (x_eq1 (rt_len hR hs hj) rfl (by omega))
  · intro s k hs hk
    rw [e0] at hs
    rw [show (a_up A (1595 + 12 * c0) v) (25 + 80 * s) = A (25 + 80 * s) from (a_up_n (by omega))] at hk
    have hk1 := hoc s hs
    exact (x_eq1 (rt_oth hR hs hk) rfl (by omega))
  · intro s j hs hj
    rw [e0] at hs
    rw [show (a_up A (1595 + 12 * c0) v) (34 + 80 * s) = A (34 + 80 * s) from (a_up_n (by omega)), show (a_up A (1595 + 12 * c0) v) (35 + 80 * s + j) = A (35 + 80 * s + j) from (a_up_n (by omega)), show (a_up A (1595 + 12 * c0) v) (59 + 80 * s + j) = A (59 + 80 * s + j) from (a_up_n (by omega))]
    exact ⟨(x_eqM (rt_br hR hs hj) (by omega)), (x_eqM (rt_wa hR hs hj) (by omega))⟩
  · intro w hw
    rw [e1] at hw
    have hm := hm60
    refine ⟨(x_eq1 (rt_w1 hR hw) rfl (by omega)), (x_eq1 (rt_w2 hR hw) rfl (by omega)), (x_eq1 (rt_w3 hR hw) rfl (by omega)), ?_, ?_, fun hp => ?_, fun hp => ?_, fun hp => ?_⟩
    · rw [show (a_up A (1595 + 12 * c0) v) (1120 + 8 * w) = A (1120 + 8 * w) from (a_up_n (by omega))]
      exact (x_eqM (rt_w7 hR hw) (by omega))
    · rw [show (a_up A (1595 + 12 * c0) v) (1120 + 8 * w) = A (1120 + 8 * w) from (a_up_n (by omega))]
      exact (x_eqM (rt_w8 hR hw) (by omega))
    · rw [show (a_up A (1595 + 12 * c0) v) (1116 + 8 * w) = A (1116 + 8 * w) from (a_up_n (by omega))] at hp
      exact (x_eq1 (rt_w4 hR hw hp) rfl (by omega))
    · rw [show (a_up A (1595 + 12 * c0) v) (1116 + 8 * w) = A (1116 + 8 * w) from (a_up_n (by omega))] at hp
      exact (x_eq1 (rt_w5 hR hw hp) rfl (by omega))
    · rw [show (a_up A (1595 + 12 * c0) v) (1116 + 8 * w) = A (1116 + 8 * w) from (a_up_n (by omega))] at hp
      exact (x_eq1 (rt_w9 hR hw hp) rfl (by omega))
  · intro c hc
    rw [e2] at hc
    have hq := hq3
    refine ⟨(x_eq1 (rt_c1 hR hc) rfl (by omega)), (x_eq1 (rt_c2 hR hc) rfl (by omega)), (x_eq1 (rt_c4 hR hc) rfl (by omega)), (x_eq1 (rt_c6 hR hc) rfl (by omega)), ?_⟩
    rw [a_tk_cg (A := A) (a_up_n (by omega)) (fun k h1 h2 => ?_)]
    · exact (x_eqM (rt_c3 hR hc) (by omega))
    · have h3 := hcnt c hc
      have h4 := hrw c k hc ⟨h1, h2⟩
      rw [show (a_up A (1595 + 12 * c0) v) (1598 + 12 * c + k) = A (1598 + 12 * c + k) from (a_up_n (by omega)), show (a_up A (1595 + 12 * c0) v) (1114 + 8 * A (1598 + 12 * c + k)) = A (1114 + 8 * A (1598 + 12 * c + k)) from (a_up_n (by omega))]
  · intro c k hc hk
    rw [e2] at hc
    rw [show (a_up A (1595 + 12 * c0) v) (1597 + 12 * c) = A (1597 + 12 * c) from (a_up_n (by omega))] at hk
    have h3 := hcnt c hc
    exact (x_eq1 (rt_row hR hc hk) rfl (by omega))
theorem rt_upc4 {M : Int → Int → Int} {A : Int → Int} (hR : x_RT M A) (hn12 : 0 ≤ A 0 ∧ A 0 ≤ 12) (hm60 : 0 ≤ A 1 ∧ A 1 ≤ 60) (hq3 : 0 ≤ A 2 ∧ A 2 ≤ 3) (hdk : ∀ s, 0 ≤ s ∧ s < A 0 → A (10 + 80 * s) ≤ 12) (hoc : ∀ s, 0 ≤ s ∧ s < A 0 → A (25 + 80 * s) ≤ 8) (hcnt : ∀ c, 0 ≤ c ∧ c < A 2 → A (1597 + 12 * c) ≤ 8) (hrw : ∀ c k, (0 ≤ c ∧ c < A 2) → (0 ≤ k ∧ k < A (1597 + 12 * c)) → 0 ≤ A (1598 + 12 * c + k) ∧ A (1598 + 12 * c + k) < A 1) {c0 : Int} (hc0 : 0 ≤ c0 ∧ c0 < A 2) {v : Int} : x_RT (x_up M (149 + 2 * c0) 4 v) (a_up A (1596 + 12 * c0) v) := by
  have e0 : (a_up A (1596 + 12 * c0) v) 0 = A 0 := (a_up_n (by omega))
  have e1 : (a_up A (1596 + 12 * c0) v) 1 = A 1 := (a_up_n (by omega))
  have e2 : (a_up A (1596 + 12 * c0) v) 2 = A 2 := (a_up_n (by omega))
  refine ⟨?_, ?_, ?_, ?_, ?_, ?_, ?_, ?_, ?_, ?_⟩
  · exact ⟨(x_eq1 (rt_n hR) rfl (by omega)), (x_eq1 (rt_m hR) rfl (by omega)), (x_eq1 (rt_q hR) rfl (by omega)), (x_eq1 (rt_h hR) rfl (by omega))⟩
  · exact ⟨fun s hs => (x_eqM (rt_sn hR hs) (by omega)), fun w hw => (x_eqM (rt_wn hR hw) (by omega)), fun c hc => (x_eqM (rt_cn hR hc) (by omega))⟩
  · intro s hs
    rw [e0] at hs
    exact ⟨(x_eq1 (rt_dk hR hs) rfl (by omega)), (x_eq1 (rt_fl hR hs) rfl (by omega)), (x_eq1 (rt_wt hR hs) rfl (by omega)), (x_eq1 (rt_oc hR hs) rfl (by omega)), (x_eq1 (rt_dm hR hs) rfl (by omega))⟩
  · intro s d hs hd
    rw [e0] at hs
    rw [show (a_up A (1596 + 12 * c0) v) (10 + 80 * s) = A (10 + 80 * s) from (a_up_n (by omega))] at hd
    have hk1 := hdk s hs
    exact (x_eq1 (rt_con hR hs hd) rfl (by omega))
  · intro s j hs hj
    rw [e0] at hs
    exact (x_eq1 (rt_len hR hs hj) rfl (by omega))
  · intro s k hs hk
    rw [e0] at hs
    rw [show (a_up A (1596 + 12 * c0) v) (25 + 80 * s) = A (25 + 80 * s) from (a_up_n (by omega))] at hk
    have hk1 := hoc s hs
    exact (x_eq1 (rt_oth hR hs hk) rfl (by omega))
  · intro s j hs hj
    rw [e0] at hs
    rw [show (a_up A (1596 + 12 * c0) v) (34 + 80 * s) = A (34 + 80 * s) from (a_up_n (by omega)), show (a_up A (1596 + 12 * c0) v) (35 + 80 * s + j) = A (35 + 80 * s + j) from (a_up_n (by omega)), show (a_up A (1596 + 12 * c0) v) (59 + 80 * s + j) = A (59 + 80 * s + j) from (a_up_n (by omega))]
    exact ⟨(x_eqM (rt_br hR hs hj) (by omega)), (x_eqM (rt_wa hR hs hj) (by omega))⟩
  · intro w hw
    rw [e1] at hw
    have hm := hm60
    refine ⟨(x_eq1 (rt_w1 hR hw) rfl (by omega)), (x_eq1 (rt_w2 hR hw) rfl (by omega)), (x_eq1 (rt_w3 hR hw) rfl (by omega)), ?_, ?_, fun hp => ?_, fun hp => ?_, fun hp => ?_⟩
    · rw [show (a_up A (1596 + 12 * c0) v) (1120 + 8 * w) = A (1120 + 8 * w) from (a_up_n (by omega))]
      exact (x_eqM (rt_w7 hR hw) (by omega))
    · rw [show (a_up A (1596 + 12 * c0) v) (1120 + 8 * w) = A (1120 + 8 * w) from (a_up_n (by omega))]
      exact (x_eqM (rt_w8 hR hw) (by omega))
    · rw [show (a_up A (1596 + 12 * c0) v) (1116 + 8 * w) = A (1116 + 8 * w) from (a_up_n (by omega))] at hp
      exact (x_eq1 (rt_w4 hR hw hp) rfl (by omega))
    · rw [show (a_up A (1596 + 12 * c0) v) (1116 + 8 * w) = A (1116 + 8 * w) from (a_up_n (by omega))] at hp
      exact (x_eq1 (rt_w5 hR hw hp) rfl (by omega))
    · rw [show (a_up A (1596 + 12 * c0) v) (1116 + 8 * w) = A (1116 + 8 * w) from (a_up_n (by omega))] at hp
      exact (x_eq1 (rt_w9 hR hw hp) rfl (by omega))
  · intro c hc
    rw [e2] at hc
    have hq := hq3
    refine ⟨(x_eq1 (rt_c1 hR hc) rfl (by omega)), (x_eq1 (rt_c2 hR hc) rfl (by omega)), (x_eq1 (rt_c4 hR hc) rfl (by omega)), (x_eq1 (rt_c6 hR hc) rfl (by omega)), ?_⟩
    rw [a_tk_cg (A := A) (a_up_n (by omega)) (fun k h1 h2 => ?_)]
    · exact (x_eqM (rt_c3 hR hc) (by omega))
    · have h3 := hcnt c hc
      have h4 := hrw c k hc ⟨h1, h2⟩
      rw [show (a_up A (1596 + 12 * c0) v) (1598 + 12 * c + k) = A (1598 + 12 * c + k) from (a_up_n (by omega)), show (a_up A (1596 + 12 * c0) v) (1114 + 8 * A (1598 + 12 * c + k)) = A (1114 + 8 * A (1598 + 12 * c + k)) from (a_up_n (by omega))]
  · intro c k hc hk
    rw [e2] at hc
    rw [show (a_up A (1596 + 12 * c0) v) (1597 + 12 * c) = A (1597 + 12 * c) from (a_up_n (by omega))] at hk
    have h3 := hcnt c hc
    exact (x_eq1 (rt_row hR hc hk) rfl (by omega))
theorem rt_upH {M : Int → Int → Int} {A : Int → Int} (hR : x_RT M A) (hn12 : 0 ≤ A 0 ∧ A 0 ≤ 12) (hm60 : 0 ≤ A 1 ∧ A 1 ≤ 60) (hq3 : 0 ≤ A 2 ∧ A 2 ≤ 3) (hdk : ∀ s, 0 ≤ s ∧ s < A 0 → A (10 + 80 * s) ≤ 12) (hoc : ∀ s, 0 ≤ s ∧ s < A 0 → A (25 + 80 * s) ≤ 8) (hcnt : ∀ c, 0 ≤ c ∧ c < A 2 → A (1597 + 12 * c) ≤ 8) (hrw : ∀ c k, (0 ≤ c ∧ c < A 2) → (0 ≤ k ∧ k < A (1597 + 12 * c)) → 0 ≤ A (1598 + 12 * c + k) ∧ A (1598 + 12 * c + k) < A 1) {v : Int} : x_RT (x_up M 1 6 v) (a_up A 3 v) := by
  have e0 : (a_up A 3 v) 0 = A 0 := (a_up_n (by omega))
  have e1 : (a_up A 3 v) 1 = A 1 := (a_up_n (by omega))
  have e2 : (a_up A 3 v) 2 = A 2 := (a_up_n (by omega))
  refine ⟨?_, ?_, ?_, ?_, ?_, ?_, ?_, ?_, ?_, ?_⟩
  · exact ⟨(x_eq1 (rt_n hR) rfl (by omega)), (x_eq1 (rt_m hR) rfl (by omega)), (x_eq1 (rt_q hR) rfl (by omega)), (x_eq1 (rt_h hR) rfl (by omega))⟩
  · exact ⟨fun s hs => (x_eqM (rt_sn hR hs) (by omega)), fun w hw => (x_eqM (rt_wn hR hw) (by omega)), fun c hc => (x_eqM (rt_cn hR hc) (by omega))⟩
  · intro s hs
    rw [e0] at hs
    exact ⟨(x_eq1 (rt_dk hR hs) rfl (by omega)), (x_eq1 (rt_fl hR hs) rfl (by omega)), (x_eq1 (rt_wt hR hs) rfl (by omega)), (x_eq1 (rt_oc hR hs) rfl (by omega)), (x_eq1 (rt_dm hR hs) rfl (by omega))⟩
  · intro s d hs hd
    rw [e0] at hs
    rw [show (a_up A 3 v) (10 + 80 * s) = A (10 + 80 * s) from (a_up_n (by omega))] at hd
    have hk1 := hdk s hs
    exact (x_eq1 (rt_con hR hs hd) rfl (by omega))
  · intro s j hs hj
    rw [e0] at hs
    exact (x_eq1 (rt_len hR hs hj) rfl (by omega))
  · intro s k hs hk
    rw [e0] at hs
    rw [show (a_up A 3 v) (25 + 80 * s) = A (25 + 80 * s) from (a_up_n (by omega))] at hk
    have hk1 := hoc s hs
    exact (x_eq1 (rt_oth hR hs hk) rfl (by omega))
  · intro s j hs hj
    rw [e0] at hs
    rw [show (a_up A 3 v) (34 + 80 * s) = A (34 + 80 * s) from (a_up_n (by omega)), show (a_up A 3 v) (35 + 80 * s + j) = A (35 + 80 * s + j) from (a_up_n (by omega)), show (a_up A 3 v) (59 + 80 * s + j) = A (59 + 80 * s + j) from (a_up_n (by omega))]
    exact ⟨(x_eqM (rt_br hR hs hj) (by omega)), (x_eqM (rt_wa hR hs hj) (by omega))⟩
  · intro w hw
    rw [e1] at hw
    have hm := hm60
    refine ⟨(x_eq1 (rt_w1 hR hw) rfl (by omega)), (x_eq1 (rt_w2 hR hw) rfl (by omega)), (x_eq1 (rt_w3 hR hw) rfl (by omega)), ?_, ?_, fun hp => ?_, fun hp => ?_, fun hp => ?_⟩
    · rw [show (a_up A 3 v) (1120 + 8 * w) = A (1120 + 8 * w) from (a_up_n (by omega))]
      exact (x_eqM (rt_w7 hR hw) (by omega))
    · rw [show (a_up A 3 v) (1120 + 8 * w) = A (1120 + 8 * w) from (a_up_n (by omega))]
      exact (x_eqM (rt_w8 hR hw) (by omega))
    · rw [show (a_up A 3 v) (1116 + 8 * w) = A (1116 + 8 * w) from (a_up_n (by omega))] at hp
      exact (x_eq1 (rt_w4 hR hw hp) rfl (by omega))
    · rw [show (a_up A 3 v) (1116 + 8 * w) = A (1116 + 8 * w) from (a_up_n (by omega))] at hp
      exact (x_eq1 (rt_w5 hR hw hp) rfl (by omega))
    · rw [show (a_up A 3 v) (1116 + 8 * w) = A (1116 + 8 * w) from (a_up_n (by omega))] at hp
      exact (x_eq1 (rt_w9 hR hw hp) rfl (by omega))
  · intro c hc
    rw [e2] at hc
    have hq := hq3
    refine ⟨(x_eq1 (rt_c1 hR hc) rfl (by omega)), (x_eq1 (rt_c2 hR hc) rfl (by omega)), (x_eq1 (rt_c4 hR hc) rfl (by omega)), (x_eq1 (rt_c6 hR hc) rfl (by omega)), ?_⟩
    rw [a_tk_cg (A := A) (a_up_n (by omega)) (fun k h1 h2 => ?_)]
    · exact (x_eqM (rt_c3 hR hc) (by omega))
    · have h3 := hcnt c hc
      have h4 := hrw c k hc ⟨h1, h2⟩
      rw [show (a_up A 3 v) (1598 + 12 * c + k) = A (1598 + 12 * c + k) from (a_up_n (by omega)), show (a_up A 3 v) (1114 + 8 * A (1598 + 12 * c + k)) = A (1114 + 8 * A (1598 + 12 * c + k)) from (a_up_n (by omega))]
  · intro c k hc hk
    rw [e2] at hc
    rw [show (a_up A 3 v) (1597 + 12 * c) = A (1597 + 12 * c) from (a_up_n (by omega))] at hk
    have h3 := hcnt c hc
    exact (x_eq1 (rt_row hR hc hk) rfl (by omega))
theorem rt_upL {M : Int → Int → Int} {A : Int → Int} (hR : x_RT M A) (hn12 : 0 ≤ A 0 ∧ A 0 ≤ 12) (hm60 : 0 ≤ A 1 ∧ A 1 ≤ 60) (hq3 : 0 ≤ A 2 ∧ A 2 ≤ 3) (hdk : ∀ s, 0 ≤ s ∧ s < A 0 → A (10 + 80 * s) ≤ 12) (hoc : ∀ s, 0 ≤ s ∧ s < A 0 → A (25 + 80 * s) ≤ 8) (hcnt : ∀ c, 0 ≤ c ∧ c < A 2 → A (1597 + 12 * c) ≤ 8) (hrw : ∀ c k, (0 ≤ c ∧ c < A 2) → (0 ≤ k ∧ k < A (1597 + 12 * c)) → 0 ≤ A (1598 + 12 * c + k) ∧ A (1598 + 12 * c + k) < A 1) {s0 : Int} (hs0 : 0 ≤ s0 ∧ s0 < A 0) {t0 v : Int} (ht0 : 0 ≤ t0 ∧ t0 < 12) : x_RT (x_up M (5 + 7 * s0) t0 v) (a_up A (970 + 12 * s0 + t0) v) := by
  have e0 : (a_up A (970 + 12 * s0 + t0) v) 0 = A 0 := (a_up_n (by omega))
  have e1 : (a_up A (970 + 12 * s0 + t0) v) 1 = A 1 := (a_up_n (by omega))
  have e2 : (a_up A (970 + 12 * s0 + t0) v) 2 = A 2 := (a_up_n (by omega))
  refine ⟨?_, ?_, ?_, ?_, ?_, ?_, ?_, ?_, ?_, ?_⟩
  · exact ⟨(x_eq1 (rt_n hR) rfl (by omega)), (x_eq1 (rt_m hR) rfl (by omega)), (x_eq1 (rt_q hR) rfl (by omega)), (x_eq1 (rt_h hR) rfl (by omega))⟩
  · exact ⟨fun s hs => (x_eqM (rt_sn hR hs) (by omega)), fun w hw => (x_eqM (rt_wn hR hw) (by omega)), fun c hc => (x_eqM (rt_cn hR hc) (by omega))⟩
  · intro s hs
    rw [e0] at hs
    exact ⟨(x_eq1 (rt_dk hR hs) rfl (by omega)), (x_eq1 (rt_fl hR hs) rfl (by omega)), (x_eq1 (rt_wt hR hs) rfl (by omega)), (x_eq1 (rt_oc hR hs) rfl (by omega)), (x_eq1 (rt_dm hR hs) rfl (by omega))⟩
  · intro s d hs hd
    rw [e0] at hs
    rw [show (a_up A (970 + 12 * s0 + t0) v) (10 + 80 * s) = A (10 + 80 * s) from (a_up_n (by omega))] at hd
    have hk1 := hdk s hs
    exact (x_eq1 (rt_con hR hs hd) rfl (by omega))
  · intro s j hs hj
    rw [e0] at hs
    exact (x_eq1 (rt_len hR hs hj) rfl (by omega))
  · intro s k hs hk
    rw [e0] at hs
    rw [show (a_up A (970 + 12 * s0 + t0) v) (25 + 80 * s) = A (25 + 80 * s) from (a_up_n (by omega))] at hk
    have hk1 := hoc s hs
    exact (x_eq1 (rt_oth hR hs hk) rfl (by omega))
  · intro s j hs hj
    rw [e0] at hs
    rw [show (a_up A (970 + 12 * s0 + t0) v) (34 + 80 * s) = A (34 + 80 * s) from (a_up_n (by omega)), show (a_up A (970 + 12 * s0 + t0) v) (35 + 80 * s + j) = A (35 + 80 * s + j) from (a_up_n (by omega)), show (a_up A (970 + 12 * s0 + t0) v) (59 + 80 * s + j) = A (59 + 80 * s + j) from (a_up_n (by omega))]
    exact ⟨(x_eqM (rt_br hR hs hj) (by omega)), (x_eqM (rt_wa hR hs hj) (by omega))⟩
  · intro w hw
    rw [e1] at hw
    have hm := hm60
    refine ⟨(x_eq1 (rt_w1 hR hw) rfl (by omega)), (x_eq1 (rt_w2 hR hw) rfl (by omega)), (x_eq1 (rt_w3 hR hw) rfl (by omega)), ?_, ?_, fun hp => ?_, fun hp => ?_, fun hp => ?_⟩
    · rw [show (a_up A (970 + 12 * s0 + t0) v) (1120 + 8 * w) = A (1120 + 8 * w) from (a_up_n (by omega))]
      exact (x_eqM (rt_w7 hR hw) (by omega))
    · rw [show (a_up A (970 + 12 * s0 + t0) v) (1120 + 8 * w) = A (1120 + 8 * w) from (a_up_n (by omega))]
      exact (x_eqM (rt_w8 hR hw) (by omega))
    · rw [show (a_up A (970 + 12 * s0 + t0) v) (1116 + 8 * w) = A (1116 + 8 * w) from (a_up_n (by omega))] at hp
      exact (x_eq1 (rt_w4 hR hw hp) rfl (by omega))
    · rw [show (a_up A (970 + 12 * s0 + t0) v) (1116 + 8 * w) = A (1116 + 8 * w) from (a_up_n (by omega))] at hp
      exact (x_eq1 (rt_w5 hR hw hp) rfl (by omega))
    · rw [show (a_up A (970 + 12 * s0 + t0) v) (1116 + 8 * w) = A (1116 + 8 * w) from (a_up_n (by omega))] at hp
      exact (x_eq1 (rt_w9 hR hw hp) rfl (by omega))
  · intro c hc
    rw [e2] at hc
    have hq := hq3
    refine ⟨(x_eq1 (rt_c1 hR hc) rfl (by omega)), (x_eq1 (rt_c2 hR hc) rfl (by omega)), (x_eq1 (rt_c4 hR hc) rfl (by omega)), (x_eq1 (rt_c6 hR hc) rfl (by omega)), ?_⟩
    rw [a_tk_cg (A := A) (a_up_n (by omega)) (fun k h1 h2 => ?_)]
    · exact (x_eqM (rt_c3 hR hc) (by omega))
    · have h3 := hcnt c hc
      have h4 := hrw c k hc ⟨h1, h2⟩
      rw [show (a_up A (970 + 12 * s0 + t0) v) (1598 + 12 * c + k) = A (1598 + 12 * c + k) from (a_up_n (by omega)), show (a_up A (970 + 12 * s0 + t0) v) (1114 + 8 * A (1598 + 12 * c + k)) = A (1114 + 8 * A (1598 + 12 * c + k)) from (a_up_n (by omega))]
  · intro c k hc hk
    rw [e2] at hc
    rw [show (a_up A (970 + 12 * s0 + t0) v) (1597 + 12 * c) = A (1597 + 12 * c) from (a_up_n (by omega))] at hk
    have h3 := hcnt c hc
    exact (x_eq1 (rt_row hR hc hk) rfl (by omega))
