/-! THE FULL RELATION, CALL BY CALL -/
theorem jf_mono {B B2 z : Int} {P M : Int → Int → Int} (h : y_JF B z P M) (q : B ≤ B2) : y_JF B2 z P M := ⟨h.1, h.2.1, h.2.2.1, g_mono h.2.2.2.1 q, fun k h0 h4 nk => ⟨(h.2.2.2.2 k h0 h4 nk).1, g_mono (h.2.2.2.2 k h0 h4 nk).2 q⟩⟩
theorem JF_stand {B z : Int} {P M : Int → Int → Int} (h : y_JF B z P M) {n : Int} (tx : y_TL 2 M (u_x_stand n M)) (tn : y_TL 8 (u_x_stand n M) (u_n_stand n (u_x_stand n M))) (J2 : y_J z P (u_n_stand n (u_x_stand n M))) : y_JF (B + 6993) z P (u_n_stand n (u_x_stand n M)) ∧ v_x_stand n M = v_n_stand n (u_x_stand n M) := by
  have t1 : ∀ c k, 162 ≤ c → (u_x_stand n M) c k = M c k := fun c k q => tx.2 c k (Or.inr q)
  have b1 := jf_1 h t1
  have O := O_stand b1.1 n
  have Q := Q_stand b1.1 n
  exact ⟨jf_gen h J2 t1 (fun c k q => tn.2 c k (by
    rcases q with q | q | q
    · exact Or.inl q
    · exact Or.inr (Or.inl q)
    · exact Or.inr (Or.inr (Or.inr q)))) O.2 (R_Q b1.2.1 Q.1 Q.2) (g_Q b1.2.2 Q.2), O.1⟩
theorem JF_length {B z : Int} {P M : Int → Int → Int} (h : y_JF B z P M) {a b l : Int} (tx : y_TL 0 M (u_x_length a b l M)) (tn : y_TL 1 (u_x_length a b l M) (u_n_length a b l (u_x_length a b l M))) (J2 : y_J z P (u_n_length a b l (u_x_length a b l M))) : y_JF (B + 6993) z P (u_n_length a b l (u_x_length a b l M)) ∧ v_x_length a b l M = v_n_length a b l (u_x_length a b l M) := by
  have t1 : ∀ c k, 162 ≤ c → (u_x_length a b l M) c k = M c k := fun c k q => tx.2 c k (Or.inr (Or.inl q))
  have b1 := jf_1 h t1
  have O := O_length b1.1 a b l
  have Q := Q_length b1.1 a b l
  exact ⟨jf_gen h J2 t1 (fun c k q => tn.2 c k (by
    rcases q with q | q | q
    · exact Or.inl q
    · exact Or.inr (Or.inl q)
    · exact Or.inr (Or.inr (Or.inl ⟨q.1, by omega⟩)))) O.2 (R_Q b1.2.1 Q.1 Q.2) (g_Q b1.2.2 Q.2), O.1⟩
theorem JF_next {B z : Int} {P M : Int → Int → Int} (h : y_JF B z P M) {a b : Int} (tx : y_TL 2 M (u_x_next a b M)) (tn : y_TL 8 (u_x_next a b M) (u_n_next a b (u_x_next a b M))) (J2 : y_J z P (u_n_next a b (u_x_next a b M))) : y_JF (B + 6993) z P (u_n_next a b (u_x_next a b M)) ∧ v_x_next a b M = v_n_next a b (u_x_next a b M) := by
  have t1 : ∀ c k, 162 ≤ c → (u_x_next a b M) c k = M c k := fun c k q => tx.2 c k (Or.inr q)
  have b1 := jf_1 h t1
  have O := O_next b1.1 a b
  have Q := Q_next b1.1 a b
  exact ⟨jf_gen h J2 t1 (fun c k q => tn.2 c k (by
    rcases q with q | q | q
    · exact Or.inl q
    · exact Or.inr (Or.inl q)
    · exact Or.inr (Or.inr (Or.inr q)))) O.2 (R_Q b1.2.1 Q.1 Q.2) (g_Q b1.2.2 Q.2), O.1⟩
theorem JF_tear {B z : Int} {P M : Int → Int → Int} (h : y_JF B z P M) {a b : Int} (tx : y_TL 2 M (u_x_tear a b M)) (tn : y_TL 8 (u_x_tear a b M) (u_n_tear a b (u_x_tear a b M))) (J2 : y_J z P (u_n_tear a b (u_x_tear a b M))) : y_JF (B + 6993) z P (u_n_tear a b (u_x_tear a b M)) ∧ v_x_tear a b M = v_n_tear a b (u_x_tear a b M) := by
  have t1 : ∀ c k, 162 ≤ c → (u_x_tear a b M) c k = M c k := fun c k q => tx.2 c k (Or.inr q)
  have b1 := jf_1 h t1
  have O := O_tear b1.1 a b
  have Q := Q_tear b1.1 a b
  exact ⟨jf_gen h J2 t1 (fun c k q => tn.2 c k (by
    rcases q with q | q | q
    · exact Or.inl q
    · exact Or.inr (Or.inl q)
    · exact Or.inr (Or.inr (Or.inr q)))) O.2 (R_Q b1.2.1 Q.1 Q.2) (g_Q b1.2.2 Q.2), O.1⟩
theorem JF_block {B z : Int} {P M : Int → Int → Int} (h : y_JF B z P M) {a b d : Int} (tx : y_TL 0 M (u_x_block a b d M)) (tn : y_TL 1 (u_x_block a b d M) (u_n_block a b d (u_x_block a b d M))) (J2 : y_J z P (u_n_block a b d (u_x_block a b d M))) : y_JF (B + 6993) z P (u_n_block a b d (u_x_block a b d M)) ∧ v_x_block a b d M = v_n_block a b d (u_x_block a b d M) := by
  have t1 : ∀ c k, 162 ≤ c → (u_x_block a b d M) c k = M c k := fun c k q => tx.2 c k (Or.inr (Or.inl q))
  have b1 := jf_1 h t1
  have O := O_block b1.1 a b d
  have Q := Q_block b1.1 a b d
  exact ⟨jf_gen h J2 t1 (fun c k q => tn.2 c k (by
    rcases q with q | q | q
    · exact Or.inl q
    · exact Or.inr (Or.inl q)
    · exact Or.inr (Or.inr (Or.inl ⟨q.1, by omega⟩)))) O.2 (R_Q b1.2.1 Q.1 Q.2) (g_Q b1.2.2 Q.2), O.1⟩
theorem JF_put {B z : Int} {P M : Int → Int → Int} (h : y_JF B z P M) {a b d : Int} (tx : y_TL 9 M (u_x_put a b d M)) (tn : y_TL 10 (u_x_put a b d M) (u_n_put a b d (u_x_put a b d M))) (J2 : y_J z P (u_n_put a b d (u_x_put a b d M))) : y_JF (B + 6993) z P (u_n_put a b d (u_x_put a b d M)) ∧ v_x_put a b d M = v_n_put a b d (u_x_put a b d M) := by
  have t1 : ∀ c k, 162 ≤ c → (u_x_put a b d M) c k = M c k := fun c k q => tx.2 c k (Or.inr (Or.inl q))
  have b1 := jf_1 h t1
  have kp : ∀ w, 0 ≤ w → w < 60 → 0 ≤ (u_x_put a b d M) 163 (1116 + 8 * w) ∧ (u_x_put a b d M) 163 (1116 + 8 * w) ≤ 3 := fun w w0 w1 => by
    have q := tx.1.1 163 (1116 + 8 * w)
    unfold y_okv y_okm y_oA y_oAW at q
    rw [if_neg (by omega), if_neg (by omega), if_pos (by omega), if_neg (by omega), if_neg (by omega), if_neg (by omega), if_neg (by omega), if_neg (by omega), if_neg (by omega), if_pos rfl, if_neg (by omega), if_neg (by omega), if_neg (by omega), if_pos (by omega), if_neg (by omega), if_neg (by omega), if_pos (by omega)] at q
    exact q
  have O := O_put b1.1 a b d kp
  have Q := Q_put b1.1 a b d
  exact ⟨jf_gen h J2 t1 (fun c k q => tn.2 c k (by
    rcases q with q | q | q
    · exact Or.inl q
    · exact Or.inr (Or.inl q)
    · exact Or.inr (Or.inr ⟨Or.inl ⟨q.1, by omega⟩, by omega⟩))) O.2 (R_Q b1.2.1 Q.1 Q.2) (g_Q b1.2.2 Q.2), O.1⟩
theorem JF_charge {B z : Int} {P M : Int → Int → Int} (h : y_JF B z P M) {a b : Int} (tx : y_TL 0 M (u_x_charge a b M)) (tn : y_TL 1 (u_x_charge a b M) (u_n_charge a b (u_x_charge a b M))) (J2 : y_J z P (u_n_charge a b (u_x_charge a b M))) : y_JF (B + 6993) z P (u_n_charge a b (u_x_charge a b M)) ∧ v_x_charge a b M = v_n_charge a b (u_x_charge a b M) := by
  have t1 : ∀ c k, 162 ≤ c → (u_x_charge a b M) c k = M c k := fun c k q => tx.2 c k (Or.inr (Or.inl q))
  have b1 := jf_1 h t1
  have ht := y_thou_in b
  have O := O_charge b1.1 a b (by omega)
  have Q := Q_charge b1.1 a b
  exact ⟨jf_gen h J2 t1 (fun c k q => tn.2 c k (by
    rcases q with q | q | q
    · exact Or.inl q
    · exact Or.inr (Or.inl q)
    · exact Or.inr (Or.inr (Or.inl ⟨q.1, by omega⟩)))) O.2 (R_Q b1.2.1 Q.1 Q.2) (g_Q b1.2.2 Q.2), O.1⟩
theorem JF_fault {B z : Int} {P M : Int → Int → Int} (h : y_JF B z P M) {a : Int} (tx : y_TL 0 M (u_x_fault a M)) (tn : y_TL 1 (u_x_fault a M) (u_n_fault a (u_x_fault a M))) (J2 : y_J z P (u_n_fault a (u_x_fault a M))) : y_JF (B + 6993) z P (u_n_fault a (u_x_fault a M)) ∧ v_x_fault a M = v_n_fault a (u_x_fault a M) := by
  have t1 : ∀ c k, 162 ≤ c → (u_x_fault a M) c k = M c k := fun c k q => tx.2 c k (Or.inr (Or.inl q))
  have b1 := jf_1 h t1
  have O := O_fault b1.1 a
  have Q := Q_fault b1.1 a
  exact ⟨jf_gen h J2 t1 (fun c k q => tn.2 c k (by
    rcases q with q | q | q
    · exact Or.inl q
    · exact Or.inr (Or.inl q)
    · exact Or.inr (Or.inr (Or.inl ⟨q.1, by omega⟩)))) O.2 (R_Q b1.2.1 Q.1 Q.2) (g_Q b1.2.2 Q.2), O.1⟩
theorem JF_test {B z : Int} {P M : Int → Int → Int} (h : y_JF B z P M) {a : Int} (tx : y_TL 0 M (u_x_test a M)) (tn : y_TL 1 (u_x_test a M) (u_n_test a (u_x_test a M))) (J2 : y_J z P (u_n_test a (u_x_test a M))) : y_JF (B + 6993) z P (u_n_test a (u_x_test a M)) ∧ v_x_test a M = v_n_test a (u_x_test a M) := by
  have t1 : ∀ c k, 162 ≤ c → (u_x_test a M) c k = M c k := fun c k q => tx.2 c k (Or.inr (Or.inl q))
  have b1 := jf_1 h t1
  have O := O_test b1.1 a
  have Q := Q_test b1.1 a
  exact ⟨jf_gen h J2 t1 (fun c k q => tn.2 c k (by
    rcases q with q | q | q
    · exact Or.inl q
    · exact Or.inr (Or.inl q)
    · exact Or.inr (Or.inr (Or.inl ⟨q.1, by omega⟩)))) O.2 (R_Q b1.2.1 Q.1 Q.2) (g_Q b1.2.2 Q.2), O.1⟩
theorem JF_mend {B z : Int} {P M : Int → Int → Int} (h : y_JF B z P M) {a : Int} (tx : y_TL 0 M (u_x_mend a M)) (tn : y_TL 1 (u_x_mend a M) (u_n_mend a (u_x_mend a M))) (J2 : y_J z P (u_n_mend a (u_x_mend a M))) : y_JF (B + 6993) z P (u_n_mend a (u_x_mend a M)) ∧ v_x_mend a M = v_n_mend a (u_x_mend a M) := by
  have t1 : ∀ c k, 162 ≤ c → (u_x_mend a M) c k = M c k := fun c k q => tx.2 c k (Or.inr (Or.inl q))
  have b1 := jf_1 h t1
  have O := O_mend b1.1 a
  have Q := Q_mend b1.1 a
  exact ⟨jf_gen h J2 t1 (fun c k q => tn.2 c k (by
    rcases q with q | q | q
    · exact Or.inl q
    · exact Or.inr (Or.inl q)
    · exact Or.inr (Or.inr (Or.inl ⟨q.1, by omega⟩)))) O.2 (R_Q b1.2.1 Q.1 Q.2) (g_Q b1.2.2 Q.2), O.1⟩
theorem JF_hire {B z : Int} {P M : Int → Int → Int} (h : y_JF B z P M) {a b d : Int} (tx : y_TL 0 M (u_x_hire a b d M)) (tn : y_TL 1 (u_x_hire a b d M) (u_n_hire a b d (u_x_hire a b d M))) (J2 : y_J z P (u_n_hire a b d (u_x_hire a b d M))) : y_JF (B + 6993) z P (u_n_hire a b d (u_x_hire a b d M)) ∧ v_x_hire a b d M = v_n_hire a b d (u_x_hire a b d M) := by
  have t1 : ∀ c k, 162 ≤ c → (u_x_hire a b d M) c k = M c k := fun c k q => tx.2 c k (Or.inr (Or.inl q))
  have b1 := jf_1 h t1
  have O := O_hire b1.1 a b d
  have Q := Q_hire b1.1 a b d
  exact ⟨jf_gen h J2 t1 (fun c k q => tn.2 c k (by
    rcases q with q | q | q
    · exact Or.inl q
    · exact Or.inr (Or.inl q)
    · exact Or.inr (Or.inr (Or.inl ⟨q.1, by omega⟩)))) O.2 (R_Q b1.2.1 Q.1 Q.2) (g_Q b1.2.2 Q.2), O.1⟩
theorem JF_end {B z : Int} {P M : Int → Int → Int} (h : y_JF B z P M) {a b : Int} (tx : y_TL 0 M (u_x_end a b M)) (tn : y_TL 1 (u_x_end a b M) (u_n_end a b (u_x_end a b M))) (J2 : y_J z P (u_n_end a b (u_x_end a b M))) : y_JF (B + 6993) z P (u_n_end a b (u_x_end a b M)) ∧ v_x_end a b M = v_n_end a b (u_x_end a b M) := by
  have t1 : ∀ c k, 162 ≤ c → (u_x_end a b M) c k = M c k := fun c k q => tx.2 c k (Or.inr (Or.inl q))
  have b1 := jf_1 h t1
  have O := O_end b1.1 a b
  have Q := Q_end b1.1 a b
  exact ⟨jf_gen h J2 t1 (fun c k q => tn.2 c k (by
    rcases q with q | q | q
    · exact Or.inl q
    · exact Or.inr (Or.inl q)
    · exact Or.inr (Or.inr (Or.inl ⟨q.1, by omega⟩)))) O.2 (R_Q b1.2.1 Q.1 Q.2) (g_Q b1.2.2 Q.2), O.1⟩
theorem JF_hour {B z : Int} {P M : Int → Int → Int} (h : y_JF B z P M) (tx : y_TL 2 M (u_x_hour M)) (tn : y_TL 8 (u_x_hour M) (u_n_hour (u_x_hour M))) (J2 : y_J z P (u_n_hour (u_x_hour M))) : y_JF (B + 6993) z P (u_n_hour (u_x_hour M)) ∧ v_x_hour M = v_n_hour (u_x_hour M) := by
  have t1 : ∀ c k, 162 ≤ c → (u_x_hour M) c k = M c k := fun c k q => tx.2 c k (Or.inr q)
  have b1 := jf_1 h t1
  have O := O_hour b1.1
  have Q := Q_hour b1.1
  exact ⟨jf_gen h J2 t1 (fun c k q => tn.2 c k (by
    rcases q with q | q | q
    · exact Or.inl q
    · exact Or.inr (Or.inl q)
    · exact Or.inr (Or.inr (Or.inr q)))) O.2 (R_Q b1.2.1 Q.1 Q.2) (g_Q b1.2.2 Q.2), O.1⟩
theorem JF_cart {B z : Int} {P M : Int → Int → Int} (h : y_JF B z P M) {a b : Int} (hB : 0 ≤ B ∧ B ≤ 900000000) (tx : y_TL 2 M (u_x_cart a b M)) (tn : y_TL 8 (u_x_cart a b M) (u_n_cart a b (u_x_cart a b M))) (J2 : y_J z P (u_n_cart a b (u_x_cart a b M))) : y_JF (B + 6993) z P (u_n_cart a b (u_x_cart a b M)) ∧ v_x_cart a b M = v_n_cart a b (u_x_cart a b M) := by
  have t1 : ∀ c k, 162 ≤ c → (u_x_cart a b M) c k = M c k := fun c k q => tx.2 c k (Or.inr q)
  have b1 := jf_1 h t1
  have O := O_cart b1.1 a b
  have Q := Q_cart b1.1 a b
  exact ⟨jf_gen h J2 t1 (fun c k q => tn.2 c k (by
    rcases q with q | q | q
    · exact Or.inl q
    · exact Or.inr (Or.inl q)
    · exact Or.inr (Or.inr (Or.inr q)))) O.2 (R_cong b1.2.1 (Q.1 _ _ (by omega)) (fun k => Q.1 _ _ (by omega)) (Q.2.1 _ _ (by omega)) (fun k => Q.2.1 _ _ (by omega))) (g_mono (Q.2.2 B hB.1 b1.2.2) (by omega)), O.1⟩
theorem JF_drive {B z : Int} {P M : Int → Int → Int} (h : y_JF B z P M) {a b : Int} (hB : 0 ≤ B ∧ B ≤ 900000000) (tx : y_TL 0 M (u_x_drive a b M)) (tn : y_TL 1 (u_x_drive a b M) (u_n_drive a b (u_x_drive a b M))) (J2 : y_J z P (u_n_drive a b (u_x_drive a b M))) : y_JF (B + 6993) z P (u_n_drive a b (u_x_drive a b M)) ∧ v_x_drive a b M = v_n_drive a b (u_x_drive a b M) := by
  have t1 : ∀ c k, 162 ≤ c → (u_x_drive a b M) c k = M c k := fun c k q => tx.2 c k (Or.inr (Or.inl q))
  have b1 := jf_1 h t1
  have O := O_drive b1.1 a b
  have Q := Q_drive b1.1 a b
  exact ⟨jf_gen h J2 t1 (fun c k q => tn.2 c k (by
    rcases q with q | q | q
    · exact Or.inl q
    · exact Or.inr (Or.inl q)
    · exact Or.inr (Or.inr (Or.inl ⟨q.1, by omega⟩)))) O.2 (R_cong b1.2.1 (Q.1 _ _ (by omega)) (fun k => Q.1 _ _ (by omega)) (Q.2.1 _ _ (by omega)) (fun k => Q.2.1 _ _ (by omega))) (g_mono (Q.2.2 B hB.1 hB.2 b1.2.2) (by omega)), O.1⟩
theorem JF_pick {B z : Int} {P M : Int → Int → Int} (h : y_JF B z P M) {a b : Int} (tx : y_TL 0 M (u_x_pick a b M)) (tn : y_TL 1 (u_x_pick a b M) (u_n_pick a b (u_x_pick a b M))) (J2 : y_J z P (u_n_pick a b (u_x_pick a b M))) : y_JF (B + 6993) z P (u_n_pick a b (u_x_pick a b M)) ∧ v_x_pick a b M = v_n_pick a b (u_x_pick a b M) := by
  have t1 : ∀ c k, 162 ≤ c → (u_x_pick a b M) c k = M c k := fun c k q => tx.2 c k (Or.inr (Or.inl q))
  have b1 := jf_1 h t1
  have O := O_pick b1.1 a b
  have Q := Q_pick b1.1 a b
  exact ⟨jf_gen h J2 t1 (fun c k q => tn.2 c k (by
    rcases q with q | q | q
    · exact Or.inl q
    · exact Or.inr (Or.inl q)
    · exact Or.inr (Or.inr (Or.inl ⟨q.1, by omega⟩)))) O.2 (R_Q b1.2.1 Q.1 Q.2) (g_Q b1.2.2 Q.2), O.1⟩
theorem JF_fetch {B z : Int} {P M : Int → Int → Int} (h : y_JF B z P M) {a b : Int} (tx : y_TL 0 M (u_x_fetch a b M)) (tn : y_TL 1 (u_x_fetch a b M) (u_n_fetch a b (u_x_fetch a b M))) (J2 : y_J z P (u_n_fetch a b (u_x_fetch a b M))) : y_JF (B + 6993) z P (u_n_fetch a b (u_x_fetch a b M)) ∧ v_x_fetch a b M = v_n_fetch a b (u_x_fetch a b M) := by
  have t1 : ∀ c k, 162 ≤ c → (u_x_fetch a b M) c k = M c k := fun c k q => tx.2 c k (Or.inr (Or.inl q))
  have b1 := jf_1 h t1
  have O := O_fetch b1.1 a b
  have Q := Q_fetch b1.1 a b
  exact ⟨jf_gen h J2 t1 (fun c k q => tn.2 c k (by
    rcases q with q | q | q
    · exact Or.inl q
    · exact Or.inr (Or.inl q)
    · exact Or.inr (Or.inr (Or.inl ⟨q.1, by omega⟩)))) O.2 (R_Q b1.2.1 Q.1 Q.2) (g_Q b1.2.2 Q.2), O.1⟩
theorem JF_drop {B z : Int} {P M : Int → Int → Int} (h : y_JF B z P M) {a : Int} (tx : y_TL 0 M (u_x_drop a M)) (tn : y_TL 1 (u_x_drop a M) (u_n_drop a (u_x_drop a M))) (J2 : y_J z P (u_n_drop a (u_x_drop a M))) : y_JF (B + 6993) z P (u_n_drop a (u_x_drop a M)) ∧ v_x_drop a M = v_n_drop a (u_x_drop a M) := by
  have t1 : ∀ c k, 162 ≤ c → (u_x_drop a M) c k = M c k := fun c k q => tx.2 c k (Or.inr (Or.inl q))
  have b1 := jf_1 h t1
  have O := O_drop b1.1 a
  have Q := Q_drop b1.1 a
  exact ⟨jf_gen h J2 t1 (fun c k q => tn.2 c k (by
    rcases q with q | q | q
    · exact Or.inl q
    · exact Or.inr (Or.inl q)
    · exact Or.inr (Or.inr (Or.inl ⟨q.1, by omega⟩)))) O.2 (R_Q b1.2.1 Q.1 Q.2) (g_Q b1.2.2 Q.2), O.1⟩
theorem JF_demand {B z : Int} {P M : Int → Int → Int} (h : y_JF B z P M) {a b d e : Int} (tx : y_TL 2 M (u_x_demand a b d e M)) (tn : y_TL 8 (u_x_demand a b d e M) (u_n_demand a b d e (u_x_demand a b d e M))) (J2 : y_J z P (u_n_demand a b d e (u_x_demand a b d e M))) : y_JF (B + 6993) z P (u_n_demand a b d e (u_x_demand a b d e M)) ∧ v_x_demand a b d e M = v_n_demand a b d e (u_x_demand a b d e M) := by
  have t1 : ∀ c k, 162 ≤ c → (u_x_demand a b d e M) c k = M c k := fun c k q => tx.2 c k (Or.inr q)
  have b1 := jf_1 h t1
  have O := O_demand b1.1 a b d e
  have Q := Q_demand b1.1 a b d e
  exact ⟨jf_gen h J2 t1 (fun c k q => tn.2 c k (by
    rcases q with q | q | q
    · exact Or.inl q
    · exact Or.inr (Or.inl q)
    · exact Or.inr (Or.inr (Or.inr q)))) O.2 (R_Q b1.2.1 Q.1 Q.2) (g_Q b1.2.2 Q.2), O.1⟩
theorem JF_want {B z : Int} {P M : Int → Int → Int} (h : y_JF B z P M) {a b : Int} (tx : y_TL 0 M (u_x_want a b M)) (tn : y_TL 1 (u_x_want a b M) (u_n_want a b (u_x_want a b M))) (J2 : y_J z P (u_n_want a b (u_x_want a b M))) : y_JF (B + 6993) z P (u_n_want a b (u_x_want a b M)) ∧ v_x_want a b M = v_n_want a b (u_x_want a b M) := by
  have t1 : ∀ c k, 162 ≤ c → (u_x_want a b M) c k = M c k := fun c k q => tx.2 c k (Or.inr (Or.inl q))
  have b1 := jf_1 h t1
  have O := O_want b1.1 a b
  have Q := Q_want b1.1 a b
  exact ⟨jf_gen h J2 t1 (fun c k q => tn.2 c k (by
    rcases q with q | q | q
    · exact Or.inl q
    · exact Or.inr (Or.inl q)
    · exact Or.inr (Or.inr (Or.inl ⟨q.1, by omega⟩)))) O.2 (R_Q b1.2.1 Q.1 Q.2) (g_Q b1.2.2 Q.2), O.1⟩
theorem JF_plan {B z : Int} {P M : Int → Int → Int} (h : y_JF B z P M) {a : Int} (tx : y_TL 0 M (u_x_plan a M)) (tn : y_TL 1 (u_x_plan a M) (u_n_plan a (u_x_plan a M))) (J2 : y_J z P (u_n_plan a (u_x_plan a M))) : y_JF (B + 6993) z P (u_n_plan a (u_x_plan a M)) ∧ v_x_plan a M = v_n_plan a (u_x_plan a M) := by
  have t1 : ∀ c k, 162 ≤ c → (u_x_plan a M) c k = M c k := fun c k q => tx.2 c k (Or.inr (Or.inl q))
  have b1 := jf_1 h t1
  have O := O_plan b1.1 b1.2.1 a
  exact ⟨jf_gen h J2 t1 (fun c k q => tn.2 c k (by
    rcases q with q | q | q
    · exact Or.inl q
    · exact Or.inr (Or.inl q)
    · exact Or.inr (Or.inr (Or.inl ⟨q.1, by omega⟩)))) O.2.1 O.2.2.1 (fun c c0 c1 => by rw [O.2.2.2.2.2]; have := b1.2.2 c c0 c1; omega), O.1⟩
theorem JF_carry {B z : Int} {P M : Int → Int → Int} (h : y_JF B z P M) {a : Int} (hB : 0 ≤ B ∧ B ≤ 900000000) (tx : y_TL 0 M (u_x_carry a M)) (tn : y_TL 1 (u_x_carry a M) (u_n_carry a (u_x_carry a M))) (J2 : y_J z P (u_n_carry a (u_x_carry a M))) : y_JF (B + 6993) z P (u_n_carry a (u_x_carry a M)) ∧ v_x_carry a M = v_n_carry a (u_x_carry a M) := by
  have t1 : ∀ c k, 162 ≤ c → (u_x_carry a M) c k = M c k := fun c k q => tx.2 c k (Or.inr (Or.inl q))
  have b1 := jf_1 h t1
  have O := O_carry b1.1 b1.2.1 b1.2.2 hB.1 hB.2 a
  exact ⟨jf_gen h J2 t1 (fun c k q => tn.2 c k (by
    rcases q with q | q | q
    · exact Or.inl q
    · exact Or.inr (Or.inl q)
    · exact Or.inr (Or.inr (Or.inl ⟨q.1, by omega⟩)))) O.2.1 O.2.2.1 O.2.2.2, O.1⟩
theorem JF_runs {B z : Int} {P M : Int → Int → Int} (h : y_JF B z P M) {a b d : Int} (tn : y_TL 1 M (u_n_runs a b d M)) (J2 : y_J z P (u_n_runs a b d M)) : y_JF (B + 6993) z P (u_n_runs a b d M) ∧ v_x_runs a b d M = v_n_runs a b d M := by
  have O := O_runs h.2.1 a b d
  have Q := Q_runs h.2.1 a b d
  exact ⟨jf_gen h J2 (fun _ _ _ => rfl) (fun c k q => tn.2 c k (by
    rcases q with q | q | q
    · exact Or.inl q
    · exact Or.inr (Or.inl q)
    · exact Or.inr (Or.inr (Or.inl ⟨q.1, by omega⟩)))) O.2 (R_Q h.2.2.1 Qc_rf Q) (g_Q h.2.2.2.1 Q), O.1⟩
theorem JF_shortage {B z : Int} {P M : Int → Int → Int} (h : y_JF B z P M) {a : Int} (tn : y_TL 1 M (u_n_shortage a M)) (J2 : y_J z P (u_n_shortage a M)) : y_JF (B + 6993) z P (u_n_shortage a M) ∧ v_x_shortage a M = v_n_shortage a M := by
  have O := O_shortage h.2.1 a
  have Q := Q_shortage h.2.1 a
  exact ⟨jf_gen h J2 (fun _ _ _ => rfl) (fun c k q => tn.2 c k (by
    rcases q with q | q | q
    · exact Or.inl q
    · exact Or.inr (Or.inl q)
    · exact Or.inr (Or.inr (Or.inl ⟨q.1, by omega⟩)))) O.2 (R_Q h.2.2.1 Qc_rf Q) (g_Q h.2.2.2.1 Q), O.1⟩
theorem JF_dock {B z : Int} {P M : Int → Int → Int} (h : y_JF B z P M) (a b : Int) : y_JF (B + 6993) z P M ∧ v_x_dock a b M = v_n_dock a b M := ⟨jf_mono h (by omega), V_dock h.2.1.f h.2.1.i a b⟩
theorem JF_tell {B z : Int} {P M : Int → Int → Int} (h : y_JF B z P M) (a b : Int) : y_JF (B + 6993) z P M ∧ v_x_tell a b M = v_n_tell a b M := ⟨jf_mono h (by omega), V_tell h.2.1.f h.2.1.i a b⟩
theorem JF_round {B z : Int} {P M : Int → Int → Int} (h : y_JF B z P M) (a : Int) : y_JF (B + 6993) z P M ∧ v_x_round a M = v_n_round a M := ⟨jf_mono h (by omega), V_round a h.2.2.1.1 h.2.2.1.2.2 h.2.2.1.2.1.2⟩
theorem JF_load {B z : Int} {P M : Int → Int → Int} (h : y_JF B z P M) (a b : Int) : y_JF (B + 6993) z P M ∧ v_x_load a b M = v_n_load a b M := ⟨jf_mono h (by omega), O_load h.2.1 a b⟩
theorem JF_count {B z : Int} {P M : Int → Int → Int} (h : y_JF B z P M) (a : Int) : y_JF (B + 6993) z P M ∧ v_x_count a M = v_n_count a M := ⟨jf_mono h (by omega), V_count h.2.1.f h.2.1.i a⟩
