/-! THE LAW -/
def x_R1 (q : Option xV × xH) : Prop := q.1 = some (.inl 1)
set_option maxRecDepth 100000 in
theorem l_c0 {z : Int} {P M : Int → Int → Int} {S : Int → Int} {L i : Int} {B1 B2 : Nat} (hF : y_JF (1399 * i) z P M) (hs : ∀ j, M (-2) j = S j) (hb : ∀ j, S j < 2147483648) (hL : S (-1) = L) (hL2 : 0 ≤ L ∧ L ≤ 2560) (hi : 0 ≤ i ∧ i + 5 ≤ L) (K : ∀ (z2 : Int) (P2 M2 : Int → Int → Int) (C1 C2 : Nat), y_JF (1399 * (5 + i)) z2 P2 M2 → (∀ j, M2 (-2) j = S j) → B1 ≤ C1 → B2 ≤ C2 → x_Ev 181 851 [.inr (-2), .inr 0, .inr 162, .inl (i)] [] (C1, C2) (z2, P2, M2) x_R1) : x_Ev 181 22 [.inr (-2), .inr 0, .inr 162, .inl (i)] [] (B1 + 154, B2 + 1831) (z, P, M) x_R1 := by
  have hJ := hF.1
  refine e_aload (k := 22) (xi181 22) rfl (by omega) ?_
  refine e_aload (k := 23) (xi181 23) rfl (by omega) ?_
  refine e_iload (k := 24) (xi181 24) rfl ?_
  refine e_iconst (k := 25) (xi181 25) ?_
  refine e_iadd (w := 1 + i) (k := 26) (xi181 26) (x_wn (by omega)) ?_
  refine e_sld (w := S (1 + i)) (k := 27) (xi181 27) ⟨by omega, by rw [hs]; omega⟩ (hs _) ?_
  refine e_callR (k := 28) (c1 := B1 + 154) (c2 := B2 + 1831) (rest := []) (as := [.inr 0, .inl (S (1 + i))]) (xi181 28) (by decide) xm78 rfl ⟨rfl, Nat.le_of_ble_eq_true rfl, by decide⟩ (Or.inr (x_okt (ok_WS hJ.1))) (k_x_stand hJ.1 hJ.2.2.1 (S (1 + i))) ?_
  rintro v_ h_ ⟨e1, tx, q1⟩
  cases e1
  have hs1 : ∀ j, (u_x_stand (S (1 + i)) M) (-2) j = S j := fun j => (tx.2 _ _ (Or.inl (by omega))).trans (hs j)
  show x_Ev 181 29 [.inr (-2), .inr 0, .inr 162, .inl (i)] [.inl (v_x_stand (S (1 + i)) M)] (B1 + 154, B2 + 1831) (z, P, (u_x_stand (S (1 + i)) M)) _
  refine e_pop (k := 29) (xi181 29) ?_
  refine e_aload (k := 30) (xi181 30) rfl (by omega) ?_
  refine e_aload (k := 31) (xi181 31) rfl (by omega) ?_
  refine e_iload (k := 32) (xi181 32) rfl ?_
  refine e_iconst (k := 33) (xi181 33) ?_
  refine e_iadd (w := 1 + i) (k := 34) (xi181 34) (x_wn (by omega)) ?_
  refine e_sld (w := S (1 + i)) (k := 35) (xi181 35) ⟨by omega, by rw [hs1]; omega⟩ (hs1 _) ?_
  refine e_callR (k := 36) (c1 := B1 + 154) (c2 := B2 + 1831) (rest := []) (as := [.inr 162, .inl (S (1 + i))]) (xi181 36) (by decide) xm121 rfl ⟨rfl, Nat.le_of_ble_eq_true rfl, by decide⟩ (Or.inr (x_okt (ok_mo hJ.1))) (k_n_stand hJ.1 tx.1 (S (1 + i))) ?_
  rintro v_ h_ ⟨e2, tn, q2⟩
  cases e2
  have hs2 : ∀ j, (u_n_stand (S (1 + i)) (u_x_stand (S (1 + i)) M)) (-2) j = S j := fun j => (tn.2 _ _ (Or.inl (by omega))).trans (hs1 j)
  have JV := J_stand hJ tx tn
  have JF := JF_stand hF tx tn JV.1
  show x_Ev 181 37 [.inr (-2), .inr 0, .inr 162, .inl (i)] [.inl (v_n_stand (S (1 + i)) (u_x_stand (S (1 + i)) M))] (B1 + 154, B2 + 1831) (z, P, (u_n_stand (S (1 + i)) (u_x_stand (S (1 + i)) M))) _
  refine e_pop (k := 37) (xi181 37) ?_
  refine e_goto (k := 38) (xi181 38) ?_
  exact K _ _ _ _ _ (jf_mono JF.1 (by omega)) hs2 (by omega) (by omega)
set_option maxRecDepth 100000 in
theorem l_c1 {z : Int} {P M : Int → Int → Int} {S : Int → Int} {L i : Int} {B1 B2 : Nat} (hF : y_JF (1399 * i) z P M) (hs : ∀ j, M (-2) j = S j) (hb : ∀ j, S j < 2147483648) (hL : S (-1) = L) (hL2 : 0 ≤ L ∧ L ≤ 2560) (hi : 0 ≤ i ∧ i + 5 ≤ L) (K : ∀ (z2 : Int) (P2 M2 : Int → Int → Int) (C1 C2 : Nat), y_JF (1399 * (5 + i)) z2 P2 M2 → (∀ j, M2 (-2) j = S j) → B1 ≤ C1 → B2 ≤ C2 → x_Ev 181 851 [.inr (-2), .inr 0, .inr 162, .inl (i)] [] (C1, C2) (z2, P2, M2) x_R1) : x_Ev 181 39 [.inr (-2), .inr 0, .inr 162, .inl (i)] [] (B1 + 154, B2 + 1831) (z, P, M) x_R1 := by
  have hJ := hF.1
  refine e_aload (k := 39) (xi181 39) rfl (by omega) ?_
  refine e_aload (k := 40) (xi181 40) rfl (by omega) ?_
  refine e_iload (k := 41) (xi181 41) rfl ?_
  refine e_iconst (k := 42) (xi181 42) ?_
  refine e_iadd (w := 1 + i) (k := 43) (xi181 43) (x_wn (by omega)) ?_
  refine e_sld (w := S (1 + i)) (k := 44) (xi181 44) ⟨by omega, by rw [hs]; omega⟩ (hs _) ?_
  refine e_aload (k := 45) (xi181 45) rfl (by omega) ?_
  refine e_iload (k := 46) (xi181 46) rfl ?_
  refine e_iconst (k := 47) (xi181 47) ?_
  refine e_iadd (w := 2 + i) (k := 48) (xi181 48) (x_wn (by omega)) ?_
  refine e_sld (w := S (2 + i)) (k := 49) (xi181 49) ⟨by omega, by rw [hs]; omega⟩ (hs _) ?_
  refine e_aload (k := 50) (xi181 50) rfl (by omega) ?_
  refine e_iload (k := 51) (xi181 51) rfl ?_
  refine e_iconst (k := 52) (xi181 52) ?_
  refine e_iadd (w := 3 + i) (k := 53) (xi181 53) (x_wn (by omega)) ?_
  refine e_sld (w := S (3 + i)) (k := 54) (xi181 54) ⟨by omega, by rw [hs]; omega⟩ (hs _) ?_
  refine e_callR (k := 55) (c1 := B1 + 154) (c2 := B2 + 1831) (rest := []) (as := [.inr 0, .inl (S (1 + i)), .inl (S (2 + i)), .inl (S (3 + i))]) (xi181 55) (by decide) xm79 rfl ⟨rfl, Nat.le_of_ble_eq_true rfl, by decide⟩ (Or.inr (x_okt (ok_WS hJ.1))) (k_x_length hJ.1 hJ.2.2.1 (S (1 + i)) (S (2 + i)) (S (3 + i))) ?_
  rintro v_ h_ ⟨e1, tx, q1⟩
  cases e1
  have hs1 : ∀ j, (u_x_length (S (1 + i)) (S (2 + i)) (S (3 + i)) M) (-2) j = S j := fun j => (tx.2 _ _ (Or.inl (by omega))).trans (hs j)
  show x_Ev 181 56 [.inr (-2), .inr 0, .inr 162, .inl (i)] [.inl (v_x_length (S (1 + i)) (S (2 + i)) (S (3 + i)) M)] (B1 + 154, B2 + 1831) (z, P, (u_x_length (S (1 + i)) (S (2 + i)) (S (3 + i)) M)) _
  refine e_pop (k := 56) (xi181 56) ?_
  refine e_aload (k := 57) (xi181 57) rfl (by omega) ?_
  refine e_aload (k := 58) (xi181 58) rfl (by omega) ?_
  refine e_iload (k := 59) (xi181 59) rfl ?_
  refine e_iconst (k := 60) (xi181 60) ?_
  refine e_iadd (w := 1 + i) (k := 61) (xi181 61) (x_wn (by omega)) ?_
  refine e_sld (w := S (1 + i)) (k := 62) (xi181 62) ⟨by omega, by rw [hs1]; omega⟩ (hs1 _) ?_
  refine e_aload (k := 63) (xi181 63) rfl (by omega) ?_
  refine e_iload (k := 64) (xi181 64) rfl ?_
  refine e_iconst (k := 65) (xi181 65) ?_
  refine e_iadd (w := 2 + i) (k := 66) (xi181 66) (x_wn (by omega)) ?_
  refine e_sld (w := S (2 + i)) (k := 67) (xi181 67) ⟨by omega, by rw [hs1]; omega⟩ (hs1 _) ?_
  refine e_aload (k := 68) (xi181 68) rfl (by omega) ?_
  refine e_iload (k := 69) (xi181 69) rfl ?_
  refine e_iconst (k := 70) (xi181 70) ?_
  refine e_iadd (w := 3 + i) (k := 71) (xi181 71) (x_wn (by omega)) ?_
  refine e_sld (w := S (3 + i)) (k := 72) (xi181 72) ⟨by omega, by rw [hs1]; omega⟩ (hs1 _) ?_
  refine e_callR (k := 73) (c1 := B1 + 154) (c2 := B2 + 1831) (rest := []) (as := [.inr 162, .inl (S (1 + i)), .inl (S (2 + i)), .inl (S (3 + i))]) (xi181 73) (by decide) xm122 rfl ⟨rfl, Nat.le_of_ble_eq_true rfl, by decide⟩ (Or.inr (x_okt (ok_mo hJ.1))) (k_n_length hJ.1 tx.1 (S (1 + i)) (S (2 + i)) (S (3 + i))) ?_
  rintro v_ h_ ⟨e2, tn, q2⟩
  cases e2
  have hs2 : ∀ j, (u_n_length (S (1 + i)) (S (2 + i)) (S (3 + i)) (u_x_length (S (1 + i)) (S (2 + i)) (S (3 + i)) M)) (-2) j = S j := fun j => (tn.2 _ _ (Or.inl (by omega))).trans (hs1 j)
  have JF := JF_length hF tx tn (y_j_light hJ tx tn)
  show x_Ev 181 74 [.inr (-2), .inr 0, .inr 162, .inl (i)] [.inl (v_n_length (S (1 + i)) (S (2 + i)) (S (3 + i)) (u_x_length (S (1 + i)) (S (2 + i)) (S (3 + i)) M))] (B1 + 154, B2 + 1831) (z, P, (u_n_length (S (1 + i)) (S (2 + i)) (S (3 + i)) (u_x_length (S (1 + i)) (S (2 + i)) (S (3 + i)) M))) _
  refine e_pop (k := 74) (xi181 74) ?_
  refine e_goto (k := 75) (xi181 75) ?_
  exact K _ _ _ _ _ (jf_mono JF.1 (by omega)) hs2 (by omega) (by omega)
set_option maxRecDepth 100000 in
theorem l_c2 {z : Int} {P M : Int → Int → Int} {S : Int → Int} {L i : Int} {B1 B2 : Nat} (hF : y_JF (1399 * i) z P M) (hs : ∀ j, M (-2) j = S j) (hb : ∀ j, S j < 2147483648) (hL : S (-1) = L) (hL2 : 0 ≤ L ∧ L ≤ 2560) (hi : 0 ≤ i ∧ i + 5 ≤ L) (K : ∀ (z2 : Int) (P2 M2 : Int → Int → Int) (C1 C2 : Nat), y_JF (1399 * (5 + i)) z2 P2 M2 → (∀ j, M2 (-2) j = S j) → B1 ≤ C1 → B2 ≤ C2 → x_Ev 181 851 [.inr (-2), .inr 0, .inr 162, .inl (i)] [] (C1, C2) (z2, P2, M2) x_R1) : x_Ev 181 76 [.inr (-2), .inr 0, .inr 162, .inl (i)] [] (B1 + 154, B2 + 1831) (z, P, M) x_R1 := by
  have hJ := hF.1
  refine e_aload (k := 76) (xi181 76) rfl (by omega) ?_
  refine e_aload (k := 77) (xi181 77) rfl (by omega) ?_
  refine e_iload (k := 78) (xi181 78) rfl ?_
  refine e_iconst (k := 79) (xi181 79) ?_
  refine e_iadd (w := 1 + i) (k := 80) (xi181 80) (x_wn (by omega)) ?_
  refine e_sld (w := S (1 + i)) (k := 81) (xi181 81) ⟨by omega, by rw [hs]; omega⟩ (hs _) ?_
  refine e_aload (k := 82) (xi181 82) rfl (by omega) ?_
  refine e_iload (k := 83) (xi181 83) rfl ?_
  refine e_iconst (k := 84) (xi181 84) ?_
  refine e_iadd (w := 2 + i) (k := 85) (xi181 85) (x_wn (by omega)) ?_
  refine e_sld (w := S (2 + i)) (k := 86) (xi181 86) ⟨by omega, by rw [hs]; omega⟩ (hs _) ?_
  refine e_callR (k := 87) (c1 := B1 + 154) (c2 := B2 + 1831) (rest := []) (as := [.inr 0, .inl (S (1 + i)), .inl (S (2 + i))]) (xi181 87) (by decide) xm80 rfl ⟨rfl, Nat.le_of_ble_eq_true rfl, by decide⟩ (Or.inr (x_okt (ok_WS hJ.1))) (k_x_next hJ.1 hJ.2.2.1 (S (1 + i)) (S (2 + i))) ?_
  rintro v_ h_ ⟨e1, tx, q1⟩
  cases e1
  have hs1 : ∀ j, (u_x_next (S (1 + i)) (S (2 + i)) M) (-2) j = S j := fun j => (tx.2 _ _ (Or.inl (by omega))).trans (hs j)
  show x_Ev 181 88 [.inr (-2), .inr 0, .inr 162, .inl (i)] [.inl (v_x_next (S (1 + i)) (S (2 + i)) M)] (B1 + 154, B2 + 1831) (z, P, (u_x_next (S (1 + i)) (S (2 + i)) M)) _
  refine e_pop (k := 88) (xi181 88) ?_
  refine e_aload (k := 89) (xi181 89) rfl (by omega) ?_
  refine e_aload (k := 90) (xi181 90) rfl (by omega) ?_
  refine e_iload (k := 91) (xi181 91) rfl ?_
  refine e_iconst (k := 92) (xi181 92) ?_
  refine e_iadd (w := 1 + i) (k := 93) (xi181 93) (x_wn (by omega)) ?_
  refine e_sld (w := S (1 + i)) (k := 94) (xi181 94) ⟨by omega, by rw [hs1]; omega⟩ (hs1 _) ?_
  refine e_aload (k := 95) (xi181 95) rfl (by omega) ?_
  refine e_iload (k := 96) (xi181 96) rfl ?_
  refine e_iconst (k := 97) (xi181 97) ?_
  refine e_iadd (w := 2 + i) (k := 98) (xi181 98) (x_wn (by omega)) ?_
  refine e_sld (w := S (2 + i)) (k := 99) (xi181 99) ⟨by omega, by rw [hs1]; omega⟩ (hs1 _) ?_
  refine e_callR (k := 100) (c1 := B1 + 154) (c2 := B2 + 1831) (rest := []) (as := [.inr 162, .inl (S (1 + i)), .inl (S (2 + i))]) (xi181 100) (by decide) xm123 rfl ⟨rfl, Nat.le_of_ble_eq_true rfl, by decide⟩ (Or.inr (x_okt (ok_mo hJ.1))) (k_n_next hJ.1 tx.1 (S (1 + i)) (S (2 + i))) ?_
  rintro v_ h_ ⟨e2, tn, q2⟩
  cases e2
  have hs2 : ∀ j, (u_n_next (S (1 + i)) (S (2 + i)) (u_x_next (S (1 + i)) (S (2 + i)) M)) (-2) j = S j := fun j => (tn.2 _ _ (Or.inl (by omega))).trans (hs1 j)
  have JV := J_next hJ tx tn
  have JF := JF_next hF tx tn JV.1
  show x_Ev 181 101 [.inr (-2), .inr 0, .inr 162, .inl (i)] [.inl (v_n_next (S (1 + i)) (S (2 + i)) (u_x_next (S (1 + i)) (S (2 + i)) M))] (B1 + 154, B2 + 1831) (z, P, (u_n_next (S (1 + i)) (S (2 + i)) (u_x_next (S (1 + i)) (S (2 + i)) M))) _
  refine e_pop (k := 101) (xi181 101) ?_
  refine e_goto (k := 102) (xi181 102) ?_
  exact K _ _ _ _ _ (jf_mono JF.1 (by omega)) hs2 (by omega) (by omega)
set_option maxRecDepth 100000 in
theorem l_c3 {z : Int} {P M : Int → Int → Int} {S : Int → Int} {L i : Int} {B1 B2 : Nat} (hF : y_JF (1399 * i) z P M) (hs : ∀ j, M (-2) j = S j) (hb : ∀ j, S j < 2147483648) (hL : S (-1) = L) (hL2 : 0 ≤ L ∧ L ≤ 2560) (hi : 0 ≤ i ∧ i + 5 ≤ L) (K : ∀ (z2 : Int) (P2 M2 : Int → Int → Int) (C1 C2 : Nat), y_JF (1399 * (5 + i)) z2 P2 M2 → (∀ j, M2 (-2) j = S j) → B1 ≤ C1 → B2 ≤ C2 → x_Ev 181 851 [.inr (-2), .inr 0, .inr 162, .inl (i)] [] (C1, C2) (z2, P2, M2) x_R1) : x_Ev 181 103 [.inr (-2), .inr 0, .inr 162, .inl (i)] [] (B1 + 154, B2 + 1831) (z, P, M) x_R1 := by
  have hJ := hF.1
  refine e_aload (k := 103) (xi181 103) rfl (by omega) ?_
  refine e_aload (k := 104) (xi181 104) rfl (by omega) ?_
  refine e_iload (k := 105) (xi181 105) rfl ?_
  refine e_iconst (k := 106) (xi181 106) ?_
  refine e_iadd (w := 1 + i) (k := 107) (xi181 107) (x_wn (by omega)) ?_
  refine e_sld (w := S (1 + i)) (k := 108) (xi181 108) ⟨by omega, by rw [hs]; omega⟩ (hs _) ?_
  refine e_aload (k := 109) (xi181 109) rfl (by omega) ?_
  refine e_iload (k := 110) (xi181 110) rfl ?_
  refine e_iconst (k := 111) (xi181 111) ?_
  refine e_iadd (w := 2 + i) (k := 112) (xi181 112) (x_wn (by omega)) ?_
  refine e_sld (w := S (2 + i)) (k := 113) (xi181 113) ⟨by omega, by rw [hs]; omega⟩ (hs _) ?_
  refine e_callR (k := 114) (c1 := B1 + 154) (c2 := B2 + 1831) (rest := []) (as := [.inr 0, .inl (S (1 + i)), .inl (S (2 + i))]) (xi181 114) (by decide) xm81 rfl ⟨rfl, Nat.le_of_ble_eq_true rfl, by decide⟩ (Or.inr (x_okt (ok_WS hJ.1))) (k_x_tear hJ.1 hJ.2.2.1 (S (1 + i)) (S (2 + i))) ?_
  rintro v_ h_ ⟨e1, tx, q1⟩
  cases e1
  have hs1 : ∀ j, (u_x_tear (S (1 + i)) (S (2 + i)) M) (-2) j = S j := fun j => (tx.2 _ _ (Or.inl (by omega))).trans (hs j)
  show x_Ev 181 115 [.inr (-2), .inr 0, .inr 162, .inl (i)] [.inl (v_x_tear (S (1 + i)) (S (2 + i)) M)] (B1 + 154, B2 + 1831) (z, P, (u_x_tear (S (1 + i)) (S (2 + i)) M)) _
  refine e_pop (k := 115) (xi181 115) ?_
  refine e_aload (k := 116) (xi181 116) rfl (by omega) ?_
  refine e_aload (k := 117) (xi181 117) rfl (by omega) ?_
  refine e_iload (k := 118) (xi181 118) rfl ?_
  refine e_iconst (k := 119) (xi181 119) ?_
  refine e_iadd (w := 1 + i) (k := 120) (xi181 120) (x_wn (by omega)) ?_
  refine e_sld (w := S (1 + i)) (k := 121) (xi181 121) ⟨by omega, by rw [hs1]; omega⟩ (hs1 _) ?_
  refine e_aload (k := 122) (xi181 122) rfl (by omega) ?_
  refine e_iload (k := 123) (xi181 123) rfl ?_
  refine e_iconst (k := 124) (xi181 124) ?_
  refine e_iadd (w := 2 + i) (k := 125) (xi181 125) (x_wn (by omega)) ?_
  refine e_sld (w := S (2 + i)) (k := 126) (xi181 126) ⟨by omega, by rw [hs1]; omega⟩ (hs1 _) ?_
  refine e_callR (k := 127) (c1 := B1 + 154) (c2 := B2 + 1831) (rest := []) (as := [.inr 162, .inl (S (1 + i)), .inl (S (2 + i))]) (xi181 127) (by decide) xm124 rfl ⟨rfl, Nat.le_of_ble_eq_true rfl, by decide⟩ (Or.inr (x_okt (ok_mo hJ.1))) (k_n_tear hJ.1 tx.1 (S (1 + i)) (S (2 + i))) ?_
  rintro v_ h_ ⟨e2, tn, q2⟩
  cases e2
  have hs2 : ∀ j, (u_n_tear (S (1 + i)) (S (2 + i)) (u_x_tear (S (1 + i)) (S (2 + i)) M)) (-2) j = S j := fun j => (tn.2 _ _ (Or.inl (by omega))).trans (hs1 j)
  have JV := J_tear hJ tx tn
  have JF := JF_tear hF tx tn JV.1
  show x_Ev 181 128 [.inr (-2), .inr 0, .inr 162, .inl (i)] [.inl (v_n_tear (S (1 + i)) (S (2 + i)) (u_x_tear (S (1 + i)) (S (2 + i)) M))] (B1 + 154, B2 + 1831) (z, P, (u_n_tear (S (1 + i)) (S (2 + i)) (u_x_tear (S (1 + i)) (S (2 + i)) M))) _
  refine e_pop (k := 128) (xi181 128) ?_
  refine e_goto (k := 129) (xi181 129) ?_
  exact K _ _ _ _ _ (jf_mono JF.1 (by omega)) hs2 (by omega) (by omega)
set_option maxRecDepth 100000 in
theorem l_c4 {z : Int} {P M : Int → Int → Int} {S : Int → Int} {L i : Int} {B1 B2 : Nat} (hF : y_JF (1399 * i) z P M) (hs : ∀ j, M (-2) j = S j) (hb : ∀ j, S j < 2147483648) (hL : S (-1) = L) (hL2 : 0 ≤ L ∧ L ≤ 2560) (hi : 0 ≤ i ∧ i + 5 ≤ L) (K : ∀ (z2 : Int) (P2 M2 : Int → Int → Int) (C1 C2 : Nat), y_JF (1399 * (5 + i)) z2 P2 M2 → (∀ j, M2 (-2) j = S j) → B1 ≤ C1 → B2 ≤ C2 → x_Ev 181 851 [.inr (-2), .inr 0, .inr 162, .inl (i)] [] (C1, C2) (z2, P2, M2) x_R1) : x_Ev 181 130 [.inr (-2), .inr 0, .inr 162, .inl (i)] [] (B1 + 154, B2 + 1831) (z, P, M) x_R1 := by
  have hJ := hF.1
  refine e_aload (k := 130) (xi181 130) rfl (by omega) ?_
  refine e_aload (k := 131) (xi181 131) rfl (by omega) ?_
  refine e_iload (k := 132) (xi181 132) rfl ?_
  refine e_iconst (k := 133) (xi181 133) ?_
  refine e_iadd (w := 1 + i) (k := 134) (xi181 134) (x_wn (by omega)) ?_
  refine e_sld (w := S (1 + i)) (k := 135) (xi181 135) ⟨by omega, by rw [hs]; omega⟩ (hs _) ?_
  refine e_aload (k := 136) (xi181 136) rfl (by omega) ?_
  refine e_iload (k := 137) (xi181 137) rfl ?_
  refine e_iconst (k := 138) (xi181 138) ?_
  refine e_iadd (w := 2 + i) (k := 139) (xi181 139) (x_wn (by omega)) ?_
  refine e_sld (w := S (2 + i)) (k := 140) (xi181 140) ⟨by omega, by rw [hs]; omega⟩ (hs _) ?_
  refine e_aload (k := 141) (xi181 141) rfl (by omega) ?_
  refine e_iload (k := 142) (xi181 142) rfl ?_
  refine e_iconst (k := 143) (xi181 143) ?_
  refine e_iadd (w := 3 + i) (k := 144) (xi181 144) (x_wn (by omega)) ?_
  refine e_sld (w := S (3 + i)) (k := 145) (xi181 145) ⟨by omega, by rw [hs]; omega⟩ (hs _) ?_
  refine e_z_eq (k := 146) (xi181 146) (fun c146 => ?_) (fun c146 => ?_)
  · skip
    refine e_iconst (k := 149) (xi181 149) ?_
    refine e_callR (k := 150) (c1 := B1 + 154) (c2 := B2 + 1831) (rest := []) (as := [.inr 0, .inl (S (1 + i)), .inl (S (2 + i)), .inl 0]) (xi181 150) (by decide) xm82 rfl ⟨rfl, Nat.le_of_ble_eq_true rfl, by decide⟩ (Or.inr (x_okt (ok_WS hJ.1))) (k_x_block hJ.1 hJ.2.2.1 (S (1 + i)) (S (2 + i)) 0) ?_
    rintro v_ h_ ⟨e1, tx, q1⟩
    cases e1
    have hs1 : ∀ j, (u_x_block (S (1 + i)) (S (2 + i)) 0 M) (-2) j = S j := fun j => (tx.2 _ _ (Or.inl (by omega))).trans (hs j)
    show x_Ev 181 151 [.inr (-2), .inr 0, .inr 162, .inl (i)] [.inl (v_x_block (S (1 + i)) (S (2 + i)) 0 M)] (B1 + 154, B2 + 1831) (z, P, (u_x_block (S (1 + i)) (S (2 + i)) 0 M)) _
    refine e_pop (k := 151) (xi181 151) ?_
    refine e_aload (k := 152) (xi181 152) rfl (by omega) ?_
    refine e_aload (k := 153) (xi181 153) rfl (by omega) ?_
    refine e_iload (k := 154) (xi181 154) rfl ?_
    refine e_iconst (k := 155) (xi181 155) ?_
    refine e_iadd (w := 1 + i) (k := 156) (xi181 156) (x_wn (by omega)) ?_
    refine e_sld (w := S (1 + i)) (k := 157) (xi181 157) ⟨by omega, by rw [hs1]; omega⟩ (hs1 _) ?_
    refine e_aload (k := 158) (xi181 158) rfl (by omega) ?_
    refine e_iload (k := 159) (xi181 159) rfl ?_
    refine e_iconst (k := 160) (xi181 160) ?_
    refine e_iadd (w := 2 + i) (k := 161) (xi181 161) (x_wn (by omega)) ?_
    refine e_sld (w := S (2 + i)) (k := 162) (xi181 162) ⟨by omega, by rw [hs1]; omega⟩ (hs1 _) ?_
    refine e_aload (k := 163) (xi181 163) rfl (by omega) ?_
    refine e_iload (k := 164) (xi181 164) rfl ?_
    refine e_iconst (k := 165) (xi181 165) ?_
    refine e_iadd (w := 3 + i) (k := 166) (xi181 166) (x_wn (by omega)) ?_
    refine e_sld (w := S (3 + i)) (k := 167) (xi181 167) ⟨by omega, by rw [hs1]; omega⟩ (hs1 _) ?_
    refine e_z_eq (k := 168) (xi181 168) (fun _ => ?_) (fun q => absurd c146 q)
    refine e_iconst (k := 171) (xi181 171) ?_
    refine e_callR (k := 172) (c1 := B1 + 154) (c2 := B2 + 1831) (rest := []) (as := [.inr 162, .inl (S (1 + i)), .inl (S (2 + i)), .inl 0]) (xi181 172) (by decide) xm126 rfl ⟨rfl, Nat.le_of_ble_eq_true rfl, by decide⟩ (Or.inr (x_okt (ok_mo hJ.1))) (k_n_block hJ.1 tx.1 (S (1 + i)) (S (2 + i)) 0) ?_
    rintro v_ h_ ⟨e2, tn, q2⟩
    cases e2
    have hs2 : ∀ j, (u_n_block (S (1 + i)) (S (2 + i)) 0 (u_x_block (S (1 + i)) (S (2 + i)) 0 M)) (-2) j = S j := fun j => (tn.2 _ _ (Or.inl (by omega))).trans (hs1 j)
    have JF := JF_block hF tx tn (y_j_light hJ tx tn)
    show x_Ev 181 173 [.inr (-2), .inr 0, .inr 162, .inl (i)] [.inl (v_n_block (S (1 + i)) (S (2 + i)) 0 (u_x_block (S (1 + i)) (S (2 + i)) 0 M))] (B1 + 154, B2 + 1831) (z, P, (u_n_block (S (1 + i)) (S (2 + i)) 0 (u_x_block (S (1 + i)) (S (2 + i)) 0 M))) _
    refine e_pop (k := 173) (xi181 173) ?_
    refine e_goto (k := 174) (xi181 174) ?_
    exact K _ _ _ _ _ (jf_mono JF.1 (by omega)) hs2 (by omega) (by omega)
  · skip
    refine e_iconst (k := 147) (xi181 147) ?_
    refine e_goto (k := 148) (xi181 148) ?_
    refine e_callR (k := 150) (c1 := B1 + 154) (c2 := B2 + 1831) (rest := []) (as := [.inr 0, .inl (S (1 + i)), .inl (S (2 + i)), .inl 1]) (xi181 150) (by decide) xm82 rfl ⟨rfl, Nat.le_of_ble_eq_true rfl, by decide⟩ (Or.inr (x_okt (ok_WS hJ.1))) (k_x_block hJ.1 hJ.2.2.1 (S (1 + i)) (S (2 + i)) 1) ?_
    rintro v_ h_ ⟨e1, tx, q1⟩
    cases e1
    have hs1 : ∀ j, (u_x_block (S (1 + i)) (S (2 + i)) 1 M) (-2) j = S j := fun j => (tx.2 _ _ (Or.inl (by omega))).trans (hs j)
    show x_Ev 181 151 [.inr (-2), .inr 0, .inr 162, .inl (i)] [.inl (v_x_block (S (1 + i)) (S (2 + i)) 1 M)] (B1 + 154, B2 + 1831) (z, P, (u_x_block (S (1 + i)) (S (2 + i)) 1 M)) _
    refine e_pop (k := 151) (xi181 151) ?_
    refine e_aload (k := 152) (xi181 152) rfl (by omega) ?_
    refine e_aload (k := 153) (xi181 153) rfl (by omega) ?_
    refine e_iload (k := 154) (xi181 154) rfl ?_
    refine e_iconst (k := 155) (xi181 155) ?_
    refine e_iadd (w := 1 + i) (k := 156) (xi181 156) (x_wn (by omega)) ?_
    refine e_sld (w := S (1 + i)) (k := 157) (xi181 157) ⟨by omega, by rw [hs1]; omega⟩ (hs1 _) ?_
    refine e_aload (k := 158) (xi181 158) rfl (by omega) ?_
    refine e_iload (k := 159) (xi181 159) rfl ?_
    refine e_iconst (k := 160) (xi181 160) ?_
    refine e_iadd (w := 2 + i) (k := 161) (xi181 161) (x_wn (by omega)) ?_
    refine e_sld (w := S (2 + i)) (k := 162) (xi181 162) ⟨by omega, by rw [hs1]; omega⟩ (hs1 _) ?_
    refine e_aload (k := 163) (xi181 163) rfl (by omega) ?_
    refine e_iload (k := 164) (xi181 164) rfl ?_
    refine e_iconst (k := 165) (xi181 165) ?_
    refine e_iadd (w := 3 + i) (k := 166) (xi181 166) (x_wn (by omega)) ?_
    refine e_sld (w := S (3 + i)) (k := 167) (xi181 167) ⟨by omega, by rw [hs1]; omega⟩ (hs1 _) ?_
    refine e_z_eq (k := 168) (xi181 168) (fun q => absurd q c146) (fun _ => ?_)
    refine e_iconst (k := 169) (xi181 169) ?_
    refine e_goto (k := 170) (xi181 170) ?_
    refine e_callR (k := 172) (c1 := B1 + 154) (c2 := B2 + 1831) (rest := []) (as := [.inr 162, .inl (S (1 + i)), .inl (S (2 + i)), .inl 1]) (xi181 172) (by decide) xm126 rfl ⟨rfl, Nat.le_of_ble_eq_true rfl, by decide⟩ (Or.inr (x_okt (ok_mo hJ.1))) (k_n_block hJ.1 tx.1 (S (1 + i)) (S (2 + i)) 1) ?_
    rintro v_ h_ ⟨e2, tn, q2⟩
    cases e2
    have hs2 : ∀ j, (u_n_block (S (1 + i)) (S (2 + i)) 1 (u_x_block (S (1 + i)) (S (2 + i)) 1 M)) (-2) j = S j := fun j => (tn.2 _ _ (Or.inl (by omega))).trans (hs1 j)
    have JF := JF_block hF tx tn (y_j_light hJ tx tn)
    show x_Ev 181 173 [.inr (-2), .inr 0, .inr 162, .inl (i)] [.inl (v_n_block (S (1 + i)) (S (2 + i)) 1 (u_x_block (S (1 + i)) (S (2 + i)) 1 M))] (B1 + 154, B2 + 1831) (z, P, (u_n_block (S (1 + i)) (S (2 + i)) 1 (u_x_block (S (1 + i)) (S (2 + i)) 1 M))) _
    refine e_pop (k := 173) (xi181 173) ?_
    refine e_goto (k := 174) (xi181 174) ?_
    exact K _ _ _ _ _ (jf_mono JF.1 (by omega)) hs2 (by omega) (by omega)
set_option maxRecDepth 100000 in
theorem l_c5 {z : Int} {P M : Int → Int → Int} {S : Int → Int} {L i : Int} {B1 B2 : Nat} (hF : y_JF (1399 * i) z P M) (hs : ∀ j, M (-2) j = S j) (hb : ∀ j, S j < 2147483648) (hL : S (-1) = L) (hL2 : 0 ≤ L ∧ L ≤ 2560) (hi : 0 ≤ i ∧ i + 5 ≤ L) (K : ∀ (z2 : Int) (P2 M2 : Int → Int → Int) (C1 C2 : Nat), y_JF (1399 * (5 + i)) z2 P2 M2 → (∀ j, M2 (-2) j = S j) → B1 ≤ C1 → B2 ≤ C2 → x_Ev 181 851 [.inr (-2), .inr 0, .inr 162, .inl (i)] [] (C1, C2) (z2, P2, M2) x_R1) : x_Ev 181 175 [.inr (-2), .inr 0, .inr 162, .inl (i)] [] (B1 + 154, B2 + 1831) (z, P, M) x_R1 := by
  have hJ := hF.1
  refine e_aload (k := 175) (xi181 175) rfl (by omega) ?_
  refine e_aload (k := 176) (xi181 176) rfl (by omega) ?_
  refine e_iload (k := 177) (xi181 177) rfl ?_
  refine e_iconst (k := 178) (xi181 178) ?_
  refine e_iadd (w := 1 + i) (k := 179) (xi181 179) (x_wn (by omega)) ?_
  refine e_sld (w := S (1 + i)) (k := 180) (xi181 180) ⟨by omega, by rw [hs]; omega⟩ (hs _) ?_
  refine e_aload (k := 181) (xi181 181) rfl (by omega) ?_
  refine e_iload (k := 182) (xi181 182) rfl ?_
  refine e_iconst (k := 183) (xi181 183) ?_
  refine e_iadd (w := 2 + i) (k := 184) (xi181 184) (x_wn (by omega)) ?_
  refine e_sld (w := S (2 + i)) (k := 185) (xi181 185) ⟨by omega, by rw [hs]; omega⟩ (hs _) ?_
  refine e_callR (k := 186) (c1 := B1 + 154) (c2 := B2 + 1831) (rest := []) (as := [.inr 0, .inl (S (1 + i)), .inl (S (2 + i))]) (xi181 186) (by decide) xm83 rfl ⟨rfl, Nat.le_of_ble_eq_true rfl, by decide⟩ (Or.inr (x_okt (ok_WS hJ.1))) (k_x_dock hJ.1 hJ.2.2.1 (S (1 + i)) (S (2 + i))) ?_
  rintro v_ h_ ⟨e1, q1⟩
  cases e1
  show x_Ev 181 187 [.inr (-2), .inr 0, .inr 162, .inl (i)] [.inl (v_x_dock (S (1 + i)) (S (2 + i)) M)] (B1 + 154, B2 + 1831) (z, P, M) _
  refine e_pop (k := 187) (xi181 187) ?_
  refine e_aload (k := 188) (xi181 188) rfl (by omega) ?_
  refine e_aload (k := 189) (xi181 189) rfl (by omega) ?_
  refine e_iload (k := 190) (xi181 190) rfl ?_
  refine e_iconst (k := 191) (xi181 191) ?_
  refine e_iadd (w := 1 + i) (k := 192) (xi181 192) (x_wn (by omega)) ?_
  refine e_sld (w := S (1 + i)) (k := 193) (xi181 193) ⟨by omega, by rw [hs]; omega⟩ (hs _) ?_
  refine e_aload (k := 194) (xi181 194) rfl (by omega) ?_
  refine e_iload (k := 195) (xi181 195) rfl ?_
  refine e_iconst (k := 196) (xi181 196) ?_
  refine e_iadd (w := 2 + i) (k := 197) (xi181 197) (x_wn (by omega)) ?_
  refine e_sld (w := S (2 + i)) (k := 198) (xi181 198) ⟨by omega, by rw [hs]; omega⟩ (hs _) ?_
  refine e_callR (k := 199) (c1 := B1 + 154) (c2 := B2 + 1831) (rest := []) (as := [.inr 162, .inl (S (1 + i)), .inl (S (2 + i))]) (xi181 199) (by decide) xm127 rfl ⟨rfl, Nat.le_of_ble_eq_true rfl, by decide⟩ (Or.inr (x_okt (ok_mo hJ.1))) (k_n_dock hJ.1 hJ.2.2.1 (S (1 + i)) (S (2 + i))) ?_
  rintro v_ h_ ⟨e2, q2⟩
  cases e2
  have JF := JF_dock hF (S (1 + i)) (S (2 + i))
  show x_Ev 181 200 [.inr (-2), .inr 0, .inr 162, .inl (i)] [.inl (v_n_dock (S (1 + i)) (S (2 + i)) M)] (B1 + 154, B2 + 1831) (z, P, M) _
  refine e_pop (k := 200) (xi181 200) ?_
  refine e_goto (k := 201) (xi181 201) ?_
  exact K _ _ _ _ _ (jf_mono JF.1 (by omega)) hs (by omega) (by omega)
set_option maxRecDepth 100000 in
theorem l_c6 {z : Int} {P M : Int → Int → Int} {S : Int → Int} {L i : Int} {B1 B2 : Nat} (hF : y_JF (1399 * i) z P M) (hs : ∀ j, M (-2) j = S j) (hb : ∀ j, S j < 2147483648) (hL : S (-1) = L) (hL2 : 0 ≤ L ∧ L ≤ 2560) (hi : 0 ≤ i ∧ i + 5 ≤ L) (K : ∀ (z2 : Int) (P2 M2 : Int → Int → Int) (C1 C2 : Nat), y_JF (1399 * (5 + i)) z2 P2 M2 → (∀ j, M2 (-2) j = S j) → B1 ≤ C1 → B2 ≤ C2 → x_Ev 181 851 [.inr (-2), .inr 0, .inr 162, .inl (i)] [] (C1, C2) (z2, P2, M2) x_R1) : x_Ev 181 202 [.inr (-2), .inr 0, .inr 162, .inl (i)] [] (B1 + 154, B2 + 1831) (z, P, M) x_R1 := by
  have hJ := hF.1
  refine e_aload (k := 202) (xi181 202) rfl (by omega) ?_
  refine e_aload (k := 203) (xi181 203) rfl (by omega) ?_
  refine e_iload (k := 204) (xi181 204) rfl ?_
  refine e_iconst (k := 205) (xi181 205) ?_
  refine e_iadd (w := 1 + i) (k := 206) (xi181 206) (x_wn (by omega)) ?_
  refine e_sld (w := S (1 + i)) (k := 207) (xi181 207) ⟨by omega, by rw [hs]; omega⟩ (hs _) ?_
  refine e_aload (k := 208) (xi181 208) rfl (by omega) ?_
  refine e_iload (k := 209) (xi181 209) rfl ?_
  refine e_iconst (k := 210) (xi181 210) ?_
  refine e_iadd (w := 2 + i) (k := 211) (xi181 211) (x_wn (by omega)) ?_
  refine e_sld (w := S (2 + i)) (k := 212) (xi181 212) ⟨by omega, by rw [hs]; omega⟩ (hs _) ?_
  refine e_callR (k := 213) (c1 := B1 + 154) (c2 := B2 + 1831) (rest := []) (as := [.inr 0, .inl (S (1 + i)), .inl (S (2 + i))]) (xi181 213) (by decide) xm84 rfl ⟨rfl, Nat.le_of_ble_eq_true rfl, by decide⟩ (Or.inr (x_okt (ok_WS hJ.1))) (k_x_tell hJ.1 hJ.2.2.1 (S (1 + i)) (S (2 + i))) ?_
  rintro v_ h_ ⟨e1, q1⟩
  cases e1
  show x_Ev 181 214 [.inr (-2), .inr 0, .inr 162, .inl (i)] [.inl (v_x_tell (S (1 + i)) (S (2 + i)) M)] (B1 + 154, B2 + 1831) (z, P, M) _
  refine e_pop (k := 214) (xi181 214) ?_
  refine e_aload (k := 215) (xi181 215) rfl (by omega) ?_
  refine e_aload (k := 216) (xi181 216) rfl (by omega) ?_
  refine e_iload (k := 217) (xi181 217) rfl ?_
  refine e_iconst (k := 218) (xi181 218) ?_
  refine e_iadd (w := 1 + i) (k := 219) (xi181 219) (x_wn (by omega)) ?_
  refine e_sld (w := S (1 + i)) (k := 220) (xi181 220) ⟨by omega, by rw [hs]; omega⟩ (hs _) ?_
  refine e_aload (k := 221) (xi181 221) rfl (by omega) ?_
  refine e_iload (k := 222) (xi181 222) rfl ?_
  refine e_iconst (k := 223) (xi181 223) ?_
  refine e_iadd (w := 2 + i) (k := 224) (xi181 224) (x_wn (by omega)) ?_
  refine e_sld (w := S (2 + i)) (k := 225) (xi181 225) ⟨by omega, by rw [hs]; omega⟩ (hs _) ?_
  refine e_callR (k := 226) (c1 := B1 + 154) (c2 := B2 + 1831) (rest := []) (as := [.inr 162, .inl (S (1 + i)), .inl (S (2 + i))]) (xi181 226) (by decide) xm132 rfl ⟨rfl, Nat.le_of_ble_eq_true rfl, by decide⟩ (Or.inr (x_okt (ok_mo hJ.1))) (k_n_tell hJ.1 hJ.2.2.1 (S (1 + i)) (S (2 + i))) ?_
  rintro v_ h_ ⟨e2, q2⟩
  cases e2
  have JF := JF_tell hF (S (1 + i)) (S (2 + i))
  show x_Ev 181 227 [.inr (-2), .inr 0, .inr 162, .inl (i)] [.inl (v_n_tell (S (1 + i)) (S (2 + i)) M)] (B1 + 154, B2 + 1831) (z, P, M) _
  refine e_pop (k := 227) (xi181 227) ?_
  refine e_goto (k := 228) (xi181 228) ?_
  exact K _ _ _ _ _ (jf_mono JF.1 (by omega)) hs (by omega) (by omega)
set_option maxRecDepth 100000 in
theorem l_c7 {z : Int} {P M : Int → Int → Int} {S : Int → Int} {L i : Int} {B1 B2 : Nat} (hF : y_JF (1399 * i) z P M) (hs : ∀ j, M (-2) j = S j) (hb : ∀ j, S j < 2147483648) (hL : S (-1) = L) (hL2 : 0 ≤ L ∧ L ≤ 2560) (hi : 0 ≤ i ∧ i + 5 ≤ L) (K : ∀ (z2 : Int) (P2 M2 : Int → Int → Int) (C1 C2 : Nat), y_JF (1399 * (5 + i)) z2 P2 M2 → (∀ j, M2 (-2) j = S j) → B1 ≤ C1 → B2 ≤ C2 → x_Ev 181 851 [.inr (-2), .inr 0, .inr 162, .inl (i)] [] (C1, C2) (z2, P2, M2) x_R1) : x_Ev 181 229 [.inr (-2), .inr 0, .inr 162, .inl (i)] [] (B1 + 154, B2 + 1831) (z, P, M) x_R1 := by
  have hJ := hF.1
  refine e_aload (k := 229) (xi181 229) rfl (by omega) ?_
  refine e_aload (k := 230) (xi181 230) rfl (by omega) ?_
  refine e_iload (k := 231) (xi181 231) rfl ?_
  refine e_iconst (k := 232) (xi181 232) ?_
  refine e_iadd (w := 1 + i) (k := 233) (xi181 233) (x_wn (by omega)) ?_
  refine e_sld (w := S (1 + i)) (k := 234) (xi181 234) ⟨by omega, by rw [hs]; omega⟩ (hs _) ?_
  refine e_aload (k := 235) (xi181 235) rfl (by omega) ?_
  refine e_iload (k := 236) (xi181 236) rfl ?_
  refine e_iconst (k := 237) (xi181 237) ?_
  refine e_iadd (w := 2 + i) (k := 238) (xi181 238) (x_wn (by omega)) ?_
  refine e_sld (w := S (2 + i)) (k := 239) (xi181 239) ⟨by omega, by rw [hs]; omega⟩ (hs _) ?_
  refine e_aload (k := 240) (xi181 240) rfl (by omega) ?_
  refine e_iload (k := 241) (xi181 241) rfl ?_
  refine e_iconst (k := 242) (xi181 242) ?_
  refine e_iadd (w := 3 + i) (k := 243) (xi181 243) (x_wn (by omega)) ?_
  refine e_sld (w := S (3 + i)) (k := 244) (xi181 244) ⟨by omega, by rw [hs]; omega⟩ (hs _) ?_
  refine e_callR (k := 245) (c1 := B1 + 154) (c2 := B2 + 1831) (rest := []) (as := [.inr 0, .inl (S (1 + i)), .inl (S (2 + i)), .inl (S (3 + i))]) (xi181 245) (by decide) xm85 rfl ⟨rfl, Nat.le_of_ble_eq_true rfl, by decide⟩ (Or.inr (x_okt (ok_WS hJ.1))) (k_x_put hJ.1 hJ.2.2.1 (S (1 + i)) (S (2 + i)) (S (3 + i))) ?_
  rintro v_ h_ ⟨e1, tx, q1⟩
  cases e1
  have hs1 : ∀ j, (u_x_put (S (1 + i)) (S (2 + i)) (S (3 + i)) M) (-2) j = S j := fun j => (tx.2 _ _ (Or.inl (by omega))).trans (hs j)
  show x_Ev 181 246 [.inr (-2), .inr 0, .inr 162, .inl (i)] [.inl (v_x_put (S (1 + i)) (S (2 + i)) (S (3 + i)) M)] (B1 + 154, B2 + 1831) (z, P, (u_x_put (S (1 + i)) (S (2 + i)) (S (3 + i)) M)) _
  refine e_pop (k := 246) (xi181 246) ?_
  refine e_aload (k := 247) (xi181 247) rfl (by omega) ?_
  refine e_aload (k := 248) (xi181 248) rfl (by omega) ?_
  refine e_iload (k := 249) (xi181 249) rfl ?_
  refine e_iconst (k := 250) (xi181 250) ?_
  refine e_iadd (w := 1 + i) (k := 251) (xi181 251) (x_wn (by omega)) ?_
  refine e_sld (w := S (1 + i)) (k := 252) (xi181 252) ⟨by omega, by rw [hs1]; omega⟩ (hs1 _) ?_
  refine e_aload (k := 253) (xi181 253) rfl (by omega) ?_
  refine e_iload (k := 254) (xi181 254) rfl ?_
  refine e_iconst (k := 255) (xi181 255) ?_
  refine e_iadd (w := 2 + i) (k := 256) (xi181 256) (x_wn (by omega)) ?_
  refine e_sld (w := S (2 + i)) (k := 257) (xi181 257) ⟨by omega, by rw [hs1]; omega⟩ (hs1 _) ?_
  refine e_aload (k := 258) (xi181 258) rfl (by omega) ?_
  refine e_iload (k := 259) (xi181 259) rfl ?_
  refine e_iconst (k := 260) (xi181 260) ?_
  refine e_iadd (w := 3 + i) (k := 261) (xi181 261) (x_wn (by omega)) ?_
  refine e_sld (w := S (3 + i)) (k := 262) (xi181 262) ⟨by omega, by rw [hs1]; omega⟩ (hs1 _) ?_
  refine e_callR (k := 263) (c1 := B1 + 154) (c2 := B2 + 1831) (rest := []) (as := [.inr 162, .inl (S (1 + i)), .inl (S (2 + i)), .inl (S (3 + i))]) (xi181 263) (by decide) xm139 rfl ⟨rfl, Nat.le_of_ble_eq_true rfl, by decide⟩ (Or.inr (x_okt (ok_mo hJ.1))) (k_n_put hJ.1 tx.1 (S (1 + i)) (S (2 + i)) (S (3 + i))) ?_
  rintro v_ h_ ⟨e2, tn, q2⟩
  cases e2
  have hs2 : ∀ j, (u_n_put (S (1 + i)) (S (2 + i)) (S (3 + i)) (u_x_put (S (1 + i)) (S (2 + i)) (S (3 + i)) M)) (-2) j = S j := fun j => (tn.2 _ _ (Or.inl (by omega))).trans (hs1 j)
  have JF := JF_put hF tx tn (y_j_put hJ tx tn)
  show x_Ev 181 264 [.inr (-2), .inr 0, .inr 162, .inl (i)] [.inl (v_n_put (S (1 + i)) (S (2 + i)) (S (3 + i)) (u_x_put (S (1 + i)) (S (2 + i)) (S (3 + i)) M))] (B1 + 154, B2 + 1831) (z, P, (u_n_put (S (1 + i)) (S (2 + i)) (S (3 + i)) (u_x_put (S (1 + i)) (S (2 + i)) (S (3 + i)) M))) _
  refine e_pop (k := 264) (xi181 264) ?_
  refine e_goto (k := 265) (xi181 265) ?_
  exact K _ _ _ _ _ (jf_mono JF.1 (by omega)) hs2 (by omega) (by omega)
set_option maxRecDepth 100000 in
theorem l_c8 {z : Int} {P M : Int → Int → Int} {S : Int → Int} {L i : Int} {B1 B2 : Nat} (hF : y_JF (1399 * i) z P M) (hs : ∀ j, M (-2) j = S j) (hb : ∀ j, S j < 2147483648) (hL : S (-1) = L) (hL2 : 0 ≤ L ∧ L ≤ 2560) (hi : 0 ≤ i ∧ i + 5 ≤ L) (K : ∀ (z2 : Int) (P2 M2 : Int → Int → Int) (C1 C2 : Nat), y_JF (1399 * (5 + i)) z2 P2 M2 → (∀ j, M2 (-2) j = S j) → B1 ≤ C1 → B2 ≤ C2 → x_Ev 181 851 [.inr (-2), .inr 0, .inr 162, .inl (i)] [] (C1, C2) (z2, P2, M2) x_R1) : x_Ev 181 266 [.inr (-2), .inr 0, .inr 162, .inl (i)] [] (B1 + 154, B2 + 1831) (z, P, M) x_R1 := by
  have hJ := hF.1
  refine e_aload (k := 266) (xi181 266) rfl (by omega) ?_
  refine e_aload (k := 267) (xi181 267) rfl (by omega) ?_
  refine e_iload (k := 268) (xi181 268) rfl ?_
  refine e_iconst (k := 269) (xi181 269) ?_
  refine e_iadd (w := 1 + i) (k := 270) (xi181 270) (x_wn (by omega)) ?_
  refine e_sld (w := S (1 + i)) (k := 271) (xi181 271) ⟨by omega, by rw [hs]; omega⟩ (hs _) ?_
  refine e_aload (k := 272) (xi181 272) rfl (by omega) ?_
  refine e_iload (k := 273) (xi181 273) rfl ?_
  refine e_iconst (k := 274) (xi181 274) ?_
  refine e_iadd (w := 2 + i) (k := 275) (xi181 275) (x_wn (by omega)) ?_
  refine e_sld (w := S (2 + i)) (k := 276) (xi181 276) ⟨by omega, by rw [hs]; omega⟩ (hs _) ?_
  refine e_callR (k := 277) (c1 := B1 + 154) (c2 := B2 + 1831) (rest := []) (as := [.inr 0, .inl (S (1 + i)), .inl (S (2 + i))]) (xi181 277) (by decide) xm86 rfl ⟨rfl, Nat.le_of_ble_eq_true rfl, by decide⟩ (Or.inr (x_okt (ok_WS hJ.1))) (k_x_charge hJ.1 hJ.2.2.1 (S (1 + i)) (S (2 + i))) ?_
  rintro v_ h_ ⟨e1, tx, q1⟩
  cases e1
  have hs1 : ∀ j, (u_x_charge (S (1 + i)) (S (2 + i)) M) (-2) j = S j := fun j => (tx.2 _ _ (Or.inl (by omega))).trans (hs j)
  show x_Ev 181 278 [.inr (-2), .inr 0, .inr 162, .inl (i)] [.inl (v_x_charge (S (1 + i)) (S (2 + i)) M)] (B1 + 154, B2 + 1831) (z, P, (u_x_charge (S (1 + i)) (S (2 + i)) M)) _
  refine e_pop (k := 278) (xi181 278) ?_
  refine e_aload (k := 279) (xi181 279) rfl (by omega) ?_
  refine e_aload (k := 280) (xi181 280) rfl (by omega) ?_
  refine e_iload (k := 281) (xi181 281) rfl ?_
  refine e_iconst (k := 282) (xi181 282) ?_
  refine e_iadd (w := 1 + i) (k := 283) (xi181 283) (x_wn (by omega)) ?_
  refine e_sld (w := S (1 + i)) (k := 284) (xi181 284) ⟨by omega, by rw [hs1]; omega⟩ (hs1 _) ?_
  refine e_aload (k := 285) (xi181 285) rfl (by omega) ?_
  refine e_iload (k := 286) (xi181 286) rfl ?_
  refine e_iconst (k := 287) (xi181 287) ?_
  refine e_iadd (w := 2 + i) (k := 288) (xi181 288) (x_wn (by omega)) ?_
  refine e_sld (w := S (2 + i)) (k := 289) (xi181 289) ⟨by omega, by rw [hs1]; omega⟩ (hs1 _) ?_
  refine e_callR (k := 290) (c1 := B1 + 154) (c2 := B2 + 1831) (rest := []) (as := [.inr 162, .inl (S (1 + i)), .inl (S (2 + i))]) (xi181 290) (by decide) xm141 rfl ⟨rfl, Nat.le_of_ble_eq_true rfl, by decide⟩ (Or.inr (x_okt (ok_mo hJ.1))) (k_n_charge hJ.1 tx.1 (S (1 + i)) (S (2 + i))) ?_
  rintro v_ h_ ⟨e2, tn, q2⟩
  cases e2
  have hs2 : ∀ j, (u_n_charge (S (1 + i)) (S (2 + i)) (u_x_charge (S (1 + i)) (S (2 + i)) M)) (-2) j = S j := fun j => (tn.2 _ _ (Or.inl (by omega))).trans (hs1 j)
  have JF := JF_charge hF tx tn (y_j_light hJ tx tn)
  show x_Ev 181 291 [.inr (-2), .inr 0, .inr 162, .inl (i)] [.inl (v_n_charge (S (1 + i)) (S (2 + i)) (u_x_charge (S (1 + i)) (S (2 + i)) M))] (B1 + 154, B2 + 1831) (z, P, (u_n_charge (S (1 + i)) (S (2 + i)) (u_x_charge (S (1 + i)) (S (2 + i)) M))) _
  refine e_pop (k := 291) (xi181 291) ?_
  refine e_goto (k := 292) (xi181 292) ?_
  exact K _ _ _ _ _ (jf_mono JF.1 (by omega)) hs2 (by omega) (by omega)
set_option maxRecDepth 100000 in
theorem l_c9 {z : Int} {P M : Int → Int → Int} {S : Int → Int} {L i : Int} {B1 B2 : Nat} (hF : y_JF (1399 * i) z P M) (hs : ∀ j, M (-2) j = S j) (hb : ∀ j, S j < 2147483648) (hL : S (-1) = L) (hL2 : 0 ≤ L ∧ L ≤ 2560) (hi : 0 ≤ i ∧ i + 5 ≤ L) (K : ∀ (z2 : Int) (P2 M2 : Int → Int → Int) (C1 C2 : Nat), y_JF (1399 * (5 + i)) z2 P2 M2 → (∀ j, M2 (-2) j = S j) → B1 ≤ C1 → B2 ≤ C2 → x_Ev 181 851 [.inr (-2), .inr 0, .inr 162, .inl (i)] [] (C1, C2) (z2, P2, M2) x_R1) : x_Ev 181 293 [.inr (-2), .inr 0, .inr 162, .inl (i)] [] (B1 + 154, B2 + 1831) (z, P, M) x_R1 := by
  have hJ := hF.1
  refine e_aload (k := 293) (xi181 293) rfl (by omega) ?_
  refine e_aload (k := 294) (xi181 294) rfl (by omega) ?_
  refine e_iload (k := 295) (xi181 295) rfl ?_
  refine e_iconst (k := 296) (xi181 296) ?_
  refine e_iadd (w := 1 + i) (k := 297) (xi181 297) (x_wn (by omega)) ?_
  refine e_sld (w := S (1 + i)) (k := 298) (xi181 298) ⟨by omega, by rw [hs]; omega⟩ (hs _) ?_
  refine e_aload (k := 299) (xi181 299) rfl (by omega) ?_
  refine e_iload (k := 300) (xi181 300) rfl ?_
  refine e_iconst (k := 301) (xi181 301) ?_
  refine e_iadd (w := 2 + i) (k := 302) (xi181 302) (x_wn (by omega)) ?_
  refine e_sld (w := S (2 + i)) (k := 303) (xi181 303) ⟨by omega, by rw [hs]; omega⟩ (hs _) ?_
  refine e_callR (k := 304) (c1 := B1 + 154) (c2 := B2 + 1831) (rest := []) (as := [.inr 0, .inl (S (1 + i)), .inl (S (2 + i))]) (xi181 304) (by decide) xm87 rfl ⟨rfl, Nat.le_of_ble_eq_true rfl, by decide⟩ (Or.inr (x_okt (ok_WS hJ.1))) (k_x_wheel hJ.1 hJ.2.2.1 (S (1 + i)) (S (2 + i))) ?_
  rintro v_ h_ ⟨e1, q1⟩
  cases e1
  show x_Ev 181 305 [.inr (-2), .inr 0, .inr 162, .inl (i)] [.inl (v_x_wheel (S (1 + i)) (S (2 + i)) M)] (B1 + 154, B2 + 1831) (z, P, M) _
  refine e_pop (k := 305) (xi181 305) ?_
  refine e_aload (k := 306) (xi181 306) rfl (by omega) ?_
  refine e_aload (k := 307) (xi181 307) rfl (by omega) ?_
  refine e_iload (k := 308) (xi181 308) rfl ?_
  refine e_iconst (k := 309) (xi181 309) ?_
  refine e_iadd (w := 1 + i) (k := 310) (xi181 310) (x_wn (by omega)) ?_
  refine e_sld (w := S (1 + i)) (k := 311) (xi181 311) ⟨by omega, by rw [hs]; omega⟩ (hs _) ?_
  refine e_aload (k := 312) (xi181 312) rfl (by omega) ?_
  refine e_iload (k := 313) (xi181 313) rfl ?_
  refine e_iconst (k := 314) (xi181 314) ?_
  refine e_iadd (w := 2 + i) (k := 315) (xi181 315) (x_wn (by omega)) ?_
  refine e_sld (w := S (2 + i)) (k := 316) (xi181 316) ⟨by omega, by rw [hs]; omega⟩ (hs _) ?_
  refine e_callR (k := 317) (c1 := B1 + 154) (c2 := B2 + 1831) (rest := []) (as := [.inr 162, .inl (S (1 + i)), .inl (S (2 + i))]) (xi181 317) (by decide) xm142 rfl ⟨rfl, Nat.le_of_ble_eq_true rfl, by decide⟩ (Or.inr (x_okt (ok_mo hJ.1))) (k_n_wheel hJ.1 hJ.2.2.1 (S (1 + i)) (S (2 + i))) ?_
  rintro v_ h_ ⟨e2, q2⟩
  cases e2
  show x_Ev 181 318 [.inr (-2), .inr 0, .inr 162, .inl (i)] [.inl (v_n_wheel (S (1 + i)) (S (2 + i)) M)] (B1 + 154, B2 + 1831) (z, P, M) _
  refine e_pop (k := 318) (xi181 318) ?_
  refine e_goto (k := 319) (xi181 319) ?_
  exact K _ _ _ _ _ (jf_mono hF (by omega)) hs (by omega) (by omega)
set_option maxRecDepth 100000 in
theorem l_c10 {z : Int} {P M : Int → Int → Int} {S : Int → Int} {L i : Int} {B1 B2 : Nat} (hF : y_JF (1399 * i) z P M) (hs : ∀ j, M (-2) j = S j) (hb : ∀ j, S j < 2147483648) (hL : S (-1) = L) (hL2 : 0 ≤ L ∧ L ≤ 2560) (hi : 0 ≤ i ∧ i + 5 ≤ L) (K : ∀ (z2 : Int) (P2 M2 : Int → Int → Int) (C1 C2 : Nat), y_JF (1399 * (5 + i)) z2 P2 M2 → (∀ j, M2 (-2) j = S j) → B1 ≤ C1 → B2 ≤ C2 → x_Ev 181 851 [.inr (-2), .inr 0, .inr 162, .inl (i)] [] (C1, C2) (z2, P2, M2) x_R1) : x_Ev 181 320 [.inr (-2), .inr 0, .inr 162, .inl (i)] [] (B1 + 154, B2 + 1831) (z, P, M) x_R1 := by
  have hJ := hF.1
  refine e_aload (k := 320) (xi181 320) rfl (by omega) ?_
  refine e_aload (k := 321) (xi181 321) rfl (by omega) ?_
  refine e_iload (k := 322) (xi181 322) rfl ?_
  refine e_iconst (k := 323) (xi181 323) ?_
  refine e_iadd (w := 1 + i) (k := 324) (xi181 324) (x_wn (by omega)) ?_
  refine e_sld (w := S (1 + i)) (k := 325) (xi181 325) ⟨by omega, by rw [hs]; omega⟩ (hs _) ?_
  refine e_callR (k := 326) (c1 := B1 + 154) (c2 := B2 + 1831) (rest := []) (as := [.inr 0, .inl (S (1 + i))]) (xi181 326) (by decide) xm88 rfl ⟨rfl, Nat.le_of_ble_eq_true rfl, by decide⟩ (Or.inr (x_okt (ok_WS hJ.1))) (k_x_fault hJ.1 hJ.2.2.1 (S (1 + i))) ?_
  rintro v_ h_ ⟨e1, tx, q1⟩
  cases e1
  have hs1 : ∀ j, (u_x_fault (S (1 + i)) M) (-2) j = S j := fun j => (tx.2 _ _ (Or.inl (by omega))).trans (hs j)
  show x_Ev 181 327 [.inr (-2), .inr 0, .inr 162, .inl (i)] [.inl (v_x_fault (S (1 + i)) M)] (B1 + 154, B2 + 1831) (z, P, (u_x_fault (S (1 + i)) M)) _
  refine e_pop (k := 327) (xi181 327) ?_
  refine e_aload (k := 328) (xi181 328) rfl (by omega) ?_
  refine e_aload (k := 329) (xi181 329) rfl (by omega) ?_
  refine e_iload (k := 330) (xi181 330) rfl ?_
  refine e_iconst (k := 331) (xi181 331) ?_
  refine e_iadd (w := 1 + i) (k := 332) (xi181 332) (x_wn (by omega)) ?_
  refine e_sld (w := S (1 + i)) (k := 333) (xi181 333) ⟨by omega, by rw [hs1]; omega⟩ (hs1 _) ?_
  refine e_callR (k := 334) (c1 := B1 + 154) (c2 := B2 + 1831) (rest := []) (as := [.inr 162, .inl (S (1 + i))]) (xi181 334) (by decide) xm143 rfl ⟨rfl, Nat.le_of_ble_eq_true rfl, by decide⟩ (Or.inr (x_okt (ok_mo hJ.1))) (k_n_fault hJ.1 tx.1 (S (1 + i))) ?_
  rintro v_ h_ ⟨e2, tn, q2⟩
  cases e2
  have hs2 : ∀ j, (u_n_fault (S (1 + i)) (u_x_fault (S (1 + i)) M)) (-2) j = S j := fun j => (tn.2 _ _ (Or.inl (by omega))).trans (hs1 j)
  have JF := JF_fault hF tx tn (y_j_light hJ tx tn)
  show x_Ev 181 335 [.inr (-2), .inr 0, .inr 162, .inl (i)] [.inl (v_n_fault (S (1 + i)) (u_x_fault (S (1 + i)) M))] (B1 + 154, B2 + 1831) (z, P, (u_n_fault (S (1 + i)) (u_x_fault (S (1 + i)) M))) _
  refine e_pop (k := 335) (xi181 335) ?_
  refine e_goto (k := 336) (xi181 336) ?_
  exact K _ _ _ _ _ (jf_mono JF.1 (by omega)) hs2 (by omega) (by omega)
set_option maxRecDepth 100000 in
theorem l_c11 {z : Int} {P M : Int → Int → Int} {S : Int → Int} {L i : Int} {B1 B2 : Nat} (hF : y_JF (1399 * i) z P M) (hs : ∀ j, M (-2) j = S j) (hb : ∀ j, S j < 2147483648) (hL : S (-1) = L) (hL2 : 0 ≤ L ∧ L ≤ 2560) (hi : 0 ≤ i ∧ i + 5 ≤ L) (K : ∀ (z2 : Int) (P2 M2 : Int → Int → Int) (C1 C2 : Nat), y_JF (1399 * (5 + i)) z2 P2 M2 → (∀ j, M2 (-2) j = S j) → B1 ≤ C1 → B2 ≤ C2 → x_Ev 181 851 [.inr (-2), .inr 0, .inr 162, .inl (i)] [] (C1, C2) (z2, P2, M2) x_R1) : x_Ev 181 337 [.inr (-2), .inr 0, .inr 162, .inl (i)] [] (B1 + 154, B2 + 1831) (z, P, M) x_R1 := by
  have hJ := hF.1
  refine e_aload (k := 337) (xi181 337) rfl (by omega) ?_
  refine e_aload (k := 338) (xi181 338) rfl (by omega) ?_
  refine e_iload (k := 339) (xi181 339) rfl ?_
  refine e_iconst (k := 340) (xi181 340) ?_
  refine e_iadd (w := 1 + i) (k := 341) (xi181 341) (x_wn (by omega)) ?_
  refine e_sld (w := S (1 + i)) (k := 342) (xi181 342) ⟨by omega, by rw [hs]; omega⟩ (hs _) ?_
  refine e_callR (k := 343) (c1 := B1 + 154) (c2 := B2 + 1831) (rest := []) (as := [.inr 0, .inl (S (1 + i))]) (xi181 343) (by decide) xm89 rfl ⟨rfl, Nat.le_of_ble_eq_true rfl, by decide⟩ (Or.inr (x_okt (ok_WS hJ.1))) (k_x_test hJ.1 hJ.2.2.1 (S (1 + i))) ?_
  rintro v_ h_ ⟨e1, tx, q1⟩
  cases e1
  have hs1 : ∀ j, (u_x_test (S (1 + i)) M) (-2) j = S j := fun j => (tx.2 _ _ (Or.inl (by omega))).trans (hs j)
  show x_Ev 181 344 [.inr (-2), .inr 0, .inr 162, .inl (i)] [.inl (v_x_test (S (1 + i)) M)] (B1 + 154, B2 + 1831) (z, P, (u_x_test (S (1 + i)) M)) _
  refine e_pop (k := 344) (xi181 344) ?_
  refine e_aload (k := 345) (xi181 345) rfl (by omega) ?_
  refine e_aload (k := 346) (xi181 346) rfl (by omega) ?_
  refine e_iload (k := 347) (xi181 347) rfl ?_
  refine e_iconst (k := 348) (xi181 348) ?_
  refine e_iadd (w := 1 + i) (k := 349) (xi181 349) (x_wn (by omega)) ?_
  refine e_sld (w := S (1 + i)) (k := 350) (xi181 350) ⟨by omega, by rw [hs1]; omega⟩ (hs1 _) ?_
  refine e_callR (k := 351) (c1 := B1 + 154) (c2 := B2 + 1831) (rest := []) (as := [.inr 162, .inl (S (1 + i))]) (xi181 351) (by decide) xm144 rfl ⟨rfl, Nat.le_of_ble_eq_true rfl, by decide⟩ (Or.inr (x_okt (ok_mo hJ.1))) (k_n_test hJ.1 tx.1 (S (1 + i))) ?_
  rintro v_ h_ ⟨e2, tn, q2⟩
  cases e2
  have hs2 : ∀ j, (u_n_test (S (1 + i)) (u_x_test (S (1 + i)) M)) (-2) j = S j := fun j => (tn.2 _ _ (Or.inl (by omega))).trans (hs1 j)
  have JF := JF_test hF tx tn (y_j_light hJ tx tn)
  show x_Ev 181 352 [.inr (-2), .inr 0, .inr 162, .inl (i)] [.inl (v_n_test (S (1 + i)) (u_x_test (S (1 + i)) M))] (B1 + 154, B2 + 1831) (z, P, (u_n_test (S (1 + i)) (u_x_test (S (1 + i)) M))) _
  refine e_pop (k := 352) (xi181 352) ?_
  refine e_goto (k := 353) (xi181 353) ?_
  exact K _ _ _ _ _ (jf_mono JF.1 (by omega)) hs2 (by omega) (by omega)
set_option maxRecDepth 100000 in
theorem l_c12 {z : Int} {P M : Int → Int → Int} {S : Int → Int} {L i : Int} {B1 B2 : Nat} (hF : y_JF (1399 * i) z P M) (hs : ∀ j, M (-2) j = S j) (hb : ∀ j, S j < 2147483648) (hL : S (-1) = L) (hL2 : 0 ≤ L ∧ L ≤ 2560) (hi : 0 ≤ i ∧ i + 5 ≤ L) (K : ∀ (z2 : Int) (P2 M2 : Int → Int → Int) (C1 C2 : Nat), y_JF (1399 * (5 + i)) z2 P2 M2 → (∀ j, M2 (-2) j = S j) → B1 ≤ C1 → B2 ≤ C2 → x_Ev 181 851 [.inr (-2), .inr 0, .inr 162, .inl (i)] [] (C1, C2) (z2, P2, M2) x_R1) : x_Ev 181 354 [.inr (-2), .inr 0, .inr 162, .inl (i)] [] (B1 + 154, B2 + 1831) (z, P, M) x_R1 := by
  have hJ := hF.1
  refine e_aload (k := 354) (xi181 354) rfl (by omega) ?_
  refine e_aload (k := 355) (xi181 355) rfl (by omega) ?_
  refine e_iload (k := 356) (xi181 356) rfl ?_
  refine e_iconst (k := 357) (xi181 357) ?_
  refine e_iadd (w := 1 + i) (k := 358) (xi181 358) (x_wn (by omega)) ?_
  refine e_sld (w := S (1 + i)) (k := 359) (xi181 359) ⟨by omega, by rw [hs]; omega⟩ (hs _) ?_
  refine e_callR (k := 360) (c1 := B1 + 154) (c2 := B2 + 1831) (rest := []) (as := [.inr 0, .inl (S (1 + i))]) (xi181 360) (by decide) xm90 rfl ⟨rfl, Nat.le_of_ble_eq_true rfl, by decide⟩ (Or.inr (x_okt (ok_WS hJ.1))) (k_x_mend hJ.1 hJ.2.2.1 (S (1 + i))) ?_
  rintro v_ h_ ⟨e1, tx, q1⟩
  cases e1
  have hs1 : ∀ j, (u_x_mend (S (1 + i)) M) (-2) j = S j := fun j => (tx.2 _ _ (Or.inl (by omega))).trans (hs j)
  show x_Ev 181 361 [.inr (-2), .inr 0, .inr 162, .inl (i)] [.inl (v_x_mend (S (1 + i)) M)] (B1 + 154, B2 + 1831) (z, P, (u_x_mend (S (1 + i)) M)) _
  refine e_pop (k := 361) (xi181 361) ?_
  refine e_aload (k := 362) (xi181 362) rfl (by omega) ?_
  refine e_aload (k := 363) (xi181 363) rfl (by omega) ?_
  refine e_iload (k := 364) (xi181 364) rfl ?_
  refine e_iconst (k := 365) (xi181 365) ?_
  refine e_iadd (w := 1 + i) (k := 366) (xi181 366) (x_wn (by omega)) ?_
  refine e_sld (w := S (1 + i)) (k := 367) (xi181 367) ⟨by omega, by rw [hs1]; omega⟩ (hs1 _) ?_
  refine e_callR (k := 368) (c1 := B1 + 154) (c2 := B2 + 1831) (rest := []) (as := [.inr 162, .inl (S (1 + i))]) (xi181 368) (by decide) xm145 rfl ⟨rfl, Nat.le_of_ble_eq_true rfl, by decide⟩ (Or.inr (x_okt (ok_mo hJ.1))) (k_n_mend hJ.1 tx.1 (S (1 + i))) ?_
  rintro v_ h_ ⟨e2, tn, q2⟩
  cases e2
  have hs2 : ∀ j, (u_n_mend (S (1 + i)) (u_x_mend (S (1 + i)) M)) (-2) j = S j := fun j => (tn.2 _ _ (Or.inl (by omega))).trans (hs1 j)
  have JF := JF_mend hF tx tn (y_j_light hJ tx tn)
  show x_Ev 181 369 [.inr (-2), .inr 0, .inr 162, .inl (i)] [.inl (v_n_mend (S (1 + i)) (u_x_mend (S (1 + i)) M))] (B1 + 154, B2 + 1831) (z, P, (u_n_mend (S (1 + i)) (u_x_mend (S (1 + i)) M))) _
  refine e_pop (k := 369) (xi181 369) ?_
  refine e_goto (k := 370) (xi181 370) ?_
  exact K _ _ _ _ _ (jf_mono JF.1 (by omega)) hs2 (by omega) (by omega)
set_option maxRecDepth 100000 in
theorem l_c13 {z : Int} {P M : Int → Int → Int} {S : Int → Int} {L i : Int} {B1 B2 : Nat} (hF : y_JF (1399 * i) z P M) (hs : ∀ j, M (-2) j = S j) (hb : ∀ j, S j < 2147483648) (hL : S (-1) = L) (hL2 : 0 ≤ L ∧ L ≤ 2560) (hi : 0 ≤ i ∧ i + 5 ≤ L) (K : ∀ (z2 : Int) (P2 M2 : Int → Int → Int) (C1 C2 : Nat), y_JF (1399 * (5 + i)) z2 P2 M2 → (∀ j, M2 (-2) j = S j) → B1 ≤ C1 → B2 ≤ C2 → x_Ev 181 851 [.inr (-2), .inr 0, .inr 162, .inl (i)] [] (C1, C2) (z2, P2, M2) x_R1) : x_Ev 181 371 [.inr (-2), .inr 0, .inr 162, .inl (i)] [] (B1 + 154, B2 + 1831) (z, P, M) x_R1 := by
  have hJ := hF.1
  refine e_aload (k := 371) (xi181 371) rfl (by omega) ?_
  refine e_aload (k := 372) (xi181 372) rfl (by omega) ?_
  refine e_iload (k := 373) (xi181 373) rfl ?_
  refine e_iconst (k := 374) (xi181 374) ?_
  refine e_iadd (w := 1 + i) (k := 375) (xi181 375) (x_wn (by omega)) ?_
  refine e_sld (w := S (1 + i)) (k := 376) (xi181 376) ⟨by omega, by rw [hs]; omega⟩ (hs _) ?_
  refine e_aload (k := 377) (xi181 377) rfl (by omega) ?_
  refine e_iload (k := 378) (xi181 378) rfl ?_
  refine e_iconst (k := 379) (xi181 379) ?_
  refine e_iadd (w := 2 + i) (k := 380) (xi181 380) (x_wn (by omega)) ?_
  refine e_sld (w := S (2 + i)) (k := 381) (xi181 381) ⟨by omega, by rw [hs]; omega⟩ (hs _) ?_
  refine e_callR (k := 382) (c1 := B1 + 154) (c2 := B2 + 1831) (rest := []) (as := [.inr 0, .inl (S (1 + i)), .inl (S (2 + i))]) (xi181 382) (by decide) xm91 rfl ⟨rfl, Nat.le_of_ble_eq_true rfl, by decide⟩ (Or.inr (x_okt (ok_WS hJ.1))) (k_x_doubt hJ.1 hJ.2.2.1 (S (1 + i)) (S (2 + i))) ?_
  rintro v_ h_ ⟨e1, q1⟩
  cases e1
  show x_Ev 181 383 [.inr (-2), .inr 0, .inr 162, .inl (i)] [.inl (v_x_doubt (S (1 + i)) (S (2 + i)) M)] (B1 + 154, B2 + 1831) (z, P, M) _
  refine e_pop (k := 383) (xi181 383) ?_
  refine e_aload (k := 384) (xi181 384) rfl (by omega) ?_
  refine e_aload (k := 385) (xi181 385) rfl (by omega) ?_
  refine e_iload (k := 386) (xi181 386) rfl ?_
  refine e_iconst (k := 387) (xi181 387) ?_
  refine e_iadd (w := 1 + i) (k := 388) (xi181 388) (x_wn (by omega)) ?_
  refine e_sld (w := S (1 + i)) (k := 389) (xi181 389) ⟨by omega, by rw [hs]; omega⟩ (hs _) ?_
  refine e_aload (k := 390) (xi181 390) rfl (by omega) ?_
  refine e_iload (k := 391) (xi181 391) rfl ?_
  refine e_iconst (k := 392) (xi181 392) ?_
  refine e_iadd (w := 2 + i) (k := 393) (xi181 393) (x_wn (by omega)) ?_
  refine e_sld (w := S (2 + i)) (k := 394) (xi181 394) ⟨by omega, by rw [hs]; omega⟩ (hs _) ?_
  refine e_callR (k := 395) (c1 := B1 + 154) (c2 := B2 + 1831) (rest := []) (as := [.inr 162, .inl (S (1 + i)), .inl (S (2 + i))]) (xi181 395) (by decide) xm146 rfl ⟨rfl, Nat.le_of_ble_eq_true rfl, by decide⟩ (Or.inr (x_okt (ok_mo hJ.1))) (k_n_doubt hJ.1 hJ.2.2.1 (S (1 + i)) (S (2 + i))) ?_
  rintro v_ h_ ⟨e2, q2⟩
  cases e2
  show x_Ev 181 396 [.inr (-2), .inr 0, .inr 162, .inl (i)] [.inl (v_n_doubt (S (1 + i)) (S (2 + i)) M)] (B1 + 154, B2 + 1831) (z, P, M) _
  refine e_pop (k := 396) (xi181 396) ?_
  refine e_goto (k := 397) (xi181 397) ?_
  exact K _ _ _ _ _ (jf_mono hF (by omega)) hs (by omega) (by omega)
set_option maxRecDepth 100000 in
theorem l_c14 {z : Int} {P M : Int → Int → Int} {S : Int → Int} {L i : Int} {B1 B2 : Nat} (hF : y_JF (1399 * i) z P M) (hs : ∀ j, M (-2) j = S j) (hb : ∀ j, S j < 2147483648) (hL : S (-1) = L) (hL2 : 0 ≤ L ∧ L ≤ 2560) (hi : 0 ≤ i ∧ i + 5 ≤ L) (K : ∀ (z2 : Int) (P2 M2 : Int → Int → Int) (C1 C2 : Nat), y_JF (1399 * (5 + i)) z2 P2 M2 → (∀ j, M2 (-2) j = S j) → B1 ≤ C1 → B2 ≤ C2 → x_Ev 181 851 [.inr (-2), .inr 0, .inr 162, .inl (i)] [] (C1, C2) (z2, P2, M2) x_R1) : x_Ev 181 398 [.inr (-2), .inr 0, .inr 162, .inl (i)] [] (B1 + 154, B2 + 1831) (z, P, M) x_R1 := by
  have hJ := hF.1
  refine e_aload (k := 398) (xi181 398) rfl (by omega) ?_
  refine e_aload (k := 399) (xi181 399) rfl (by omega) ?_
  refine e_iload (k := 400) (xi181 400) rfl ?_
  refine e_iconst (k := 401) (xi181 401) ?_
  refine e_iadd (w := 1 + i) (k := 402) (xi181 402) (x_wn (by omega)) ?_
  refine e_sld (w := S (1 + i)) (k := 403) (xi181 403) ⟨by omega, by rw [hs]; omega⟩ (hs _) ?_
  refine e_aload (k := 404) (xi181 404) rfl (by omega) ?_
  refine e_iload (k := 405) (xi181 405) rfl ?_
  refine e_iconst (k := 406) (xi181 406) ?_
  refine e_iadd (w := 2 + i) (k := 407) (xi181 407) (x_wn (by omega)) ?_
  refine e_sld (w := S (2 + i)) (k := 408) (xi181 408) ⟨by omega, by rw [hs]; omega⟩ (hs _) ?_
  refine e_aload (k := 409) (xi181 409) rfl (by omega) ?_
  refine e_iload (k := 410) (xi181 410) rfl ?_
  refine e_iconst (k := 411) (xi181 411) ?_
  refine e_iadd (w := 3 + i) (k := 412) (xi181 412) (x_wn (by omega)) ?_
  refine e_sld (w := S (3 + i)) (k := 413) (xi181 413) ⟨by omega, by rw [hs]; omega⟩ (hs _) ?_
  refine e_callR (k := 414) (c1 := B1 + 154) (c2 := B2 + 1831) (rest := []) (as := [.inr 0, .inl (S (1 + i)), .inl (S (2 + i)), .inl (S (3 + i))]) (xi181 414) (by decide) xm92 rfl ⟨rfl, Nat.le_of_ble_eq_true rfl, by decide⟩ (Or.inr (x_okt (ok_WS hJ.1))) (k_x_hire hJ.1 hJ.2.2.1 (S (1 + i)) (S (2 + i)) (S (3 + i))) ?_
  rintro v_ h_ ⟨e1, tx, q1⟩
  cases e1
  have hs1 : ∀ j, (u_x_hire (S (1 + i)) (S (2 + i)) (S (3 + i)) M) (-2) j = S j := fun j => (tx.2 _ _ (Or.inl (by omega))).trans (hs j)
  show x_Ev 181 415 [.inr (-2), .inr 0, .inr 162, .inl (i)] [.inl (v_x_hire (S (1 + i)) (S (2 + i)) (S (3 + i)) M)] (B1 + 154, B2 + 1831) (z, P, (u_x_hire (S (1 + i)) (S (2 + i)) (S (3 + i)) M)) _
  refine e_pop (k := 415) (xi181 415) ?_
  refine e_aload (k := 416) (xi181 416) rfl (by omega) ?_
  refine e_aload (k := 417) (xi181 417) rfl (by omega) ?_
  refine e_iload (k := 418) (xi181 418) rfl ?_
  refine e_iconst (k := 419) (xi181 419) ?_
  refine e_iadd (w := 1 + i) (k := 420) (xi181 420) (x_wn (by omega)) ?_
  refine e_sld (w := S (1 + i)) (k := 421) (xi181 421) ⟨by omega, by rw [hs1]; omega⟩ (hs1 _) ?_
  refine e_aload (k := 422) (xi181 422) rfl (by omega) ?_
  refine e_iload (k := 423) (xi181 423) rfl ?_
  refine e_iconst (k := 424) (xi181 424) ?_
  refine e_iadd (w := 2 + i) (k := 425) (xi181 425) (x_wn (by omega)) ?_
  refine e_sld (w := S (2 + i)) (k := 426) (xi181 426) ⟨by omega, by rw [hs1]; omega⟩ (hs1 _) ?_
  refine e_aload (k := 427) (xi181 427) rfl (by omega) ?_
  refine e_iload (k := 428) (xi181 428) rfl ?_
  refine e_iconst (k := 429) (xi181 429) ?_
  refine e_iadd (w := 3 + i) (k := 430) (xi181 430) (x_wn (by omega)) ?_
  refine e_sld (w := S (3 + i)) (k := 431) (xi181 431) ⟨by omega, by rw [hs1]; omega⟩ (hs1 _) ?_
  refine e_callR (k := 432) (c1 := B1 + 154) (c2 := B2 + 1831) (rest := []) (as := [.inr 162, .inl (S (1 + i)), .inl (S (2 + i)), .inl (S (3 + i))]) (xi181 432) (by decide) xm150 rfl ⟨rfl, Nat.le_of_ble_eq_true rfl, by decide⟩ (Or.inr (x_okt (ok_mo hJ.1))) (k_n_hire hJ.1 tx.1 (S (1 + i)) (S (2 + i)) (S (3 + i))) ?_
  rintro v_ h_ ⟨e2, tn, q2⟩
  cases e2
  have hs2 : ∀ j, (u_n_hire (S (1 + i)) (S (2 + i)) (S (3 + i)) (u_x_hire (S (1 + i)) (S (2 + i)) (S (3 + i)) M)) (-2) j = S j := fun j => (tn.2 _ _ (Or.inl (by omega))).trans (hs1 j)
  have JF := JF_hire hF tx tn (y_j_light hJ tx tn)
  show x_Ev 181 433 [.inr (-2), .inr 0, .inr 162, .inl (i)] [.inl (v_n_hire (S (1 + i)) (S (2 + i)) (S (3 + i)) (u_x_hire (S (1 + i)) (S (2 + i)) (S (3 + i)) M))] (B1 + 154, B2 + 1831) (z, P, (u_n_hire (S (1 + i)) (S (2 + i)) (S (3 + i)) (u_x_hire (S (1 + i)) (S (2 + i)) (S (3 + i)) M))) _
  refine e_pop (k := 433) (xi181 433) ?_
  refine e_goto (k := 434) (xi181 434) ?_
  exact K _ _ _ _ _ (jf_mono JF.1 (by omega)) hs2 (by omega) (by omega)
set_option maxRecDepth 100000 in
theorem l_c15 {z : Int} {P M : Int → Int → Int} {S : Int → Int} {L i : Int} {B1 B2 : Nat} (hF : y_JF (1399 * i) z P M) (hs : ∀ j, M (-2) j = S j) (hb : ∀ j, S j < 2147483648) (hL : S (-1) = L) (hL2 : 0 ≤ L ∧ L ≤ 2560) (hi : 0 ≤ i ∧ i + 5 ≤ L) (K : ∀ (z2 : Int) (P2 M2 : Int → Int → Int) (C1 C2 : Nat), y_JF (1399 * (5 + i)) z2 P2 M2 → (∀ j, M2 (-2) j = S j) → B1 ≤ C1 → B2 ≤ C2 → x_Ev 181 851 [.inr (-2), .inr 0, .inr 162, .inl (i)] [] (C1, C2) (z2, P2, M2) x_R1) : x_Ev 181 435 [.inr (-2), .inr 0, .inr 162, .inl (i)] [] (B1 + 154, B2 + 1831) (z, P, M) x_R1 := by
  have hJ := hF.1
  refine e_aload (k := 435) (xi181 435) rfl (by omega) ?_
  refine e_aload (k := 436) (xi181 436) rfl (by omega) ?_
  refine e_iload (k := 437) (xi181 437) rfl ?_
  refine e_iconst (k := 438) (xi181 438) ?_
  refine e_iadd (w := 1 + i) (k := 439) (xi181 439) (x_wn (by omega)) ?_
  refine e_sld (w := S (1 + i)) (k := 440) (xi181 440) ⟨by omega, by rw [hs]; omega⟩ (hs _) ?_
  refine e_aload (k := 441) (xi181 441) rfl (by omega) ?_
  refine e_iload (k := 442) (xi181 442) rfl ?_
  refine e_iconst (k := 443) (xi181 443) ?_
  refine e_iadd (w := 2 + i) (k := 444) (xi181 444) (x_wn (by omega)) ?_
  refine e_sld (w := S (2 + i)) (k := 445) (xi181 445) ⟨by omega, by rw [hs]; omega⟩ (hs _) ?_
  refine e_callR (k := 446) (c1 := B1 + 154) (c2 := B2 + 1831) (rest := []) (as := [.inr 0, .inl (S (1 + i)), .inl (S (2 + i))]) (xi181 446) (by decide) xm93 rfl ⟨rfl, Nat.le_of_ble_eq_true rfl, by decide⟩ (Or.inr (x_okt (ok_WS hJ.1))) (k_x_end hJ.1 hJ.2.2.1 (S (1 + i)) (S (2 + i))) ?_
  rintro v_ h_ ⟨e1, tx, q1⟩
  cases e1
  have hs1 : ∀ j, (u_x_end (S (1 + i)) (S (2 + i)) M) (-2) j = S j := fun j => (tx.2 _ _ (Or.inl (by omega))).trans (hs j)
  show x_Ev 181 447 [.inr (-2), .inr 0, .inr 162, .inl (i)] [.inl (v_x_end (S (1 + i)) (S (2 + i)) M)] (B1 + 154, B2 + 1831) (z, P, (u_x_end (S (1 + i)) (S (2 + i)) M)) _
  refine e_pop (k := 447) (xi181 447) ?_
  refine e_aload (k := 448) (xi181 448) rfl (by omega) ?_
  refine e_aload (k := 449) (xi181 449) rfl (by omega) ?_
  refine e_iload (k := 450) (xi181 450) rfl ?_
  refine e_iconst (k := 451) (xi181 451) ?_
  refine e_iadd (w := 1 + i) (k := 452) (xi181 452) (x_wn (by omega)) ?_
  refine e_sld (w := S (1 + i)) (k := 453) (xi181 453) ⟨by omega, by rw [hs1]; omega⟩ (hs1 _) ?_
  refine e_aload (k := 454) (xi181 454) rfl (by omega) ?_
  refine e_iload (k := 455) (xi181 455) rfl ?_
  refine e_iconst (k := 456) (xi181 456) ?_
  refine e_iadd (w := 2 + i) (k := 457) (xi181 457) (x_wn (by omega)) ?_
  refine e_sld (w := S (2 + i)) (k := 458) (xi181 458) ⟨by omega, by rw [hs1]; omega⟩ (hs1 _) ?_
  refine e_callR (k := 459) (c1 := B1 + 154) (c2 := B2 + 1831) (rest := []) (as := [.inr 162, .inl (S (1 + i)), .inl (S (2 + i))]) (xi181 459) (by decide) xm154 rfl ⟨rfl, Nat.le_of_ble_eq_true rfl, by decide⟩ (Or.inr (x_okt (ok_mo hJ.1))) (k_n_end hJ.1 tx.1 (S (1 + i)) (S (2 + i))) ?_
  rintro v_ h_ ⟨e2, tn, q2⟩
  cases e2
  have hs2 : ∀ j, (u_n_end (S (1 + i)) (S (2 + i)) (u_x_end (S (1 + i)) (S (2 + i)) M)) (-2) j = S j := fun j => (tn.2 _ _ (Or.inl (by omega))).trans (hs1 j)
  have JF := JF_end hF tx tn (y_j_light hJ tx tn)
  show x_Ev 181 460 [.inr (-2), .inr 0, .inr 162, .inl (i)] [.inl (v_n_end (S (1 + i)) (S (2 + i)) (u_x_end (S (1 + i)) (S (2 + i)) M))] (B1 + 154, B2 + 1831) (z, P, (u_n_end (S (1 + i)) (S (2 + i)) (u_x_end (S (1 + i)) (S (2 + i)) M))) _
  refine e_pop (k := 460) (xi181 460) ?_
  refine e_goto (k := 461) (xi181 461) ?_
  exact K _ _ _ _ _ (jf_mono JF.1 (by omega)) hs2 (by omega) (by omega)
set_option maxRecDepth 100000 in
theorem l_c16 {z : Int} {P M : Int → Int → Int} {S : Int → Int} {L i : Int} {B1 B2 : Nat} (hF : y_JF (1399 * i) z P M) (hs : ∀ j, M (-2) j = S j) (hb : ∀ j, S j < 2147483648) (hL : S (-1) = L) (hL2 : 0 ≤ L ∧ L ≤ 2560) (hi : 0 ≤ i ∧ i + 5 ≤ L) (K : ∀ (z2 : Int) (P2 M2 : Int → Int → Int) (C1 C2 : Nat), y_JF (1399 * (5 + i)) z2 P2 M2 → (∀ j, M2 (-2) j = S j) → B1 ≤ C1 → B2 ≤ C2 → x_Ev 181 851 [.inr (-2), .inr 0, .inr 162, .inl (i)] [] (C1, C2) (z2, P2, M2) x_R1) : x_Ev 181 462 [.inr (-2), .inr 0, .inr 162, .inl (i)] [] (B1 + 154, B2 + 1831) (z, P, M) x_R1 := by
  have hJ := hF.1
  refine e_aload (k := 462) (xi181 462) rfl (by omega) ?_
  refine e_callR (k := 463) (c1 := B1 + 154) (c2 := B2 + 1831) (rest := []) (as := [.inr 0]) (xi181 463) (by decide) xm94 rfl ⟨rfl, Nat.le_of_ble_eq_true rfl, by decide⟩ (Or.inr (x_okt (ok_WS hJ.1))) (k_x_hour hJ.1 hJ.2.2.1 ) ?_
  rintro v_ h_ ⟨e1, tx, q1⟩
  cases e1
  have hs1 : ∀ j, (u_x_hour M) (-2) j = S j := fun j => (tx.2 _ _ (Or.inl (by omega))).trans (hs j)
  show x_Ev 181 464 [.inr (-2), .inr 0, .inr 162, .inl (i)] [.inl (v_x_hour M)] (B1 + 154, B2 + 1831) (z, P, (u_x_hour M)) _
  refine e_pop (k := 464) (xi181 464) ?_
  refine e_aload (k := 465) (xi181 465) rfl (by omega) ?_
  refine e_callR (k := 466) (c1 := B1 + 154) (c2 := B2 + 1831) (rest := []) (as := [.inr 162]) (xi181 466) (by decide) xm155 rfl ⟨rfl, Nat.le_of_ble_eq_true rfl, by decide⟩ (Or.inr (x_okt (ok_mo hJ.1))) (k_n_hour hJ.1 tx.1 ) ?_
  rintro v_ h_ ⟨e2, tn, q2⟩
  cases e2
  have hs2 : ∀ j, (u_n_hour (u_x_hour M)) (-2) j = S j := fun j => (tn.2 _ _ (Or.inl (by omega))).trans (hs1 j)
  have JV := J_hour hJ tx tn
  have JF := JF_hour hF tx tn JV.1
  show x_Ev 181 467 [.inr (-2), .inr 0, .inr 162, .inl (i)] [.inl (v_n_hour (u_x_hour M))] (B1 + 154, B2 + 1831) (z, P, (u_n_hour (u_x_hour M))) _
  refine e_pop (k := 467) (xi181 467) ?_
  refine e_goto (k := 468) (xi181 468) ?_
  exact K _ _ _ _ _ (jf_mono JF.1 (by omega)) hs2 (by omega) (by omega)
set_option maxRecDepth 100000 in
theorem l_c17 {z : Int} {P M : Int → Int → Int} {S : Int → Int} {L i : Int} {B1 B2 : Nat} (hF : y_JF (1399 * i) z P M) (hs : ∀ j, M (-2) j = S j) (hb : ∀ j, S j < 2147483648) (hL : S (-1) = L) (hL2 : 0 ≤ L ∧ L ≤ 2560) (hi : 0 ≤ i ∧ i + 5 ≤ L) (K : ∀ (z2 : Int) (P2 M2 : Int → Int → Int) (C1 C2 : Nat), y_JF (1399 * (5 + i)) z2 P2 M2 → (∀ j, M2 (-2) j = S j) → B1 ≤ C1 → B2 ≤ C2 → x_Ev 181 851 [.inr (-2), .inr 0, .inr 162, .inl (i)] [] (C1, C2) (z2, P2, M2) x_R1) : x_Ev 181 469 [.inr (-2), .inr 0, .inr 162, .inl (i)] [] (B1 + 154, B2 + 1831) (z, P, M) x_R1 := by
  have hJ := hF.1
  refine e_aload (k := 469) (xi181 469) rfl (by omega) ?_
  refine e_aload (k := 470) (xi181 470) rfl (by omega) ?_
  refine e_iload (k := 471) (xi181 471) rfl ?_
  refine e_iconst (k := 472) (xi181 472) ?_
  refine e_iadd (w := 1 + i) (k := 473) (xi181 473) (x_wn (by omega)) ?_
  refine e_sld (w := S (1 + i)) (k := 474) (xi181 474) ⟨by omega, by rw [hs]; omega⟩ (hs _) ?_
  refine e_aload (k := 475) (xi181 475) rfl (by omega) ?_
  refine e_iload (k := 476) (xi181 476) rfl ?_
  refine e_iconst (k := 477) (xi181 477) ?_
  refine e_iadd (w := 2 + i) (k := 478) (xi181 478) (x_wn (by omega)) ?_
  refine e_sld (w := S (2 + i)) (k := 479) (xi181 479) ⟨by omega, by rw [hs]; omega⟩ (hs _) ?_
  refine e_callR (k := 480) (c1 := B1 + 154) (c2 := B2 + 1831) (rest := []) (as := [.inr 0, .inl (S (1 + i)), .inl (S (2 + i))]) (xi181 480) (by decide) xm95 rfl ⟨rfl, Nat.le_of_ble_eq_true rfl, by decide⟩ (Or.inr (x_okt (ok_WS hJ.1))) (k_x_cart hJ.1 hJ.2.2.1 (S (1 + i)) (S (2 + i))) ?_
  rintro v_ h_ ⟨e1, tx, q1⟩
  cases e1
  have hs1 : ∀ j, (u_x_cart (S (1 + i)) (S (2 + i)) M) (-2) j = S j := fun j => (tx.2 _ _ (Or.inl (by omega))).trans (hs j)
  show x_Ev 181 481 [.inr (-2), .inr 0, .inr 162, .inl (i)] [.inl (v_x_cart (S (1 + i)) (S (2 + i)) M)] (B1 + 154, B2 + 1831) (z, P, (u_x_cart (S (1 + i)) (S (2 + i)) M)) _
  refine e_pop (k := 481) (xi181 481) ?_
  refine e_aload (k := 482) (xi181 482) rfl (by omega) ?_
  refine e_aload (k := 483) (xi181 483) rfl (by omega) ?_
  refine e_iload (k := 484) (xi181 484) rfl ?_
  refine e_iconst (k := 485) (xi181 485) ?_
  refine e_iadd (w := 1 + i) (k := 486) (xi181 486) (x_wn (by omega)) ?_
  refine e_sld (w := S (1 + i)) (k := 487) (xi181 487) ⟨by omega, by rw [hs1]; omega⟩ (hs1 _) ?_
  refine e_aload (k := 488) (xi181 488) rfl (by omega) ?_
  refine e_iload (k := 489) (xi181 489) rfl ?_
  refine e_iconst (k := 490) (xi181 490) ?_
  refine e_iadd (w := 2 + i) (k := 491) (xi181 491) (x_wn (by omega)) ?_
  refine e_sld (w := S (2 + i)) (k := 492) (xi181 492) ⟨by omega, by rw [hs1]; omega⟩ (hs1 _) ?_
  refine e_callR (k := 493) (c1 := B1 + 154) (c2 := B2 + 1831) (rest := []) (as := [.inr 162, .inl (S (1 + i)), .inl (S (2 + i))]) (xi181 493) (by decide) xm157 rfl ⟨rfl, Nat.le_of_ble_eq_true rfl, by decide⟩ (Or.inr (x_okt (ok_mo hJ.1))) (k_n_cart hJ.1 tx.1 (S (1 + i)) (S (2 + i))) ?_
  rintro v_ h_ ⟨e2, tn, q2⟩
  cases e2
  have hs2 : ∀ j, (u_n_cart (S (1 + i)) (S (2 + i)) (u_x_cart (S (1 + i)) (S (2 + i)) M)) (-2) j = S j := fun j => (tn.2 _ _ (Or.inl (by omega))).trans (hs1 j)
  have JV := J_cart hJ tx tn
  have JF := JF_cart hF (by omega) tx tn JV.1
  show x_Ev 181 494 [.inr (-2), .inr 0, .inr 162, .inl (i)] [.inl (v_n_cart (S (1 + i)) (S (2 + i)) (u_x_cart (S (1 + i)) (S (2 + i)) M))] (B1 + 154, B2 + 1831) (z, P, (u_n_cart (S (1 + i)) (S (2 + i)) (u_x_cart (S (1 + i)) (S (2 + i)) M))) _
  refine e_pop (k := 494) (xi181 494) ?_
  refine e_goto (k := 495) (xi181 495) ?_
  exact K _ _ _ _ _ (jf_mono JF.1 (by omega)) hs2 (by omega) (by omega)
set_option maxRecDepth 100000 in
theorem l_c18 {z : Int} {P M : Int → Int → Int} {S : Int → Int} {L i : Int} {B1 B2 : Nat} (hF : y_JF (1399 * i) z P M) (hs : ∀ j, M (-2) j = S j) (hb : ∀ j, S j < 2147483648) (hL : S (-1) = L) (hL2 : 0 ≤ L ∧ L ≤ 2560) (hi : 0 ≤ i ∧ i + 5 ≤ L) (K : ∀ (z2 : Int) (P2 M2 : Int → Int → Int) (C1 C2 : Nat), y_JF (1399 * (5 + i)) z2 P2 M2 → (∀ j, M2 (-2) j = S j) → B1 ≤ C1 → B2 ≤ C2 → x_Ev 181 851 [.inr (-2), .inr 0, .inr 162, .inl (i)] [] (C1, C2) (z2, P2, M2) x_R1) : x_Ev 181 496 [.inr (-2), .inr 0, .inr 162, .inl (i)] [] (B1 + 154, B2 + 1831) (z, P, M) x_R1 := by
  have hJ := hF.1
  refine e_aload (k := 496) (xi181 496) rfl (by omega) ?_
  refine e_aload (k := 497) (xi181 497) rfl (by omega) ?_
  refine e_iload (k := 498) (xi181 498) rfl ?_
  refine e_iconst (k := 499) (xi181 499) ?_
  refine e_iadd (w := 1 + i) (k := 500) (xi181 500) (x_wn (by omega)) ?_
  refine e_sld (w := S (1 + i)) (k := 501) (xi181 501) ⟨by omega, by rw [hs]; omega⟩ (hs _) ?_
  refine e_aload (k := 502) (xi181 502) rfl (by omega) ?_
  refine e_iload (k := 503) (xi181 503) rfl ?_
  refine e_iconst (k := 504) (xi181 504) ?_
  refine e_iadd (w := 2 + i) (k := 505) (xi181 505) (x_wn (by omega)) ?_
  refine e_sld (w := S (2 + i)) (k := 506) (xi181 506) ⟨by omega, by rw [hs]; omega⟩ (hs _) ?_
  refine e_callR (k := 507) (c1 := B1 + 154) (c2 := B2 + 1831) (rest := []) (as := [.inr 0, .inl (S (1 + i)), .inl (S (2 + i))]) (xi181 507) (by decide) xm96 rfl ⟨rfl, Nat.le_of_ble_eq_true rfl, by decide⟩ (Or.inr (x_okt (ok_WS hJ.1))) (k_x_drive hJ.1 hJ.2.2.1 (S (1 + i)) (S (2 + i))) ?_
  rintro v_ h_ ⟨e1, tx, q1⟩
  cases e1
  have hs1 : ∀ j, (u_x_drive (S (1 + i)) (S (2 + i)) M) (-2) j = S j := fun j => (tx.2 _ _ (Or.inl (by omega))).trans (hs j)
  show x_Ev 181 508 [.inr (-2), .inr 0, .inr 162, .inl (i)] [.inl (v_x_drive (S (1 + i)) (S (2 + i)) M)] (B1 + 154, B2 + 1831) (z, P, (u_x_drive (S (1 + i)) (S (2 + i)) M)) _
  refine e_pop (k := 508) (xi181 508) ?_
  refine e_aload (k := 509) (xi181 509) rfl (by omega) ?_
  refine e_aload (k := 510) (xi181 510) rfl (by omega) ?_
  refine e_iload (k := 511) (xi181 511) rfl ?_
  refine e_iconst (k := 512) (xi181 512) ?_
  refine e_iadd (w := 1 + i) (k := 513) (xi181 513) (x_wn (by omega)) ?_
  refine e_sld (w := S (1 + i)) (k := 514) (xi181 514) ⟨by omega, by rw [hs1]; omega⟩ (hs1 _) ?_
  refine e_aload (k := 515) (xi181 515) rfl (by omega) ?_
  refine e_iload (k := 516) (xi181 516) rfl ?_
  refine e_iconst (k := 517) (xi181 517) ?_
  refine e_iadd (w := 2 + i) (k := 518) (xi181 518) (x_wn (by omega)) ?_
  refine e_sld (w := S (2 + i)) (k := 519) (xi181 519) ⟨by omega, by rw [hs1]; omega⟩ (hs1 _) ?_
  refine e_callR (k := 520) (c1 := B1 + 154) (c2 := B2 + 1831) (rest := []) (as := [.inr 162, .inl (S (1 + i)), .inl (S (2 + i))]) (xi181 520) (by decide) xm158 rfl ⟨rfl, Nat.le_of_ble_eq_true rfl, by decide⟩ (Or.inr (x_okt (ok_mo hJ.1))) (k_n_drive hJ.1 tx.1 (S (1 + i)) (S (2 + i))) ?_
  rintro v_ h_ ⟨e2, tn, q2⟩
  cases e2
  have hs2 : ∀ j, (u_n_drive (S (1 + i)) (S (2 + i)) (u_x_drive (S (1 + i)) (S (2 + i)) M)) (-2) j = S j := fun j => (tn.2 _ _ (Or.inl (by omega))).trans (hs1 j)
  have JF := JF_drive hF (by omega) tx tn (y_j_light hJ tx tn)
  show x_Ev 181 521 [.inr (-2), .inr 0, .inr 162, .inl (i)] [.inl (v_n_drive (S (1 + i)) (S (2 + i)) (u_x_drive (S (1 + i)) (S (2 + i)) M))] (B1 + 154, B2 + 1831) (z, P, (u_n_drive (S (1 + i)) (S (2 + i)) (u_x_drive (S (1 + i)) (S (2 + i)) M))) _
  refine e_pop (k := 521) (xi181 521) ?_
  refine e_goto (k := 522) (xi181 522) ?_
  exact K _ _ _ _ _ (jf_mono JF.1 (by omega)) hs2 (by omega) (by omega)
set_option maxRecDepth 100000 in
theorem l_c19 {z : Int} {P M : Int → Int → Int} {S : Int → Int} {L i : Int} {B1 B2 : Nat} (hF : y_JF (1399 * i) z P M) (hs : ∀ j, M (-2) j = S j) (hb : ∀ j, S j < 2147483648) (hL : S (-1) = L) (hL2 : 0 ≤ L ∧ L ≤ 2560) (hi : 0 ≤ i ∧ i + 5 ≤ L) (K : ∀ (z2 : Int) (P2 M2 : Int → Int → Int) (C1 C2 : Nat), y_JF (1399 * (5 + i)) z2 P2 M2 → (∀ j, M2 (-2) j = S j) → B1 ≤ C1 → B2 ≤ C2 → x_Ev 181 851 [.inr (-2), .inr 0, .inr 162, .inl (i)] [] (C1, C2) (z2, P2, M2) x_R1) : x_Ev 181 523 [.inr (-2), .inr 0, .inr 162, .inl (i)] [] (B1 + 154, B2 + 1831) (z, P, M) x_R1 := by
  have hJ := hF.1
  refine e_aload (k := 523) (xi181 523) rfl (by omega) ?_
  refine e_aload (k := 524) (xi181 524) rfl (by omega) ?_
  refine e_iload (k := 525) (xi181 525) rfl ?_
  refine e_iconst (k := 526) (xi181 526) ?_
  refine e_iadd (w := 1 + i) (k := 527) (xi181 527) (x_wn (by omega)) ?_
  refine e_sld (w := S (1 + i)) (k := 528) (xi181 528) ⟨by omega, by rw [hs]; omega⟩ (hs _) ?_
  refine e_aload (k := 529) (xi181 529) rfl (by omega) ?_
  refine e_iload (k := 530) (xi181 530) rfl ?_
  refine e_iconst (k := 531) (xi181 531) ?_
  refine e_iadd (w := 2 + i) (k := 532) (xi181 532) (x_wn (by omega)) ?_
  refine e_sld (w := S (2 + i)) (k := 533) (xi181 533) ⟨by omega, by rw [hs]; omega⟩ (hs _) ?_
  refine e_callR (k := 534) (c1 := B1 + 154) (c2 := B2 + 1831) (rest := []) (as := [.inr 0, .inl (S (1 + i)), .inl (S (2 + i))]) (xi181 534) (by decide) xm97 rfl ⟨rfl, Nat.le_of_ble_eq_true rfl, by decide⟩ (Or.inr (x_okt (ok_WS hJ.1))) (k_x_pick hJ.1 hJ.2.2.1 (S (1 + i)) (S (2 + i))) ?_
  rintro v_ h_ ⟨e1, tx, q1⟩
  cases e1
  have hs1 : ∀ j, (u_x_pick (S (1 + i)) (S (2 + i)) M) (-2) j = S j := fun j => (tx.2 _ _ (Or.inl (by omega))).trans (hs j)
  show x_Ev 181 535 [.inr (-2), .inr 0, .inr 162, .inl (i)] [.inl (v_x_pick (S (1 + i)) (S (2 + i)) M)] (B1 + 154, B2 + 1831) (z, P, (u_x_pick (S (1 + i)) (S (2 + i)) M)) _
  refine e_pop (k := 535) (xi181 535) ?_
  refine e_aload (k := 536) (xi181 536) rfl (by omega) ?_
  refine e_aload (k := 537) (xi181 537) rfl (by omega) ?_
  refine e_iload (k := 538) (xi181 538) rfl ?_
  refine e_iconst (k := 539) (xi181 539) ?_
  refine e_iadd (w := 1 + i) (k := 540) (xi181 540) (x_wn (by omega)) ?_
  refine e_sld (w := S (1 + i)) (k := 541) (xi181 541) ⟨by omega, by rw [hs1]; omega⟩ (hs1 _) ?_
  refine e_aload (k := 542) (xi181 542) rfl (by omega) ?_
  refine e_iload (k := 543) (xi181 543) rfl ?_
  refine e_iconst (k := 544) (xi181 544) ?_
  refine e_iadd (w := 2 + i) (k := 545) (xi181 545) (x_wn (by omega)) ?_
  refine e_sld (w := S (2 + i)) (k := 546) (xi181 546) ⟨by omega, by rw [hs1]; omega⟩ (hs1 _) ?_
  refine e_callR (k := 547) (c1 := B1 + 154) (c2 := B2 + 1831) (rest := []) (as := [.inr 162, .inl (S (1 + i)), .inl (S (2 + i))]) (xi181 547) (by decide) xm162 rfl ⟨rfl, Nat.le_of_ble_eq_true rfl, by decide⟩ (Or.inr (x_okt (ok_mo hJ.1))) (k_n_pick hJ.1 tx.1 (S (1 + i)) (S (2 + i))) ?_
  rintro v_ h_ ⟨e2, tn, q2⟩
  cases e2
  have hs2 : ∀ j, (u_n_pick (S (1 + i)) (S (2 + i)) (u_x_pick (S (1 + i)) (S (2 + i)) M)) (-2) j = S j := fun j => (tn.2 _ _ (Or.inl (by omega))).trans (hs1 j)
  have JF := JF_pick hF tx tn (y_j_light hJ tx tn)
  show x_Ev 181 548 [.inr (-2), .inr 0, .inr 162, .inl (i)] [.inl (v_n_pick (S (1 + i)) (S (2 + i)) (u_x_pick (S (1 + i)) (S (2 + i)) M))] (B1 + 154, B2 + 1831) (z, P, (u_n_pick (S (1 + i)) (S (2 + i)) (u_x_pick (S (1 + i)) (S (2 + i)) M))) _
  refine e_pop (k := 548) (xi181 548) ?_
  refine e_goto (k := 549) (xi181 549) ?_
  exact K _ _ _ _ _ (jf_mono JF.1 (by omega)) hs2 (by omega) (by omega)
set_option maxRecDepth 100000 in
theorem l_c20 {z : Int} {P M : Int → Int → Int} {S : Int → Int} {L i : Int} {B1 B2 : Nat} (hF : y_JF (1399 * i) z P M) (hs : ∀ j, M (-2) j = S j) (hb : ∀ j, S j < 2147483648) (hL : S (-1) = L) (hL2 : 0 ≤ L ∧ L ≤ 2560) (hi : 0 ≤ i ∧ i + 5 ≤ L) (K : ∀ (z2 : Int) (P2 M2 : Int → Int → Int) (C1 C2 : Nat), y_JF (1399 * (5 + i)) z2 P2 M2 → (∀ j, M2 (-2) j = S j) → B1 ≤ C1 → B2 ≤ C2 → x_Ev 181 851 [.inr (-2), .inr 0, .inr 162, .inl (i)] [] (C1, C2) (z2, P2, M2) x_R1) : x_Ev 181 550 [.inr (-2), .inr 0, .inr 162, .inl (i)] [] (B1 + 154, B2 + 1831) (z, P, M) x_R1 := by
  have hJ := hF.1
  refine e_aload (k := 550) (xi181 550) rfl (by omega) ?_
  refine e_aload (k := 551) (xi181 551) rfl (by omega) ?_
  refine e_iload (k := 552) (xi181 552) rfl ?_
  refine e_iconst (k := 553) (xi181 553) ?_
  refine e_iadd (w := 1 + i) (k := 554) (xi181 554) (x_wn (by omega)) ?_
  refine e_sld (w := S (1 + i)) (k := 555) (xi181 555) ⟨by omega, by rw [hs]; omega⟩ (hs _) ?_
  refine e_aload (k := 556) (xi181 556) rfl (by omega) ?_
  refine e_iload (k := 557) (xi181 557) rfl ?_
  refine e_iconst (k := 558) (xi181 558) ?_
  refine e_iadd (w := 2 + i) (k := 559) (xi181 559) (x_wn (by omega)) ?_
  refine e_sld (w := S (2 + i)) (k := 560) (xi181 560) ⟨by omega, by rw [hs]; omega⟩ (hs _) ?_
  refine e_callR (k := 561) (c1 := B1 + 154) (c2 := B2 + 1831) (rest := []) (as := [.inr 0, .inl (S (1 + i)), .inl (S (2 + i))]) (xi181 561) (by decide) xm98 rfl ⟨rfl, Nat.le_of_ble_eq_true rfl, by decide⟩ (Or.inr (x_okt (ok_WS hJ.1))) (k_x_fetch hJ.1 hJ.2.2.1 (S (1 + i)) (S (2 + i))) ?_
  rintro v_ h_ ⟨e1, tx, q1⟩
  cases e1
  have hs1 : ∀ j, (u_x_fetch (S (1 + i)) (S (2 + i)) M) (-2) j = S j := fun j => (tx.2 _ _ (Or.inl (by omega))).trans (hs j)
  show x_Ev 181 562 [.inr (-2), .inr 0, .inr 162, .inl (i)] [.inl (v_x_fetch (S (1 + i)) (S (2 + i)) M)] (B1 + 154, B2 + 1831) (z, P, (u_x_fetch (S (1 + i)) (S (2 + i)) M)) _
  refine e_pop (k := 562) (xi181 562) ?_
  refine e_aload (k := 563) (xi181 563) rfl (by omega) ?_
  refine e_aload (k := 564) (xi181 564) rfl (by omega) ?_
  refine e_iload (k := 565) (xi181 565) rfl ?_
  refine e_iconst (k := 566) (xi181 566) ?_
  refine e_iadd (w := 1 + i) (k := 567) (xi181 567) (x_wn (by omega)) ?_
  refine e_sld (w := S (1 + i)) (k := 568) (xi181 568) ⟨by omega, by rw [hs1]; omega⟩ (hs1 _) ?_
  refine e_aload (k := 569) (xi181 569) rfl (by omega) ?_
  refine e_iload (k := 570) (xi181 570) rfl ?_
  refine e_iconst (k := 571) (xi181 571) ?_
  refine e_iadd (w := 2 + i) (k := 572) (xi181 572) (x_wn (by omega)) ?_
  refine e_sld (w := S (2 + i)) (k := 573) (xi181 573) ⟨by omega, by rw [hs1]; omega⟩ (hs1 _) ?_
  refine e_callR (k := 574) (c1 := B1 + 154) (c2 := B2 + 1831) (rest := []) (as := [.inr 162, .inl (S (1 + i)), .inl (S (2 + i))]) (xi181 574) (by decide) xm163 rfl ⟨rfl, Nat.le_of_ble_eq_true rfl, by decide⟩ (Or.inr (x_okt (ok_mo hJ.1))) (k_n_fetch hJ.1 tx.1 (S (1 + i)) (S (2 + i))) ?_
  rintro v_ h_ ⟨e2, tn, q2⟩
  cases e2
  have hs2 : ∀ j, (u_n_fetch (S (1 + i)) (S (2 + i)) (u_x_fetch (S (1 + i)) (S (2 + i)) M)) (-2) j = S j := fun j => (tn.2 _ _ (Or.inl (by omega))).trans (hs1 j)
  have JF := JF_fetch hF tx tn (y_j_light hJ tx tn)
  show x_Ev 181 575 [.inr (-2), .inr 0, .inr 162, .inl (i)] [.inl (v_n_fetch (S (1 + i)) (S (2 + i)) (u_x_fetch (S (1 + i)) (S (2 + i)) M))] (B1 + 154, B2 + 1831) (z, P, (u_n_fetch (S (1 + i)) (S (2 + i)) (u_x_fetch (S (1 + i)) (S (2 + i)) M))) _
  refine e_pop (k := 575) (xi181 575) ?_
  refine e_goto (k := 576) (xi181 576) ?_
  exact K _ _ _ _ _ (jf_mono JF.1 (by omega)) hs2 (by omega) (by omega)
set_option maxRecDepth 100000 in
theorem l_c21 {z : Int} {P M : Int → Int → Int} {S : Int → Int} {L i : Int} {B1 B2 : Nat} (hF : y_JF (1399 * i) z P M) (hs : ∀ j, M (-2) j = S j) (hb : ∀ j, S j < 2147483648) (hL : S (-1) = L) (hL2 : 0 ≤ L ∧ L ≤ 2560) (hi : 0 ≤ i ∧ i + 5 ≤ L) (K : ∀ (z2 : Int) (P2 M2 : Int → Int → Int) (C1 C2 : Nat), y_JF (1399 * (5 + i)) z2 P2 M2 → (∀ j, M2 (-2) j = S j) → B1 ≤ C1 → B2 ≤ C2 → x_Ev 181 851 [.inr (-2), .inr 0, .inr 162, .inl (i)] [] (C1, C2) (z2, P2, M2) x_R1) : x_Ev 181 577 [.inr (-2), .inr 0, .inr 162, .inl (i)] [] (B1 + 154, B2 + 1831) (z, P, M) x_R1 := by
  have hJ := hF.1
  refine e_aload (k := 577) (xi181 577) rfl (by omega) ?_
  refine e_aload (k := 578) (xi181 578) rfl (by omega) ?_
  refine e_iload (k := 579) (xi181 579) rfl ?_
  refine e_iconst (k := 580) (xi181 580) ?_
  refine e_iadd (w := 1 + i) (k := 581) (xi181 581) (x_wn (by omega)) ?_
  refine e_sld (w := S (1 + i)) (k := 582) (xi181 582) ⟨by omega, by rw [hs]; omega⟩ (hs _) ?_
  refine e_callR (k := 583) (c1 := B1 + 154) (c2 := B2 + 1831) (rest := []) (as := [.inr 0, .inl (S (1 + i))]) (xi181 583) (by decide) xm99 rfl ⟨rfl, Nat.le_of_ble_eq_true rfl, by decide⟩ (Or.inr (x_okt (ok_WS hJ.1))) (k_x_drop hJ.1 hJ.2.2.1 (S (1 + i))) ?_
  rintro v_ h_ ⟨e1, tx, q1⟩
  cases e1
  have hs1 : ∀ j, (u_x_drop (S (1 + i)) M) (-2) j = S j := fun j => (tx.2 _ _ (Or.inl (by omega))).trans (hs j)
  show x_Ev 181 584 [.inr (-2), .inr 0, .inr 162, .inl (i)] [.inl (v_x_drop (S (1 + i)) M)] (B1 + 154, B2 + 1831) (z, P, (u_x_drop (S (1 + i)) M)) _
  refine e_pop (k := 584) (xi181 584) ?_
  refine e_aload (k := 585) (xi181 585) rfl (by omega) ?_
  refine e_aload (k := 586) (xi181 586) rfl (by omega) ?_
  refine e_iload (k := 587) (xi181 587) rfl ?_
  refine e_iconst (k := 588) (xi181 588) ?_
  refine e_iadd (w := 1 + i) (k := 589) (xi181 589) (x_wn (by omega)) ?_
  refine e_sld (w := S (1 + i)) (k := 590) (xi181 590) ⟨by omega, by rw [hs1]; omega⟩ (hs1 _) ?_
  refine e_callR (k := 591) (c1 := B1 + 154) (c2 := B2 + 1831) (rest := []) (as := [.inr 162, .inl (S (1 + i))]) (xi181 591) (by decide) xm164 rfl ⟨rfl, Nat.le_of_ble_eq_true rfl, by decide⟩ (Or.inr (x_okt (ok_mo hJ.1))) (k_n_drop hJ.1 tx.1 (S (1 + i))) ?_
  rintro v_ h_ ⟨e2, tn, q2⟩
  cases e2
  have hs2 : ∀ j, (u_n_drop (S (1 + i)) (u_x_drop (S (1 + i)) M)) (-2) j = S j := fun j => (tn.2 _ _ (Or.inl (by omega))).trans (hs1 j)
  have JF := JF_drop hF tx tn (y_j_light hJ tx tn)
  show x_Ev 181 592 [.inr (-2), .inr 0, .inr 162, .inl (i)] [.inl (v_n_drop (S (1 + i)) (u_x_drop (S (1 + i)) M))] (B1 + 154, B2 + 1831) (z, P, (u_n_drop (S (1 + i)) (u_x_drop (S (1 + i)) M))) _
  refine e_pop (k := 592) (xi181 592) ?_
  refine e_goto (k := 593) (xi181 593) ?_
  exact K _ _ _ _ _ (jf_mono JF.1 (by omega)) hs2 (by omega) (by omega)
set_option maxRecDepth 100000 in
theorem l_c22 {z : Int} {P M : Int → Int → Int} {S : Int → Int} {L i : Int} {B1 B2 : Nat} (hF : y_JF (1399 * i) z P M) (hs : ∀ j, M (-2) j = S j) (hb : ∀ j, S j < 2147483648) (hL : S (-1) = L) (hL2 : 0 ≤ L ∧ L ≤ 2560) (hi : 0 ≤ i ∧ i + 5 ≤ L) (K : ∀ (z2 : Int) (P2 M2 : Int → Int → Int) (C1 C2 : Nat), y_JF (1399 * (5 + i)) z2 P2 M2 → (∀ j, M2 (-2) j = S j) → B1 ≤ C1 → B2 ≤ C2 → x_Ev 181 851 [.inr (-2), .inr 0, .inr 162, .inl (i)] [] (C1, C2) (z2, P2, M2) x_R1) : x_Ev 181 594 [.inr (-2), .inr 0, .inr 162, .inl (i)] [] (B1 + 154, B2 + 1831) (z, P, M) x_R1 := by
  have hJ := hF.1
  refine e_aload (k := 594) (xi181 594) rfl (by omega) ?_
  refine e_aload (k := 595) (xi181 595) rfl (by omega) ?_
  refine e_iload (k := 596) (xi181 596) rfl ?_
  refine e_iconst (k := 597) (xi181 597) ?_
  refine e_iadd (w := 1 + i) (k := 598) (xi181 598) (x_wn (by omega)) ?_
  refine e_sld (w := S (1 + i)) (k := 599) (xi181 599) ⟨by omega, by rw [hs]; omega⟩ (hs _) ?_
  refine e_aload (k := 600) (xi181 600) rfl (by omega) ?_
  refine e_iload (k := 601) (xi181 601) rfl ?_
  refine e_iconst (k := 602) (xi181 602) ?_
  refine e_iadd (w := 2 + i) (k := 603) (xi181 603) (x_wn (by omega)) ?_
  refine e_sld (w := S (2 + i)) (k := 604) (xi181 604) ⟨by omega, by rw [hs]; omega⟩ (hs _) ?_
  refine e_callR (k := 605) (c1 := B1 + 154) (c2 := B2 + 1831) (rest := []) (as := [.inr 0, .inl (S (1 + i)), .inl (S (2 + i))]) (xi181 605) (by decide) xm100 rfl ⟨rfl, Nat.le_of_ble_eq_true rfl, by decide⟩ (Or.inr (x_okt (ok_WS hJ.1))) (k_x_load hJ.1 hJ.2.2.1 (S (1 + i)) (S (2 + i)) (hb _)) ?_
  rintro v_ h_ ⟨e1, q1⟩
  cases e1
  show x_Ev 181 606 [.inr (-2), .inr 0, .inr 162, .inl (i)] [.inl (v_x_load (S (1 + i)) (S (2 + i)) M)] (B1 + 154, B2 + 1831) (z, P, M) _
  refine e_pop (k := 606) (xi181 606) ?_
  refine e_aload (k := 607) (xi181 607) rfl (by omega) ?_
  refine e_aload (k := 608) (xi181 608) rfl (by omega) ?_
  refine e_iload (k := 609) (xi181 609) rfl ?_
  refine e_iconst (k := 610) (xi181 610) ?_
  refine e_iadd (w := 1 + i) (k := 611) (xi181 611) (x_wn (by omega)) ?_
  refine e_sld (w := S (1 + i)) (k := 612) (xi181 612) ⟨by omega, by rw [hs]; omega⟩ (hs _) ?_
  refine e_aload (k := 613) (xi181 613) rfl (by omega) ?_
  refine e_iload (k := 614) (xi181 614) rfl ?_
  refine e_iconst (k := 615) (xi181 615) ?_
  refine e_iadd (w := 2 + i) (k := 616) (xi181 616) (x_wn (by omega)) ?_
  refine e_sld (w := S (2 + i)) (k := 617) (xi181 617) ⟨by omega, by rw [hs]; omega⟩ (hs _) ?_
  refine e_callR (k := 618) (c1 := B1 + 154) (c2 := B2 + 1831) (rest := []) (as := [.inr 162, .inl (S (1 + i)), .inl (S (2 + i))]) (xi181 618) (by decide) xm165 rfl ⟨rfl, Nat.le_of_ble_eq_true rfl, by decide⟩ (Or.inr (x_okt (ok_mo hJ.1))) (k_n_load hJ.1 hJ.2.2.1 (S (1 + i)) (S (2 + i)) (hb _)) ?_
  rintro v_ h_ ⟨e2, q2⟩
  cases e2
  have JF := JF_load hF (S (1 + i)) (S (2 + i))
  show x_Ev 181 619 [.inr (-2), .inr 0, .inr 162, .inl (i)] [.inl (v_n_load (S (1 + i)) (S (2 + i)) M)] (B1 + 154, B2 + 1831) (z, P, M) _
  refine e_pop (k := 619) (xi181 619) ?_
  refine e_goto (k := 620) (xi181 620) ?_
  exact K _ _ _ _ _ (jf_mono JF.1 (by omega)) hs (by omega) (by omega)
set_option maxRecDepth 100000 in
theorem l_c23 {z : Int} {P M : Int → Int → Int} {S : Int → Int} {L i : Int} {B1 B2 : Nat} (hF : y_JF (1399 * i) z P M) (hs : ∀ j, M (-2) j = S j) (hb : ∀ j, S j < 2147483648) (hL : S (-1) = L) (hL2 : 0 ≤ L ∧ L ≤ 2560) (hi : 0 ≤ i ∧ i + 5 ≤ L) (K : ∀ (z2 : Int) (P2 M2 : Int → Int → Int) (C1 C2 : Nat), y_JF (1399 * (5 + i)) z2 P2 M2 → (∀ j, M2 (-2) j = S j) → B1 ≤ C1 → B2 ≤ C2 → x_Ev 181 851 [.inr (-2), .inr 0, .inr 162, .inl (i)] [] (C1, C2) (z2, P2, M2) x_R1) : x_Ev 181 621 [.inr (-2), .inr 0, .inr 162, .inl (i)] [] (B1 + 154, B2 + 1831) (z, P, M) x_R1 := by
  have hJ := hF.1
  refine e_aload (k := 621) (xi181 621) rfl (by omega) ?_
  refine e_aload (k := 622) (xi181 622) rfl (by omega) ?_
  refine e_iload (k := 623) (xi181 623) rfl ?_
  refine e_iconst (k := 624) (xi181 624) ?_
  refine e_iadd (w := 1 + i) (k := 625) (xi181 625) (x_wn (by omega)) ?_
  refine e_sld (w := S (1 + i)) (k := 626) (xi181 626) ⟨by omega, by rw [hs]; omega⟩ (hs _) ?_
  refine e_aload (k := 627) (xi181 627) rfl (by omega) ?_
  refine e_iload (k := 628) (xi181 628) rfl ?_
  refine e_iconst (k := 629) (xi181 629) ?_
  refine e_iadd (w := 2 + i) (k := 630) (xi181 630) (x_wn (by omega)) ?_
  refine e_sld (w := S (2 + i)) (k := 631) (xi181 631) ⟨by omega, by rw [hs]; omega⟩ (hs _) ?_
  refine e_aload (k := 632) (xi181 632) rfl (by omega) ?_
  refine e_iload (k := 633) (xi181 633) rfl ?_
  refine e_iconst (k := 634) (xi181 634) ?_
  refine e_iadd (w := 3 + i) (k := 635) (xi181 635) (x_wn (by omega)) ?_
  refine e_sld (w := S (3 + i)) (k := 636) (xi181 636) ⟨by omega, by rw [hs]; omega⟩ (hs _) ?_
  refine e_aload (k := 637) (xi181 637) rfl (by omega) ?_
  refine e_iload (k := 638) (xi181 638) rfl ?_
  refine e_iconst (k := 639) (xi181 639) ?_
  refine e_iadd (w := 4 + i) (k := 640) (xi181 640) (x_wn (by omega)) ?_
  refine e_sld (w := S (4 + i)) (k := 641) (xi181 641) ⟨by omega, by rw [hs]; omega⟩ (hs _) ?_
  refine e_callR (k := 642) (c1 := B1 + 154) (c2 := B2 + 1831) (rest := []) (as := [.inr 0, .inl (S (1 + i)), .inl (S (2 + i)), .inl (S (3 + i)), .inl (S (4 + i))]) (xi181 642) (by decide) xm101 rfl ⟨rfl, Nat.le_of_ble_eq_true rfl, by decide⟩ (Or.inr (x_okt (ok_WS hJ.1))) (k_x_demand hJ.1 hJ.2.2.1 (S (1 + i)) (S (2 + i)) (S (3 + i)) (S (4 + i))) ?_
  rintro v_ h_ ⟨e1, tx, q1⟩
  cases e1
  have hs1 : ∀ j, (u_x_demand (S (1 + i)) (S (2 + i)) (S (3 + i)) (S (4 + i)) M) (-2) j = S j := fun j => (tx.2 _ _ (Or.inl (by omega))).trans (hs j)
  show x_Ev 181 643 [.inr (-2), .inr 0, .inr 162, .inl (i)] [.inl (v_x_demand (S (1 + i)) (S (2 + i)) (S (3 + i)) (S (4 + i)) M)] (B1 + 154, B2 + 1831) (z, P, (u_x_demand (S (1 + i)) (S (2 + i)) (S (3 + i)) (S (4 + i)) M)) _
  refine e_pop (k := 643) (xi181 643) ?_
  refine e_aload (k := 644) (xi181 644) rfl (by omega) ?_
  refine e_aload (k := 645) (xi181 645) rfl (by omega) ?_
  refine e_iload (k := 646) (xi181 646) rfl ?_
  refine e_iconst (k := 647) (xi181 647) ?_
  refine e_iadd (w := 1 + i) (k := 648) (xi181 648) (x_wn (by omega)) ?_
  refine e_sld (w := S (1 + i)) (k := 649) (xi181 649) ⟨by omega, by rw [hs1]; omega⟩ (hs1 _) ?_
  refine e_aload (k := 650) (xi181 650) rfl (by omega) ?_
  refine e_iload (k := 651) (xi181 651) rfl ?_
  refine e_iconst (k := 652) (xi181 652) ?_
  refine e_iadd (w := 2 + i) (k := 653) (xi181 653) (x_wn (by omega)) ?_
  refine e_sld (w := S (2 + i)) (k := 654) (xi181 654) ⟨by omega, by rw [hs1]; omega⟩ (hs1 _) ?_
  refine e_aload (k := 655) (xi181 655) rfl (by omega) ?_
  refine e_iload (k := 656) (xi181 656) rfl ?_
  refine e_iconst (k := 657) (xi181 657) ?_
  refine e_iadd (w := 3 + i) (k := 658) (xi181 658) (x_wn (by omega)) ?_
  refine e_sld (w := S (3 + i)) (k := 659) (xi181 659) ⟨by omega, by rw [hs1]; omega⟩ (hs1 _) ?_
  refine e_aload (k := 660) (xi181 660) rfl (by omega) ?_
  refine e_iload (k := 661) (xi181 661) rfl ?_
  refine e_iconst (k := 662) (xi181 662) ?_
  refine e_iadd (w := 4 + i) (k := 663) (xi181 663) (x_wn (by omega)) ?_
  refine e_sld (w := S (4 + i)) (k := 664) (xi181 664) ⟨by omega, by rw [hs1]; omega⟩ (hs1 _) ?_
  refine e_callR (k := 665) (c1 := B1 + 154) (c2 := B2 + 1831) (rest := []) (as := [.inr 162, .inl (S (1 + i)), .inl (S (2 + i)), .inl (S (3 + i)), .inl (S (4 + i))]) (xi181 665) (by decide) xm166 rfl ⟨rfl, Nat.le_of_ble_eq_true rfl, by decide⟩ (Or.inr (x_okt (ok_mo hJ.1))) (k_n_demand hJ.1 tx.1 (S (1 + i)) (S (2 + i)) (S (3 + i)) (S (4 + i))) ?_
  rintro v_ h_ ⟨e2, tn, q2⟩
  cases e2
  have hs2 : ∀ j, (u_n_demand (S (1 + i)) (S (2 + i)) (S (3 + i)) (S (4 + i)) (u_x_demand (S (1 + i)) (S (2 + i)) (S (3 + i)) (S (4 + i)) M)) (-2) j = S j := fun j => (tn.2 _ _ (Or.inl (by omega))).trans (hs1 j)
  have JV := J_demand hJ tx tn
  have JF := JF_demand hF tx tn JV.1
  show x_Ev 181 666 [.inr (-2), .inr 0, .inr 162, .inl (i)] [.inl (v_n_demand (S (1 + i)) (S (2 + i)) (S (3 + i)) (S (4 + i)) (u_x_demand (S (1 + i)) (S (2 + i)) (S (3 + i)) (S (4 + i)) M))] (B1 + 154, B2 + 1831) (z, P, (u_n_demand (S (1 + i)) (S (2 + i)) (S (3 + i)) (S (4 + i)) (u_x_demand (S (1 + i)) (S (2 + i)) (S (3 + i)) (S (4 + i)) M))) _
  refine e_pop (k := 666) (xi181 666) ?_
  refine e_goto (k := 667) (xi181 667) ?_
  exact K _ _ _ _ _ (jf_mono JF.1 (by omega)) hs2 (by omega) (by omega)
set_option maxRecDepth 100000 in
theorem l_c24 {z : Int} {P M : Int → Int → Int} {S : Int → Int} {L i : Int} {B1 B2 : Nat} (hF : y_JF (1399 * i) z P M) (hs : ∀ j, M (-2) j = S j) (hb : ∀ j, S j < 2147483648) (hL : S (-1) = L) (hL2 : 0 ≤ L ∧ L ≤ 2560) (hi : 0 ≤ i ∧ i + 5 ≤ L) (K : ∀ (z2 : Int) (P2 M2 : Int → Int → Int) (C1 C2 : Nat), y_JF (1399 * (5 + i)) z2 P2 M2 → (∀ j, M2 (-2) j = S j) → B1 ≤ C1 → B2 ≤ C2 → x_Ev 181 851 [.inr (-2), .inr 0, .inr 162, .inl (i)] [] (C1, C2) (z2, P2, M2) x_R1) : x_Ev 181 668 [.inr (-2), .inr 0, .inr 162, .inl (i)] [] (B1 + 154, B2 + 1831) (z, P, M) x_R1 := by
  have hJ := hF.1
  refine e_aload (k := 668) (xi181 668) rfl (by omega) ?_
  refine e_aload (k := 669) (xi181 669) rfl (by omega) ?_
  refine e_iload (k := 670) (xi181 670) rfl ?_
  refine e_iconst (k := 671) (xi181 671) ?_
  refine e_iadd (w := 1 + i) (k := 672) (xi181 672) (x_wn (by omega)) ?_
  refine e_sld (w := S (1 + i)) (k := 673) (xi181 673) ⟨by omega, by rw [hs]; omega⟩ (hs _) ?_
  refine e_aload (k := 674) (xi181 674) rfl (by omega) ?_
  refine e_iload (k := 675) (xi181 675) rfl ?_
  refine e_iconst (k := 676) (xi181 676) ?_
  refine e_iadd (w := 2 + i) (k := 677) (xi181 677) (x_wn (by omega)) ?_
  refine e_sld (w := S (2 + i)) (k := 678) (xi181 678) ⟨by omega, by rw [hs]; omega⟩ (hs _) ?_
  refine e_aload (k := 679) (xi181 679) rfl (by omega) ?_
  refine e_iload (k := 680) (xi181 680) rfl ?_
  refine e_iconst (k := 681) (xi181 681) ?_
  refine e_iadd (w := 3 + i) (k := 682) (xi181 682) (x_wn (by omega)) ?_
  refine e_sld (w := S (3 + i)) (k := 683) (xi181 683) ⟨by omega, by rw [hs]; omega⟩ (hs _) ?_
  refine e_callR (k := 684) (c1 := B1 + 154) (c2 := B2 + 1831) (rest := []) (as := [.inr 0, .inl (S (1 + i)), .inl (S (2 + i)), .inl (S (3 + i))]) (xi181 684) (by decide) xm102 rfl ⟨rfl, Nat.le_of_ble_eq_true rfl, by decide⟩ (Or.inr (x_okt (ok_WS hJ.1))) (k_x_runs hJ.1 hJ.2.2.1 (S (1 + i)) (S (2 + i)) (S (3 + i))) ?_
  rintro v_ h_ ⟨e1, q1⟩
  cases e1
  show x_Ev 181 685 [.inr (-2), .inr 0, .inr 162, .inl (i)] [.inl (v_x_runs (S (1 + i)) (S (2 + i)) (S (3 + i)) M)] (B1 + 154, B2 + 1831) (z, P, M) _
  refine e_pop (k := 685) (xi181 685) ?_
  refine e_aload (k := 686) (xi181 686) rfl (by omega) ?_
  refine e_aload (k := 687) (xi181 687) rfl (by omega) ?_
  refine e_iload (k := 688) (xi181 688) rfl ?_
  refine e_iconst (k := 689) (xi181 689) ?_
  refine e_iadd (w := 1 + i) (k := 690) (xi181 690) (x_wn (by omega)) ?_
  refine e_sld (w := S (1 + i)) (k := 691) (xi181 691) ⟨by omega, by rw [hs]; omega⟩ (hs _) ?_
  refine e_aload (k := 692) (xi181 692) rfl (by omega) ?_
  refine e_iload (k := 693) (xi181 693) rfl ?_
  refine e_iconst (k := 694) (xi181 694) ?_
  refine e_iadd (w := 2 + i) (k := 695) (xi181 695) (x_wn (by omega)) ?_
  refine e_sld (w := S (2 + i)) (k := 696) (xi181 696) ⟨by omega, by rw [hs]; omega⟩ (hs _) ?_
  refine e_aload (k := 697) (xi181 697) rfl (by omega) ?_
  refine e_iload (k := 698) (xi181 698) rfl ?_
  refine e_iconst (k := 699) (xi181 699) ?_
  refine e_iadd (w := 3 + i) (k := 700) (xi181 700) (x_wn (by omega)) ?_
  refine e_sld (w := S (3 + i)) (k := 701) (xi181 701) ⟨by omega, by rw [hs]; omega⟩ (hs _) ?_
  refine e_callR (k := 702) (c1 := B1 + 154) (c2 := B2 + 1831) (rest := []) (as := [.inr 162, .inl (S (1 + i)), .inl (S (2 + i)), .inl (S (3 + i))]) (xi181 702) (by decide) xm168 rfl ⟨rfl, Nat.le_of_ble_eq_true rfl, by decide⟩ (Or.inr (x_okt (ok_mo hJ.1))) (k_n_runs hJ.1 hJ.2.2.1 (S (1 + i)) (S (2 + i)) (S (3 + i))) ?_
  rintro v_ h_ ⟨e2, tn, q2⟩
  cases e2
  have hs2 : ∀ j, (u_n_runs (S (1 + i)) (S (2 + i)) (S (3 + i)) M) (-2) j = S j := fun j => (tn.2 _ _ (Or.inl (by omega))).trans (hs j)
  have JF := JF_runs hF  tn (y_j_light hJ (tl_refl (c := 0) hJ.2.2.1) tn)
  show x_Ev 181 703 [.inr (-2), .inr 0, .inr 162, .inl (i)] [.inl (v_n_runs (S (1 + i)) (S (2 + i)) (S (3 + i)) M)] (B1 + 154, B2 + 1831) (z, P, (u_n_runs (S (1 + i)) (S (2 + i)) (S (3 + i)) M)) _
  refine e_pop (k := 703) (xi181 703) ?_
  refine e_goto (k := 704) (xi181 704) ?_
  exact K _ _ _ _ _ (jf_mono JF.1 (by omega)) hs2 (by omega) (by omega)
set_option maxRecDepth 100000 in
theorem l_c25 {z : Int} {P M : Int → Int → Int} {S : Int → Int} {L i : Int} {B1 B2 : Nat} (hF : y_JF (1399 * i) z P M) (hs : ∀ j, M (-2) j = S j) (hb : ∀ j, S j < 2147483648) (hL : S (-1) = L) (hL2 : 0 ≤ L ∧ L ≤ 2560) (hi : 0 ≤ i ∧ i + 5 ≤ L) (K : ∀ (z2 : Int) (P2 M2 : Int → Int → Int) (C1 C2 : Nat), y_JF (1399 * (5 + i)) z2 P2 M2 → (∀ j, M2 (-2) j = S j) → B1 ≤ C1 → B2 ≤ C2 → x_Ev 181 851 [.inr (-2), .inr 0, .inr 162, .inl (i)] [] (C1, C2) (z2, P2, M2) x_R1) : x_Ev 181 705 [.inr (-2), .inr 0, .inr 162, .inl (i)] [] (B1 + 154, B2 + 1831) (z, P, M) x_R1 := by
  have hJ := hF.1
  refine e_aload (k := 705) (xi181 705) rfl (by omega) ?_
  refine e_aload (k := 706) (xi181 706) rfl (by omega) ?_
  refine e_iload (k := 707) (xi181 707) rfl ?_
  refine e_iconst (k := 708) (xi181 708) ?_
  refine e_iadd (w := 1 + i) (k := 709) (xi181 709) (x_wn (by omega)) ?_
  refine e_sld (w := S (1 + i)) (k := 710) (xi181 710) ⟨by omega, by rw [hs]; omega⟩ (hs _) ?_
  refine e_callR (k := 711) (c1 := B1 + 154) (c2 := B2 + 1831) (rest := []) (as := [.inr 0, .inl (S (1 + i))]) (xi181 711) (by decide) xm103 rfl ⟨rfl, Nat.le_of_ble_eq_true rfl, by decide⟩ (Or.inr (x_okt (ok_WS hJ.1))) (k_x_shortage hJ.1 hJ.2.2.1 (S (1 + i))) ?_
  rintro v_ h_ ⟨e1, q1⟩
  cases e1
  show x_Ev 181 712 [.inr (-2), .inr 0, .inr 162, .inl (i)] [.inl (v_x_shortage (S (1 + i)) M)] (B1 + 154, B2 + 1831) (z, P, M) _
  refine e_pop (k := 712) (xi181 712) ?_
  refine e_aload (k := 713) (xi181 713) rfl (by omega) ?_
  refine e_aload (k := 714) (xi181 714) rfl (by omega) ?_
  refine e_iload (k := 715) (xi181 715) rfl ?_
  refine e_iconst (k := 716) (xi181 716) ?_
  refine e_iadd (w := 1 + i) (k := 717) (xi181 717) (x_wn (by omega)) ?_
  refine e_sld (w := S (1 + i)) (k := 718) (xi181 718) ⟨by omega, by rw [hs]; omega⟩ (hs _) ?_
  refine e_callR (k := 719) (c1 := B1 + 154) (c2 := B2 + 1831) (rest := []) (as := [.inr 162, .inl (S (1 + i))]) (xi181 719) (by decide) xm169 rfl ⟨rfl, Nat.le_of_ble_eq_true rfl, by decide⟩ (Or.inr (x_okt (ok_mo hJ.1))) (k_n_shortage hJ.1 hJ.2.2.1 (S (1 + i))) ?_
  rintro v_ h_ ⟨e2, tn, q2⟩
  cases e2
  have hs2 : ∀ j, (u_n_shortage (S (1 + i)) M) (-2) j = S j := fun j => (tn.2 _ _ (Or.inl (by omega))).trans (hs j)
  have JF := JF_shortage hF  tn (y_j_light hJ (tl_refl (c := 0) hJ.2.2.1) tn)
  show x_Ev 181 720 [.inr (-2), .inr 0, .inr 162, .inl (i)] [.inl (v_n_shortage (S (1 + i)) M)] (B1 + 154, B2 + 1831) (z, P, (u_n_shortage (S (1 + i)) M)) _
  refine e_pop (k := 720) (xi181 720) ?_
  refine e_goto (k := 721) (xi181 721) ?_
  exact K _ _ _ _ _ (jf_mono JF.1 (by omega)) hs2 (by omega) (by omega)
set_option maxRecDepth 100000 in
theorem l_c26 {z : Int} {P M : Int → Int → Int} {S : Int → Int} {L i : Int} {B1 B2 : Nat} (hF : y_JF (1399 * i) z P M) (hs : ∀ j, M (-2) j = S j) (hb : ∀ j, S j < 2147483648) (hL : S (-1) = L) (hL2 : 0 ≤ L ∧ L ≤ 2560) (hi : 0 ≤ i ∧ i + 5 ≤ L) (K : ∀ (z2 : Int) (P2 M2 : Int → Int → Int) (C1 C2 : Nat), y_JF (1399 * (5 + i)) z2 P2 M2 → (∀ j, M2 (-2) j = S j) → B1 ≤ C1 → B2 ≤ C2 → x_Ev 181 851 [.inr (-2), .inr 0, .inr 162, .inl (i)] [] (C1, C2) (z2, P2, M2) x_R1) : x_Ev 181 722 [.inr (-2), .inr 0, .inr 162, .inl (i)] [] (B1 + 154, B2 + 1831) (z, P, M) x_R1 := by
  have hJ := hF.1
  refine e_aload (k := 722) (xi181 722) rfl (by omega) ?_
  refine e_aload (k := 723) (xi181 723) rfl (by omega) ?_
  refine e_iload (k := 724) (xi181 724) rfl ?_
  refine e_iconst (k := 725) (xi181 725) ?_
  refine e_iadd (w := 1 + i) (k := 726) (xi181 726) (x_wn (by omega)) ?_
  refine e_sld (w := S (1 + i)) (k := 727) (xi181 727) ⟨by omega, by rw [hs]; omega⟩ (hs _) ?_
  refine e_aload (k := 728) (xi181 728) rfl (by omega) ?_
  refine e_iload (k := 729) (xi181 729) rfl ?_
  refine e_iconst (k := 730) (xi181 730) ?_
  refine e_iadd (w := 2 + i) (k := 731) (xi181 731) (x_wn (by omega)) ?_
  refine e_sld (w := S (2 + i)) (k := 732) (xi181 732) ⟨by omega, by rw [hs]; omega⟩ (hs _) ?_
  refine e_callR (k := 733) (c1 := B1 + 154) (c2 := B2 + 1831) (rest := []) (as := [.inr 0, .inl (S (1 + i)), .inl (S (2 + i))]) (xi181 733) (by decide) xm104 rfl ⟨rfl, Nat.le_of_ble_eq_true rfl, by decide⟩ (Or.inr (x_okt (ok_WS hJ.1))) (k_x_want hJ.1 hJ.2.2.1 (S (1 + i)) (S (2 + i))) ?_
  rintro v_ h_ ⟨e1, tx, q1⟩
  cases e1
  have hs1 : ∀ j, (u_x_want (S (1 + i)) (S (2 + i)) M) (-2) j = S j := fun j => (tx.2 _ _ (Or.inl (by omega))).trans (hs j)
  show x_Ev 181 734 [.inr (-2), .inr 0, .inr 162, .inl (i)] [.inl (v_x_want (S (1 + i)) (S (2 + i)) M)] (B1 + 154, B2 + 1831) (z, P, (u_x_want (S (1 + i)) (S (2 + i)) M)) _
  refine e_pop (k := 734) (xi181 734) ?_
  refine e_aload (k := 735) (xi181 735) rfl (by omega) ?_
  refine e_aload (k := 736) (xi181 736) rfl (by omega) ?_
  refine e_iload (k := 737) (xi181 737) rfl ?_
  refine e_iconst (k := 738) (xi181 738) ?_
  refine e_iadd (w := 1 + i) (k := 739) (xi181 739) (x_wn (by omega)) ?_
  refine e_sld (w := S (1 + i)) (k := 740) (xi181 740) ⟨by omega, by rw [hs1]; omega⟩ (hs1 _) ?_
  refine e_aload (k := 741) (xi181 741) rfl (by omega) ?_
  refine e_iload (k := 742) (xi181 742) rfl ?_
  refine e_iconst (k := 743) (xi181 743) ?_
  refine e_iadd (w := 2 + i) (k := 744) (xi181 744) (x_wn (by omega)) ?_
  refine e_sld (w := S (2 + i)) (k := 745) (xi181 745) ⟨by omega, by rw [hs1]; omega⟩ (hs1 _) ?_
  refine e_callR (k := 746) (c1 := B1 + 154) (c2 := B2 + 1831) (rest := []) (as := [.inr 162, .inl (S (1 + i)), .inl (S (2 + i))]) (xi181 746) (by decide) xm170 rfl ⟨rfl, Nat.le_of_ble_eq_true rfl, by decide⟩ (Or.inr (x_okt (ok_mo hJ.1))) (k_n_want hJ.1 tx.1 (S (1 + i)) (S (2 + i))) ?_
  rintro v_ h_ ⟨e2, tn, q2⟩
  cases e2
  have hs2 : ∀ j, (u_n_want (S (1 + i)) (S (2 + i)) (u_x_want (S (1 + i)) (S (2 + i)) M)) (-2) j = S j := fun j => (tn.2 _ _ (Or.inl (by omega))).trans (hs1 j)
  have JF := JF_want hF tx tn (y_j_light hJ tx tn)
  show x_Ev 181 747 [.inr (-2), .inr 0, .inr 162, .inl (i)] [.inl (v_n_want (S (1 + i)) (S (2 + i)) (u_x_want (S (1 + i)) (S (2 + i)) M))] (B1 + 154, B2 + 1831) (z, P, (u_n_want (S (1 + i)) (S (2 + i)) (u_x_want (S (1 + i)) (S (2 + i)) M))) _
  refine e_pop (k := 747) (xi181 747) ?_
  refine e_goto (k := 748) (xi181 748) ?_
  exact K _ _ _ _ _ (jf_mono JF.1 (by omega)) hs2 (by omega) (by omega)
set_option maxRecDepth 100000 in
theorem l_c27 {z : Int} {P M : Int → Int → Int} {S : Int → Int} {L i : Int} {B1 B2 : Nat} (hF : y_JF (1399 * i) z P M) (hs : ∀ j, M (-2) j = S j) (hb : ∀ j, S j < 2147483648) (hL : S (-1) = L) (hL2 : 0 ≤ L ∧ L ≤ 2560) (hi : 0 ≤ i ∧ i + 5 ≤ L) (K : ∀ (z2 : Int) (P2 M2 : Int → Int → Int) (C1 C2 : Nat), y_JF (1399 * (5 + i)) z2 P2 M2 → (∀ j, M2 (-2) j = S j) → B1 ≤ C1 → B2 ≤ C2 → x_Ev 181 851 [.inr (-2), .inr 0, .inr 162, .inl (i)] [] (C1, C2) (z2, P2, M2) x_R1) : x_Ev 181 749 [.inr (-2), .inr 0, .inr 162, .inl (i)] [] (B1 + 154, B2 + 1831) (z, P, M) x_R1 := by
  have hJ := hF.1
  refine e_aload (k := 749) (xi181 749) rfl (by omega) ?_
  refine e_aload (k := 750) (xi181 750) rfl (by omega) ?_
  refine e_iload (k := 751) (xi181 751) rfl ?_
  refine e_iconst (k := 752) (xi181 752) ?_
  refine e_iadd (w := 1 + i) (k := 753) (xi181 753) (x_wn (by omega)) ?_
  refine e_sld (w := S (1 + i)) (k := 754) (xi181 754) ⟨by omega, by rw [hs]; omega⟩ (hs _) ?_
  refine e_callR (k := 755) (c1 := B1 + 154) (c2 := B2 + 1831) (rest := []) (as := [.inr 0, .inl (S (1 + i))]) (xi181 755) (by decide) xm105 rfl ⟨rfl, Nat.le_of_ble_eq_true rfl, by decide⟩ (Or.inr (x_okt (ok_WS hJ.1))) (k_x_plan hJ.1 hJ.2.2.1 (S (1 + i))) ?_
  rintro v_ h_ ⟨e1, tx, q1⟩
  cases e1
  have hs1 : ∀ j, (u_x_plan (S (1 + i)) M) (-2) j = S j := fun j => (tx.2 _ _ (Or.inl (by omega))).trans (hs j)
  show x_Ev 181 756 [.inr (-2), .inr 0, .inr 162, .inl (i)] [.inl (v_x_plan (S (1 + i)) M)] (B1 + 154, B2 + 1831) (z, P, (u_x_plan (S (1 + i)) M)) _
  refine e_pop (k := 756) (xi181 756) ?_
  refine e_aload (k := 757) (xi181 757) rfl (by omega) ?_
  refine e_aload (k := 758) (xi181 758) rfl (by omega) ?_
  refine e_iload (k := 759) (xi181 759) rfl ?_
  refine e_iconst (k := 760) (xi181 760) ?_
  refine e_iadd (w := 1 + i) (k := 761) (xi181 761) (x_wn (by omega)) ?_
  refine e_sld (w := S (1 + i)) (k := 762) (xi181 762) ⟨by omega, by rw [hs1]; omega⟩ (hs1 _) ?_
  refine e_callR (k := 763) (c1 := B1 + 154) (c2 := B2 + 1831) (rest := []) (as := [.inr 162, .inl (S (1 + i))]) (xi181 763) (by decide) xm174 rfl ⟨rfl, Nat.le_of_ble_eq_true rfl, by decide⟩ (Or.inr (x_okt (ok_mo hJ.1))) (k_n_plan hJ.1 tx.1 (S (1 + i))) ?_
  rintro v_ h_ ⟨e2, tn, q2⟩
  cases e2
  have hs2 : ∀ j, (u_n_plan (S (1 + i)) (u_x_plan (S (1 + i)) M)) (-2) j = S j := fun j => (tn.2 _ _ (Or.inl (by omega))).trans (hs1 j)
  have JF := JF_plan hF tx tn (y_j_light hJ tx tn)
  show x_Ev 181 764 [.inr (-2), .inr 0, .inr 162, .inl (i)] [.inl (v_n_plan (S (1 + i)) (u_x_plan (S (1 + i)) M))] (B1 + 154, B2 + 1831) (z, P, (u_n_plan (S (1 + i)) (u_x_plan (S (1 + i)) M))) _
  refine e_pop (k := 764) (xi181 764) ?_
  refine e_goto (k := 765) (xi181 765) ?_
  exact K _ _ _ _ _ (jf_mono JF.1 (by omega)) hs2 (by omega) (by omega)
set_option maxRecDepth 100000 in
theorem l_c28 {z : Int} {P M : Int → Int → Int} {S : Int → Int} {L i : Int} {B1 B2 : Nat} (hF : y_JF (1399 * i) z P M) (hs : ∀ j, M (-2) j = S j) (hb : ∀ j, S j < 2147483648) (hL : S (-1) = L) (hL2 : 0 ≤ L ∧ L ≤ 2560) (hi : 0 ≤ i ∧ i + 5 ≤ L) (K : ∀ (z2 : Int) (P2 M2 : Int → Int → Int) (C1 C2 : Nat), y_JF (1399 * (5 + i)) z2 P2 M2 → (∀ j, M2 (-2) j = S j) → B1 ≤ C1 → B2 ≤ C2 → x_Ev 181 851 [.inr (-2), .inr 0, .inr 162, .inl (i)] [] (C1, C2) (z2, P2, M2) x_R1) : x_Ev 181 766 [.inr (-2), .inr 0, .inr 162, .inl (i)] [] (B1 + 154, B2 + 1831) (z, P, M) x_R1 := by
  have hJ := hF.1
  refine e_aload (k := 766) (xi181 766) rfl (by omega) ?_
  refine e_aload (k := 767) (xi181 767) rfl (by omega) ?_
  refine e_iload (k := 768) (xi181 768) rfl ?_
  refine e_iconst (k := 769) (xi181 769) ?_
  refine e_iadd (w := 1 + i) (k := 770) (xi181 770) (x_wn (by omega)) ?_
  refine e_sld (w := S (1 + i)) (k := 771) (xi181 771) ⟨by omega, by rw [hs]; omega⟩ (hs _) ?_
  refine e_callR (k := 772) (c1 := B1 + 154) (c2 := B2 + 1831) (rest := []) (as := [.inr 0, .inl (S (1 + i))]) (xi181 772) (by decide) xm106 rfl ⟨rfl, Nat.le_of_ble_eq_true rfl, by decide⟩ (Or.inr (x_okt (ok_WS hJ.1))) (k_x_round hJ.1 hJ.2.2.1 (S (1 + i))) ?_
  rintro v_ h_ ⟨e1, q1⟩
  cases e1
  show x_Ev 181 773 [.inr (-2), .inr 0, .inr 162, .inl (i)] [.inl (v_x_round (S (1 + i)) M)] (B1 + 154, B2 + 1831) (z, P, M) _
  refine e_pop (k := 773) (xi181 773) ?_
  refine e_aload (k := 774) (xi181 774) rfl (by omega) ?_
  refine e_aload (k := 775) (xi181 775) rfl (by omega) ?_
  refine e_iload (k := 776) (xi181 776) rfl ?_
  refine e_iconst (k := 777) (xi181 777) ?_
  refine e_iadd (w := 1 + i) (k := 778) (xi181 778) (x_wn (by omega)) ?_
  refine e_sld (w := S (1 + i)) (k := 779) (xi181 779) ⟨by omega, by rw [hs]; omega⟩ (hs _) ?_
  refine e_callR (k := 780) (c1 := B1 + 154) (c2 := B2 + 1831) (rest := []) (as := [.inr 162, .inl (S (1 + i))]) (xi181 780) (by decide) xm175 rfl ⟨rfl, Nat.le_of_ble_eq_true rfl, by decide⟩ (Or.inr (x_okt (ok_mo hJ.1))) (k_n_round hJ.1 hJ.2.2.1 (S (1 + i))) ?_
  rintro v_ h_ ⟨e2, q2⟩
  cases e2
  have JF := JF_round hF (S (1 + i))
  show x_Ev 181 781 [.inr (-2), .inr 0, .inr 162, .inl (i)] [.inl (v_n_round (S (1 + i)) M)] (B1 + 154, B2 + 1831) (z, P, M) _
  refine e_pop (k := 781) (xi181 781) ?_
  refine e_goto (k := 782) (xi181 782) ?_
  exact K _ _ _ _ _ (jf_mono JF.1 (by omega)) hs (by omega) (by omega)
set_option maxRecDepth 100000 in
theorem l_c29 {z : Int} {P M : Int → Int → Int} {S : Int → Int} {L i : Int} {B1 B2 : Nat} (hF : y_JF (1399 * i) z P M) (hs : ∀ j, M (-2) j = S j) (hb : ∀ j, S j < 2147483648) (hL : S (-1) = L) (hL2 : 0 ≤ L ∧ L ≤ 2560) (hi : 0 ≤ i ∧ i + 5 ≤ L) (K : ∀ (z2 : Int) (P2 M2 : Int → Int → Int) (C1 C2 : Nat), y_JF (1399 * (5 + i)) z2 P2 M2 → (∀ j, M2 (-2) j = S j) → B1 ≤ C1 → B2 ≤ C2 → x_Ev 181 851 [.inr (-2), .inr 0, .inr 162, .inl (i)] [] (C1, C2) (z2, P2, M2) x_R1) : x_Ev 181 783 [.inr (-2), .inr 0, .inr 162, .inl (i)] [] (B1 + 154, B2 + 1831) (z, P, M) x_R1 := by
  have hJ := hF.1
  refine e_aload (k := 783) (xi181 783) rfl (by omega) ?_
  refine e_aload (k := 784) (xi181 784) rfl (by omega) ?_
  refine e_iload (k := 785) (xi181 785) rfl ?_
  refine e_iconst (k := 786) (xi181 786) ?_
  refine e_iadd (w := 1 + i) (k := 787) (xi181 787) (x_wn (by omega)) ?_
  refine e_sld (w := S (1 + i)) (k := 788) (xi181 788) ⟨by omega, by rw [hs]; omega⟩ (hs _) ?_
  refine e_callR (k := 789) (c1 := B1 + 154) (c2 := B2 + 1831) (rest := []) (as := [.inr 0, .inl (S (1 + i))]) (xi181 789) (by decide) xm107 rfl ⟨rfl, Nat.le_of_ble_eq_true rfl, by decide⟩ (Or.inr (x_okt (ok_WS hJ.1))) (k_x_carry hJ.1 hJ.2.2.1 (S (1 + i))) ?_
  rintro v_ h_ ⟨e1, tx, q1⟩
  cases e1
  have hs1 : ∀ j, (u_x_carry (S (1 + i)) M) (-2) j = S j := fun j => (tx.2 _ _ (Or.inl (by omega))).trans (hs j)
  show x_Ev 181 790 [.inr (-2), .inr 0, .inr 162, .inl (i)] [.inl (v_x_carry (S (1 + i)) M)] (B1 + 154, B2 + 1831) (z, P, (u_x_carry (S (1 + i)) M)) _
  refine e_aload (k := 790) (xi181 790) rfl (by omega) ?_
  refine e_aload (k := 791) (xi181 791) rfl (by omega) ?_
  refine e_iload (k := 792) (xi181 792) rfl ?_
  refine e_iconst (k := 793) (xi181 793) ?_
  refine e_iadd (w := 1 + i) (k := 794) (xi181 794) (x_wn (by omega)) ?_
  refine e_sld (w := S (1 + i)) (k := 795) (xi181 795) ⟨by omega, by rw [hs1]; omega⟩ (hs1 _) ?_
  refine e_callR (k := 796) (c1 := B1 + 154) (c2 := B2 + 1831) (rest := [.inl (v_x_carry (S (1 + i)) M)]) (as := [.inr 162, .inl (S (1 + i))]) (xi181 796) (by decide) xm177 rfl ⟨rfl, Nat.le_of_ble_eq_true rfl, by decide⟩ (Or.inr (x_okt (ok_mo hJ.1))) (k_n_carry hJ.1 tx.1 (S (1 + i))) ?_
  rintro v_ h_ ⟨e2, tn, q2⟩
  cases e2
  have hs2 : ∀ j, (u_n_carry (S (1 + i)) (u_x_carry (S (1 + i)) M)) (-2) j = S j := fun j => (tn.2 _ _ (Or.inl (by omega))).trans (hs1 j)
  have JF := JF_carry hF (by omega) tx tn (y_j_light hJ tx tn)
  show x_Ev 181 797 [.inr (-2), .inr 0, .inr 162, .inl (i)] [.inl (v_n_carry (S (1 + i)) (u_x_carry (S (1 + i)) M)), .inl (v_x_carry (S (1 + i)) M)] (B1 + 154, B2 + 1831) (z, P, (u_n_carry (S (1 + i)) (u_x_carry (S (1 + i)) M))) _
  refine e_c_eq (k := 797) (xi181 797) (fun _ => ?_) (fun q => absurd JF.2 q)
  exact K _ _ _ _ _ (jf_mono JF.1 (by omega)) hs2 (by omega) (by omega)
set_option maxRecDepth 100000 in
theorem l_c30 {z : Int} {P M : Int → Int → Int} {S : Int → Int} {L i : Int} {B1 B2 : Nat} (hF : y_JF (1399 * i) z P M) (hs : ∀ j, M (-2) j = S j) (hb : ∀ j, S j < 2147483648) (hL : S (-1) = L) (hL2 : 0 ≤ L ∧ L ≤ 2560) (hi : 0 ≤ i ∧ i + 5 ≤ L) (K : ∀ (z2 : Int) (P2 M2 : Int → Int → Int) (C1 C2 : Nat), y_JF (1399 * (5 + i)) z2 P2 M2 → (∀ j, M2 (-2) j = S j) → B1 ≤ C1 → B2 ≤ C2 → x_Ev 181 851 [.inr (-2), .inr 0, .inr 162, .inl (i)] [] (C1, C2) (z2, P2, M2) x_R1) : x_Ev 181 800 [.inr (-2), .inr 0, .inr 162, .inl (i)] [] (B1 + 154, B2 + 1831) (z, P, M) x_R1 := by
  have hJ := hF.1
  refine e_aload (k := 800) (xi181 800) rfl (by omega) ?_
  refine e_aload (k := 801) (xi181 801) rfl (by omega) ?_
  refine e_iload (k := 802) (xi181 802) rfl ?_
  refine e_iconst (k := 803) (xi181 803) ?_
  refine e_iadd (w := 1 + i) (k := 804) (xi181 804) (x_wn (by omega)) ?_
  refine e_sld (w := S (1 + i)) (k := 805) (xi181 805) ⟨by omega, by rw [hs]; omega⟩ (hs _) ?_
  refine e_callR (k := 806) (c1 := B1) (c2 := B2) (rest := []) (as := [.inr 0, .inl (S (1 + i))]) (xi181 806) (by decide) xm108 rfl ⟨rfl, Nat.le_of_ble_eq_true rfl, by decide⟩ (Or.inr (x_okt (ok_WS hJ.1))) (k_x_image hJ.1 hJ.2.1 hJ.2.2.1 (S (1 + i))) ?_
  rintro v_ h_ ⟨z2, P2, M2, e1, ip⟩
  cases e1
  have hs1 : ∀ j, M2 (-2) j = S j := fun j => (ip.2.2.2.1 _ _ (by omega)).trans (hs j)
  show x_Ev 181 807 [.inr (-2), .inr 0, .inr 162, .inl (i)] [.inl (if 0 ≤ S (1 + i) ∧ S (1 + i) < 4 then 1 else 0)] (B1, B2) (z2, P2, M2) _
  refine e_pop (k := 807) (xi181 807) ?_
  refine e_aload (k := 808) (xi181 808) rfl (by omega) ?_
  refine e_aload (k := 809) (xi181 809) rfl (by omega) ?_
  refine e_iload (k := 810) (xi181 810) rfl ?_
  refine e_iconst (k := 811) (xi181 811) ?_
  refine e_iadd (w := 1 + i) (k := 812) (xi181 812) (x_wn (by omega)) ?_
  refine e_sld (w := S (1 + i)) (k := 813) (xi181 813) ⟨by omega, by rw [hs1]; omega⟩ (hs1 _) ?_
  refine e_callR (k := 814) (c1 := B1) (c2 := B2) (rest := []) (as := [.inr 162, .inl (S (1 + i))]) (xi181 814) (by decide) xm178 rfl ⟨rfl, Nat.le_of_ble_eq_true rfl, by decide⟩ (Or.inr (x_okt (ok_mo ip.1))) (k_n_image ip.1 ip.2.2.1 (S (1 + i))) ?_
  rintro v_ h_ ⟨e2, tn, q2⟩
  cases e2
  have hs2 : ∀ j, (u_n_image (S (1 + i)) M2) (-2) j = S j := fun j => (tn.2 _ _ (Or.inl (by omega))).trans (hs1 j)
  have JF := JF_image hF ip tn (J_image hJ ip tn)
  show x_Ev 181 815 [.inr (-2), .inr 0, .inr 162, .inl (i)] [.inl (v_n_image (S (1 + i)) M2)] (B1, B2) (z2, P2, (u_n_image (S (1 + i)) M2)) _
  refine e_pop (k := 815) (xi181 815) ?_
  refine e_goto (k := 816) (xi181 816) ?_
  exact K _ _ _ _ _ (jf_mono JF (by omega)) hs2 (by omega) (by omega)
set_option maxRecDepth 100000 in
theorem l_c31 {z : Int} {P M : Int → Int → Int} {S : Int → Int} {L i : Int} {B1 B2 : Nat} (hF : y_JF (1399 * i) z P M) (hs : ∀ j, M (-2) j = S j) (hb : ∀ j, S j < 2147483648) (hL : S (-1) = L) (hL2 : 0 ≤ L ∧ L ≤ 2560) (hi : 0 ≤ i ∧ i + 5 ≤ L) (K : ∀ (z2 : Int) (P2 M2 : Int → Int → Int) (C1 C2 : Nat), y_JF (1399 * (5 + i)) z2 P2 M2 → (∀ j, M2 (-2) j = S j) → B1 ≤ C1 → B2 ≤ C2 → x_Ev 181 851 [.inr (-2), .inr 0, .inr 162, .inl (i)] [] (C1, C2) (z2, P2, M2) x_R1) : x_Ev 181 817 [.inr (-2), .inr 0, .inr 162, .inl (i)] [] (B1 + 154, B2 + 1831) (z, P, M) x_R1 := by
  have hJ := hF.1
  refine e_aload (k := 817) (xi181 817) rfl (by omega) ?_
  refine e_aload (k := 818) (xi181 818) rfl (by omega) ?_
  refine e_iload (k := 819) (xi181 819) rfl ?_
  refine e_iconst (k := 820) (xi181 820) ?_
  refine e_iadd (w := 1 + i) (k := 821) (xi181 821) (x_wn (by omega)) ?_
  refine e_sld (w := S (1 + i)) (k := 822) (xi181 822) ⟨by omega, by rw [hs]; omega⟩ (hs _) ?_
  refine e_callR (k := 823) (c1 := B1 + 154) (c2 := B2 + 1831) (rest := []) (as := [.inr 0, .inl (S (1 + i))]) (xi181 823) (by decide) xm109 rfl ⟨rfl, Nat.le_of_ble_eq_true rfl, by decide⟩ (Or.inr (x_okt (ok_WS hJ.1))) (k_x_again hJ.1 hJ.2.1 hJ.2.2.1 (S (1 + i))) ?_
  rintro v_ h_ ⟨M2, e1, tx, ag1, ag2⟩
  cases e1
  have hs1 : ∀ j, M2 (-2) j = S j := fun j => (tx.2 _ _ (Or.inl (by omega))).trans (hs j)
  show x_Ev 181 824 [.inr (-2), .inr 0, .inr 162, .inl (i)] [.inl (if (0 ≤ S (1 + i) ∧ S (1 + i) < 4) ∧ P 155 (S (1 + i)) ≠ -1 then 1 else 0)] (B1 + 154, B2 + 1831) (z, P, M2) _
  refine e_pop (k := 824) (xi181 824) ?_
  refine e_aload (k := 825) (xi181 825) rfl (by omega) ?_
  refine e_aload (k := 826) (xi181 826) rfl (by omega) ?_
  refine e_iload (k := 827) (xi181 827) rfl ?_
  refine e_iconst (k := 828) (xi181 828) ?_
  refine e_iadd (w := 1 + i) (k := 829) (xi181 829) (x_wn (by omega)) ?_
  refine e_sld (w := S (1 + i)) (k := 830) (xi181 830) ⟨by omega, by rw [hs1]; omega⟩ (hs1 _) ?_
  refine e_callR (k := 831) (c1 := B1 + 154) (c2 := B2 + 1831) (rest := []) (as := [.inr 162, .inl (S (1 + i))]) (xi181 831) (by decide) xm179 rfl ⟨rfl, Nat.le_of_ble_eq_true rfl, by decide⟩ (Or.inr (x_okt (ok_mo hJ.1))) (k_n_again hJ.1 tx.1 (S (1 + i))) ?_
  rintro v_ h_ ⟨e2, tn, q2⟩
  cases e2
  have hs2 : ∀ j, (u_n_again (S (1 + i)) M2) (-2) j = S j := fun j => (tn.2 _ _ (Or.inl (by omega))).trans (hs1 j)
  have JV := J_again hJ tx ag1 ag2 tn
  have JF := JF_again hF tx ag1 ag2 JV.1
  show x_Ev 181 832 [.inr (-2), .inr 0, .inr 162, .inl (i)] [.inl (v_n_again (S (1 + i)) M2)] (B1 + 154, B2 + 1831) (z, P, (u_n_again (S (1 + i)) M2)) _
  refine e_pop (k := 832) (xi181 832) ?_
  refine e_goto (k := 833) (xi181 833) ?_
  exact K _ _ _ _ _ (jf_mono JF (by omega)) hs2 (by omega) (by omega)
set_option maxRecDepth 100000 in
theorem l_c32 {z : Int} {P M : Int → Int → Int} {S : Int → Int} {L i : Int} {B1 B2 : Nat} (hF : y_JF (1399 * i) z P M) (hs : ∀ j, M (-2) j = S j) (hb : ∀ j, S j < 2147483648) (hL : S (-1) = L) (hL2 : 0 ≤ L ∧ L ≤ 2560) (hi : 0 ≤ i ∧ i + 5 ≤ L) (K : ∀ (z2 : Int) (P2 M2 : Int → Int → Int) (C1 C2 : Nat), y_JF (1399 * (5 + i)) z2 P2 M2 → (∀ j, M2 (-2) j = S j) → B1 ≤ C1 → B2 ≤ C2 → x_Ev 181 851 [.inr (-2), .inr 0, .inr 162, .inl (i)] [] (C1, C2) (z2, P2, M2) x_R1) : x_Ev 181 834 [.inr (-2), .inr 0, .inr 162, .inl (i)] [] (B1 + 154, B2 + 1831) (z, P, M) x_R1 := by
  have hJ := hF.1
  refine e_aload (k := 834) (xi181 834) rfl (by omega) ?_
  refine e_aload (k := 835) (xi181 835) rfl (by omega) ?_
  refine e_iload (k := 836) (xi181 836) rfl ?_
  refine e_iconst (k := 837) (xi181 837) ?_
  refine e_iadd (w := 1 + i) (k := 838) (xi181 838) (x_wn (by omega)) ?_
  refine e_sld (w := S (1 + i)) (k := 839) (xi181 839) ⟨by omega, by rw [hs]; omega⟩ (hs _) ?_
  refine e_callR (k := 840) (c1 := B1 + 154) (c2 := B2 + 1831) (rest := []) (as := [.inr 0, .inl (S (1 + i))]) (xi181 840) (by decide) xm110 rfl ⟨rfl, Nat.le_of_ble_eq_true rfl, by decide⟩ (Or.inr (x_okt (ok_WS hJ.1))) (k_x_count hJ.1 hJ.2.2.1 (S (1 + i))) ?_
  rintro v_ h_ ⟨e1, q1⟩
  cases e1
  show x_Ev 181 841 [.inr (-2), .inr 0, .inr 162, .inl (i)] [.inl (v_x_count (S (1 + i)) M)] (B1 + 154, B2 + 1831) (z, P, M) _
  refine e_pop (k := 841) (xi181 841) ?_
  refine e_aload (k := 842) (xi181 842) rfl (by omega) ?_
  refine e_aload (k := 843) (xi181 843) rfl (by omega) ?_
  refine e_iload (k := 844) (xi181 844) rfl ?_
  refine e_iconst (k := 845) (xi181 845) ?_
  refine e_iadd (w := 1 + i) (k := 846) (xi181 846) (x_wn (by omega)) ?_
  refine e_sld (w := S (1 + i)) (k := 847) (xi181 847) ⟨by omega, by rw [hs]; omega⟩ (hs _) ?_
  refine e_callR (k := 848) (c1 := B1 + 154) (c2 := B2 + 1831) (rest := []) (as := [.inr 162, .inl (S (1 + i))]) (xi181 848) (by decide) xm180 rfl ⟨rfl, Nat.le_of_ble_eq_true rfl, by decide⟩ (Or.inr (x_okt (ok_mo hJ.1))) (k_n_count hJ.1 hJ.2.2.1 (S (1 + i))) ?_
  rintro v_ h_ ⟨e2, q2⟩
  cases e2
  have JF := JF_count hF (S (1 + i))
  show x_Ev 181 849 [.inr (-2), .inr 0, .inr 162, .inl (i)] [.inl (v_n_count (S (1 + i)) M)] (B1 + 154, B2 + 1831) (z, P, M) _
  refine e_pop (k := 849) (xi181 849) ?_
  refine e_goto (k := 850) (xi181 850) ?_
  exact K _ _ _ _ _ (jf_mono JF.1 (by omega)) hs (by omega) (by omega)
set_option maxRecDepth 100000 in
theorem l_iter {z : Int} {P M : Int → Int → Int} {S : Int → Int} {L i : Int} {B1 B2 : Nat} (hF : y_JF (1399 * i) z P M) (hs : ∀ j, M (-2) j = S j) (hb : ∀ j, S j < 2147483648) (hL : S (-1) = L) (hL2 : 0 ≤ L ∧ L ≤ 2560) (hi : 0 ≤ i ∧ i + 5 ≤ L) (K : ∀ (z2 : Int) (P2 M2 : Int → Int → Int) (C1 C2 : Nat), y_JF (1399 * (5 + i)) z2 P2 M2 → (∀ j, M2 (-2) j = S j) → B1 ≤ C1 → B2 ≤ C2 → x_Ev 181 851 [.inr (-2), .inr 0, .inr 162, .inl (i)] [] (C1, C2) (z2, P2, M2) x_R1) : x_Ev 181 16 [.inr (-2), .inr 0, .inr 162, .inl (i)] [] (B1 + 154, B2 + 1831) (z, P, M) x_R1 := by
  refine e_aload (k := 16) (xi181 16) rfl (by omega) ?_
  refine e_iload (k := 17) (xi181 17) rfl ?_
  refine e_sld (w := S i) (k := 18) (xi181 18) ⟨by omega, by rw [hs]; omega⟩ (hs _) ?_
  refine e_iconst (k := 19) (xi181 19) ?_
  refine e_iand (k := 20) (xi181 20) rfl ?_
  generalize (Int32.ofInt (S i) &&& Int32.ofInt 63).toInt = s
  by_cases e0 : s = 0
  · subst e0
    exact e_sw (t2 := 22) (k := 21) (xi181 21) (by decide +kernel) (l_c0 hF hs hb hL hL2 hi K)
  by_cases e1 : s = 1
  · subst e1
    exact e_sw (t2 := 39) (k := 21) (xi181 21) (by decide +kernel) (l_c1 hF hs hb hL hL2 hi K)
  by_cases e2 : s = 2
  · subst e2
    exact e_sw (t2 := 76) (k := 21) (xi181 21) (by decide +kernel) (l_c2 hF hs hb hL hL2 hi K)
  by_cases e3 : s = 3
  · subst e3
    exact e_sw (t2 := 103) (k := 21) (xi181 21) (by decide +kernel) (l_c3 hF hs hb hL hL2 hi K)
  by_cases e4 : s = 4
  · subst e4
    exact e_sw (t2 := 130) (k := 21) (xi181 21) (by decide +kernel) (l_c4 hF hs hb hL hL2 hi K)
  by_cases e5 : s = 5
  · subst e5
    exact e_sw (t2 := 175) (k := 21) (xi181 21) (by decide +kernel) (l_c5 hF hs hb hL hL2 hi K)
  by_cases e6 : s = 6
  · subst e6
    exact e_sw (t2 := 202) (k := 21) (xi181 21) (by decide +kernel) (l_c6 hF hs hb hL hL2 hi K)
  by_cases e7 : s = 7
  · subst e7
    exact e_sw (t2 := 229) (k := 21) (xi181 21) (by decide +kernel) (l_c7 hF hs hb hL hL2 hi K)
  by_cases e8 : s = 8
  · subst e8
    exact e_sw (t2 := 266) (k := 21) (xi181 21) (by decide +kernel) (l_c8 hF hs hb hL hL2 hi K)
  by_cases e9 : s = 9
  · subst e9
    exact e_sw (t2 := 293) (k := 21) (xi181 21) (by decide +kernel) (l_c9 hF hs hb hL hL2 hi K)
  by_cases e10 : s = 10
  · subst e10
    exact e_sw (t2 := 320) (k := 21) (xi181 21) (by decide +kernel) (l_c10 hF hs hb hL hL2 hi K)
  by_cases e11 : s = 11
  · subst e11
    exact e_sw (t2 := 337) (k := 21) (xi181 21) (by decide +kernel) (l_c11 hF hs hb hL hL2 hi K)
  by_cases e12 : s = 12
  · subst e12
    exact e_sw (t2 := 354) (k := 21) (xi181 21) (by decide +kernel) (l_c12 hF hs hb hL hL2 hi K)
  by_cases e13 : s = 13
  · subst e13
    exact e_sw (t2 := 371) (k := 21) (xi181 21) (by decide +kernel) (l_c13 hF hs hb hL hL2 hi K)
  by_cases e14 : s = 14
  · subst e14
    exact e_sw (t2 := 398) (k := 21) (xi181 21) (by decide +kernel) (l_c14 hF hs hb hL hL2 hi K)
  by_cases e15 : s = 15
  · subst e15
    exact e_sw (t2 := 435) (k := 21) (xi181 21) (by decide +kernel) (l_c15 hF hs hb hL hL2 hi K)
  by_cases e16 : s = 16
  · subst e16
    exact e_sw (t2 := 462) (k := 21) (xi181 21) (by decide +kernel) (l_c16 hF hs hb hL hL2 hi K)
  by_cases e17 : s = 17
  · subst e17
    exact e_sw (t2 := 469) (k := 21) (xi181 21) (by decide +kernel) (l_c17 hF hs hb hL hL2 hi K)
  by_cases e18 : s = 18
  · subst e18
    exact e_sw (t2 := 496) (k := 21) (xi181 21) (by decide +kernel) (l_c18 hF hs hb hL hL2 hi K)
  by_cases e19 : s = 19
  · subst e19
    exact e_sw (t2 := 523) (k := 21) (xi181 21) (by decide +kernel) (l_c19 hF hs hb hL hL2 hi K)
  by_cases e20 : s = 20
  · subst e20
    exact e_sw (t2 := 550) (k := 21) (xi181 21) (by decide +kernel) (l_c20 hF hs hb hL hL2 hi K)
  by_cases e21 : s = 21
  · subst e21
    exact e_sw (t2 := 577) (k := 21) (xi181 21) (by decide +kernel) (l_c21 hF hs hb hL hL2 hi K)
  by_cases e22 : s = 22
  · subst e22
    exact e_sw (t2 := 594) (k := 21) (xi181 21) (by decide +kernel) (l_c22 hF hs hb hL hL2 hi K)
  by_cases e23 : s = 23
  · subst e23
    exact e_sw (t2 := 621) (k := 21) (xi181 21) (by decide +kernel) (l_c23 hF hs hb hL hL2 hi K)
  by_cases e24 : s = 24
  · subst e24
    exact e_sw (t2 := 668) (k := 21) (xi181 21) (by decide +kernel) (l_c24 hF hs hb hL hL2 hi K)
  by_cases e25 : s = 25
  · subst e25
    exact e_sw (t2 := 705) (k := 21) (xi181 21) (by decide +kernel) (l_c25 hF hs hb hL hL2 hi K)
  by_cases e26 : s = 26
  · subst e26
    exact e_sw (t2 := 722) (k := 21) (xi181 21) (by decide +kernel) (l_c26 hF hs hb hL hL2 hi K)
  by_cases e27 : s = 27
  · subst e27
    exact e_sw (t2 := 749) (k := 21) (xi181 21) (by decide +kernel) (l_c27 hF hs hb hL hL2 hi K)
  by_cases e28 : s = 28
  · subst e28
    exact e_sw (t2 := 766) (k := 21) (xi181 21) (by decide +kernel) (l_c28 hF hs hb hL hL2 hi K)
  by_cases e29 : s = 29
  · subst e29
    exact e_sw (t2 := 783) (k := 21) (xi181 21) (by decide +kernel) (l_c29 hF hs hb hL hL2 hi K)
  by_cases e30 : s = 30
  · subst e30
    exact e_sw (t2 := 800) (k := 21) (xi181 21) (by decide +kernel) (l_c30 hF hs hb hL hL2 hi K)
  by_cases e31 : s = 31
  · subst e31
    exact e_sw (t2 := 817) (k := 21) (xi181 21) (by decide +kernel) (l_c31 hF hs hb hL hL2 hi K)
  by_cases e32 : s = 32
  · subst e32
    exact e_sw (t2 := 834) (k := 21) (xi181 21) (by decide +kernel) (l_c32 hF hs hb hL hL2 hi K)
  refine e_sw (k := 21) (t2 := 851) (xi181 21) (if_pos (by omega)) ?_
  exact K _ _ _ _ _ (jf_mono hF (by omega)) hs (by omega) (by omega)
set_option maxRecDepth 100000 in
theorem l_main {S : Int → Int} {L : Int} (hb : ∀ j, S j < 2147483648) (hL : S (-1) = L) (hL2 : 0 ≤ L ∧ L ≤ 2560) : ∀ (n : Nat) (z : Int) (P M : Int → Int → Int) (i : Int) (B1 B2 : Nat), y_JF (1399 * i) z P M → (∀ j, M (-2) j = S j) → 0 ≤ i → L < i + 5 * n → 154 * n ≤ B1 → 1831 * n ≤ B2 → x_Ev 181 10 [.inr (-2), .inr 0, .inr 162, .inl (i)] [] (B1, B2) (z, P, M) x_R1 := by
  intro n
  induction n with
  | zero =>
    intro z P M i B1 B2 hJ hs h0 hn h1 h2
    refine e_iload (k := 10) (xi181 10) rfl ?_
    refine e_aload (k := 11) (xi181 11) rfl (by omega) ?_
    refine e_slen (w := L) (k := 12) (xi181 12) ((hs _).trans hL) ?_
    refine e_iconst (k := 13) (xi181 13) ?_
    refine e_isub (w := L - 5) (k := 14) (xi181 14) (x_wn ?_) ?_
    · have := hs (-1)
      exact ⟨rfl, by omega, by omega⟩
    refine e_c_gt (k := 15) (xi181 15) (fun _ => ?_) (fun c => absurd (by omega) c)
    refine e_iconst (k := 853) (xi181 853) ?_
    exact e_zret (k := 854) (xi181 854) (by decide) rfl
  | succ n ih =>
    intro z P M i B1 B2 hJ hs h0 hn h1 h2
    refine e_iload (k := 10) (xi181 10) rfl ?_
    refine e_aload (k := 11) (xi181 11) rfl (by omega) ?_
    refine e_slen (w := L) (k := 12) (xi181 12) ((hs _).trans hL) ?_
    refine e_iconst (k := 13) (xi181 13) ?_
    refine e_isub (w := L - 5) (k := 14) (xi181 14) (x_wn ⟨rfl, by omega, by omega⟩) ?_
    refine e_c_gt (k := 15) (xi181 15) (fun _ => ?_) (fun c => ?_)
    · refine e_iconst (k := 853) (xi181 853) ?_
      exact e_zret (k := 854) (xi181 854) (by decide) rfl
    · obtain ⟨D1, rfl⟩ : ∃ D, B1 = D + 154 := ⟨B1 - 154, by omega⟩
      obtain ⟨D2, rfl⟩ : ∃ D, B2 = D + 1831 := ⟨B2 - 1831, by omega⟩
      refine l_iter hJ hs hb hL hL2 ⟨h0, by omega⟩ (fun z2 P2 M2 C1 C2 hJ2 hs2 g1 g2 => ?_)
      refine e_iinc (w := 5 + i) (k := 851) (xi181 851) rfl (x_wn (by omega)) ?_
      show x_Ev 181 852 [.inr (-2), .inr 0, .inr 162, .inl (5 + i)] [] (C1, C2) (z2, P2, M2) _
      refine e_goto (k := 852) (xi181 852) ?_
      exact ih z2 P2 M2 (5 + i) C1 C2 hJ2 hs2 (by omega) (by omega) (by omega) (by omega)
set_option maxRecDepth 100000 in
theorem x_law (L : Nat) (xs : Nat → Int32) (hL : L ≤ 2560) : x_Ev xlaw 0 [.inr (-2), x_un, x_un, x_un] [] (1200000, 5502250) (0, fun _ _ => -1, fun a j => if a = -2 then (if j = -1 then (L : Int) else if 0 ≤ j then (xs j.toNat).toInt else 0) else 0) (fun q => q.1 = some (.inl 1)) := by
  generalize hM0 : (fun a j => if a = -2 then (if j = -1 then (L : Int) else if 0 ≤ j then (xs j.toNat).toInt else 0) else 0 : Int → Int → Int) = M0
  have hlen : M0 (-2) (-1) = L := by rw [← hM0]; rfl
  have hz0 : ∀ a k, 0 ≤ a → M0 a k = 0 := fun a k h => by rw [← hM0]; exact if_neg (by omega)
  have hbd : ∀ j, M0 (-2) j < 2147483648 := fun j => by
    rw [← hM0]
    show (if (-2 : Int) = -2 then (if j = -1 then (L : Int) else if 0 ≤ j then (xs j.toNat).toInt else 0) else 0) < 2147483648
    rw [if_pos rfl]
    split
    · omega
    · split
      · have := x_in32_t (xs j.toNat)
        unfold x_in32 at this
        omega
      · omega
  generalize (fun _ _ => -1 : Int → Int → Int) = P0
  clear hM0
  show x_Ev 181 0 [.inr (-2), x_un, x_un, x_un] [] (1200000, 5502250) (0, P0, M0) x_R1
  refine e_new (b1 := 1199999) (b2 := 5502247) (u0 := 3) (k := 0) (xi181 0) ⟨by decide, by decide, rfl⟩ ?_
  refine e_dup (k := 1) (xi181 1) ?_
  show x_Ev 181 2 [.inr (-2), x_un, x_un, x_un] [.inr 0, .inr 0] (1199999, 5502247) (1, x_clr P0 0 (-1), x_clr M0 0 0) _
  have hZ0 : y_Z 0 M0 (1, x_clr P0 0 (-1), x_clr M0 0 0) := ⟨by show (0 : Int) ≤ 1; omega, fun b k h1 h2 => Or.inl (by
    have h2 : b < 1 := h2
    have : b = 0 := by omega
    subst this
    show x_clr M0 0 0 0 k = 0
    exact x_clr_self), fun b k h1 => by
      have h1 : 1 ≤ b := h1
      exact x_clr_ne (by omega)⟩
  refine e_callR (k := 2) (c1 := 1199838) (c2 := 5499360) (rest := [.inr 0]) (as := [.inr 0]) (xi181 2) (by decide) xm77 rfl ⟨rfl, Nat.le_of_ble_eq_true rfl, by decide⟩ (Or.inr (x_okt ⟨by omega, by omega, by decide⟩)) (y_zcall (by decide) hZ0 c_WS) ?_
  rintro v h1 ⟨⟨P1, M1, hq, w0, wP, wM, wZ, wT, wc, wI, wt, wf⟩, hZ1⟩
  cases hq
  refine e_astore (k := 3) (xi181 3) (Nat.le_of_ble_eq_true rfl) (by omega) ?_
  show x_Ev 181 4 [.inr (-2), .inr 0, x_un, x_un] [] (1199838, 5499360) (162, P1, M1) _
  refine e_new (b1 := 1199837) (b2 := 5499348) (u0 := 12) (k := 4) (xi181 4) ⟨by decide, by decide, rfl⟩ ?_
  refine e_dup (k := 5) (xi181 5) ?_
  show x_Ev 181 6 [.inr (-2), .inr 0, x_un, x_un] [.inr 162, .inr 162] (1199837, 5499348) (163, x_clr P1 162 (-1), x_clr M1 162 0) _
  refine e_callR (k := 6) (c1 := 1199830) (c2 := 5491099) (rest := [.inr 162]) (as := [.inr 162]) (xi181 6) (by decide) xm112 rfl ⟨rfl, Nat.le_of_ble_eq_true rfl, by decide⟩ (Or.inr (x_okt ⟨by omega, by omega, by decide⟩)) (c_model ⟨⟨(x_clr_ne (by omega)).trans w0.1, (x_clr_ne (by omega)).trans w0.2.1, (x_clr_ne (by omega)).trans w0.2.2⟩, tp_fr wP (fun b j h1 h2 => x_clr_ne (by omega)), (x_clr_ne (by omega)).trans wT.1, (x_clr_ne (by omega)).trans wT.2.1, (x_clr_ne (by omega)).trans wT.2.2.1, (x_clr_ne (by omega)).trans wT.2.2.2.1, (x_clr_ne (by omega)).trans wT.2.2.2.2⟩ (fun k => x_clr_self)) ?_
  rintro v h1 ⟨P2, M2, A, hq, hS, fP, fM, hA, m1, m2, m3⟩
  cases hq
  refine e_astore (k := 7) (xi181 7) (Nat.le_of_ble_eq_true rfl) (by omega) ?_
  show x_Ev 181 8 [.inr (-2), .inr 0, .inr 162, x_un] [] (1199830, 5491099) (170, P2, x_row M2 163 A) _
  refine e_iconst (k := 8) (xi181 8) ?_
  refine e_istore (k := 9) (xi181 9) (Nat.le_of_ble_eq_true rfl) ?_
  show x_Ev 181 10 [.inr (-2), .inr 0, .inr 162, .inl 0] [] (1199830, 5491099) (170, P2, x_row M2 163 A) _
  have g : ∀ b j, b < 162 → x_row M2 163 A b j = M1 b j := fun b j h => ((if_neg (by omega)).trans (fM b j h)).trans (x_clr_ne (by omega))
  have aI : ∀ k, P2 155 k = -1 := fun k => (fP _ _ (by omega)).trans ((x_clr_ne (by omega)).trans (wI k))
  have aZ : ∀ a k, 1 ≤ a → a < 162 → x_row M2 163 A a k = 0 ∨ y_zk a k := fun a k h1 h2 => by
    rw [g a k h2]
    exact hZ1.2.1 a k (by omega) h2
  have a2 : ∀ k, x_row M2 163 A 162 k = 0 := fun k => (if_neg (by decide)).trans (m1 k)
  have aA : ∀ i, x_row M2 163 A 163 i = a_F 144 i := fun i => (if_pos rfl).trans (hA i)
  refine l_main (S := fun j => M0 (-2) j) (L := (L : Int)) hbd hlen ⟨by omega, by omega⟩ 513 170 P2 _ 0 1199830 5491099 (jf_mono (JF_0 (J_0 hS aI (tm_fr wM (fun b j h1 h2 => g b j (by omega))) aZ a2 aA (fun b k h => ?_)) aI aZ a2 aA) (by omega)) (fun j => (g _ _ (by omega)).trans ((wf _ _ (by omega)).trans (x_clr_ne (by omega)))) (by omega) (by omega) (by omega) (by omega)
  refine (if_neg (by omega)).trans ?_
  by_cases hb : b < 170
  · exact m2 b k h hb
  · rw [m3 b k (by omega), x_clr_ne (by omega)]
    exact (hZ1.2.2 b k (by show (162 : Int) ≤ b; omega)).trans (hz0 b k (by omega))
