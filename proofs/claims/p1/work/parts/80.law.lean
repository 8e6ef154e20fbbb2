/-! THE LAW: one call on fresh objects -/
def x_R1 (q : Option xV × xH) : Prop := q.1 = some (.inl 1)
set_option maxRecDepth 100000 in
theorem l_tail {z : Int} {P M : Int → Int → Int} {b : xB} (hL : M (-2) (-1) = 5) : x_Ev 181 851 [.inr (-2), .inr 0, .inr 162, .inl 0] [] b (z, P, M) x_R1 := by
  refine e_iinc (w := 5) (k := 851) (xi181 851) rfl (by decide) ?_
  show x_Ev 181 852 [.inr (-2), .inr 0, .inr 162, .inl 5] [] b (z, P, M) _
  refine e_goto (k := 852) (xi181 852) ?_
  refine e_iload (k := 10) (xi181 10) rfl ?_
  refine e_aload (k := 11) (xi181 11) rfl (by omega) ?_
  refine e_slen (w := 5) (k := 12) (xi181 12) hL ?_
  refine e_iconst (k := 13) (xi181 13) ?_
  refine e_isub (w := 0) (k := 14) (xi181 14) (by decide) ?_
  refine e_c_gt (k := 15) (xi181 15) (fun _ => ?_) (fun q => absurd (by omega) q)
  refine e_iconst (k := 853) (xi181 853) ?_
  exact e_zret (k := 854) (xi181 854) (by decide) rfl
set_option maxRecDepth 100000 in
theorem l_c0 {P M : Int → Int → Int} {B1 B2 : Nat} {s1 s2 s3 s4 : Int} (hS : x_Sh 170 P) (hI : ∀ k, P 155 k = -1) (hF : x_F0 M) (hN : M (3 + 7 * 0) 0 = 0) (hZ : x_TZ 1 M) (hA : ∀ i, M 163 i = a_F 144 i) (hM : ∀ k, M 162 k = 0) (hH : ∀ k, M 164 k = 0) (hL : M (-2) (-1) = 5) (h1 : M (-2) 1 = s1) (h2 : M (-2) 2 = s2) (h3 : M (-2) 3 = s3) (h4 : M (-2) 4 = s4) : x_Ev 181 22 [.inr (-2), .inr 0, .inr 162, .inl 0] [] (B1 + 154, B2 + 1831) (170, P, M) x_R1 := by
  refine e_aload (k := 22) (xi181 22) rfl (by omega) ?_
  refine e_aload (k := 23) (xi181 23) rfl (by omega) ?_
  refine e_iload (k := 24) (xi181 24) rfl ?_
  refine e_iconst (k := 25) (xi181 25) ?_
  refine e_iadd (w := 1) (k := 26) (xi181 26) (by decide) ?_
  refine e_sld (w := s1) (k := 27) (xi181 27) ⟨by omega, by rw [hL]; omega⟩ h1 ?_
  refine e_callR (k := 28) (c1 := (B1 + 154)) (c2 := (B2 + 1831)) (rest := []) (as := [.inr 0, .inl (s1)]) (xi181 28) (by decide) xm78 rfl ⟨rfl, Nat.le_of_ble_eq_true rfl, by decide⟩ (Or.inr (x_okt (ok_WS hS))) (f_stand hS hF hN s1) ?_
  rintro v h1 ⟨z2, P2, M2, hq, hS2, hK⟩
  cases hq
  have a0 : M2 163 0 = 0 := ((hK 163 0 (by omega)).trans (hA 0)).trans (if_neg (by omega))
  have a1 : M2 163 1 = 0 := ((hK 163 1 (by omega)).trans (hA 1)).trans (if_neg (by omega))
  have a2 : M2 163 2 = 0 := ((hK 163 2 (by omega)).trans (hA 2)).trans (if_neg (by omega))
  have a3 : M2 163 3 = 0 := ((hK 163 3 (by omega)).trans (hA 3)).trans (if_neg (by omega))
  show x_Ev 181 29 [.inr (-2), .inr 0, .inr 162, .inl 0] [.inl (if s1 < 2 ∨ 12 < s1 then -1 else 0)] ((B1 + 154), (B2 + 1831)) (z2, P2, M2) _
  rw [x_row_self M2 163]
  refine e_aload (k := 29) (xi181 29) rfl (by omega) ?_
  refine e_aload (k := 30) (xi181 30) rfl (by omega) ?_
  refine e_iload (k := 31) (xi181 31) rfl ?_
  refine e_iconst (k := 32) (xi181 32) ?_
  refine e_iadd (w := 1) (k := 33) (xi181 33) (by decide) ?_
  refine e_sld (w := s1) (k := 34) (xi181 34) ⟨by omega, by rw [(x_rown.trans ((hK _ _ (Or.inl (by omega))).trans hL))]; omega⟩ (x_rown.trans ((hK _ _ (Or.inl (by omega))).trans h1)) ?_
  refine e_callR (k := 35) (c1 := (B1 + 154)) (c2 := (B2 + 1831)) (rest := [.inl (if s1 < 2 ∨ 12 < s1 then -1 else 0)]) (as := [.inr 162, .inl (s1)]) (xi181 35) (by decide) xm121 rfl ⟨rfl, Nat.le_of_ble_eq_true rfl, by decide⟩ (Or.inr (x_okt (ok_mo hS2))) (g_stand (M := M2) hS2 a0 a1 a2 a3 s1) ?_
  rintro v h1 ⟨z3, P3, M3, hq, hK3⟩
  cases hq
  refine e_c_eq (k := 36) (xi181 36) (fun _ => l_tail ((hK3 _).trans ((hK _ _ (Or.inl (by omega))).trans hL))) (fun q => absurd rfl q)
set_option maxRecDepth 100000 in
theorem l_c1 {P M : Int → Int → Int} {B1 B2 : Nat} {s1 s2 s3 s4 : Int} (hS : x_Sh 170 P) (hI : ∀ k, P 155 k = -1) (hF : x_F0 M) (hN : M (3 + 7 * 0) 0 = 0) (hZ : x_TZ 1 M) (hA : ∀ i, M 163 i = a_F 144 i) (hM : ∀ k, M 162 k = 0) (hH : ∀ k, M 164 k = 0) (hL : M (-2) (-1) = 5) (h1 : M (-2) 1 = s1) (h2 : M (-2) 2 = s2) (h3 : M (-2) 3 = s3) (h4 : M (-2) 4 = s4) : x_Ev 181 39 [.inr (-2), .inr 0, .inr 162, .inl 0] [] (B1 + 154, B2 + 1831) (170, P, M) x_R1 := by
  refine e_aload (k := 39) (xi181 39) rfl (by omega) ?_
  refine e_aload (k := 40) (xi181 40) rfl (by omega) ?_
  refine e_iload (k := 41) (xi181 41) rfl ?_
  refine e_iconst (k := 42) (xi181 42) ?_
  refine e_iadd (w := 1) (k := 43) (xi181 43) (by decide) ?_
  refine e_sld (w := s1) (k := 44) (xi181 44) ⟨by omega, by rw [hL]; omega⟩ h1 ?_
  refine e_aload (k := 45) (xi181 45) rfl (by omega) ?_
  refine e_iload (k := 46) (xi181 46) rfl ?_
  refine e_iconst (k := 47) (xi181 47) ?_
  refine e_iadd (w := 2) (k := 48) (xi181 48) (by decide) ?_
  refine e_sld (w := s2) (k := 49) (xi181 49) ⟨by omega, by rw [hL]; omega⟩ h2 ?_
  refine e_aload (k := 50) (xi181 50) rfl (by omega) ?_
  refine e_iload (k := 51) (xi181 51) rfl ?_
  refine e_iconst (k := 52) (xi181 52) ?_
  refine e_iadd (w := 3) (k := 53) (xi181 53) (by decide) ?_
  refine e_sld (w := s3) (k := 54) (xi181 54) ⟨by omega, by rw [hL]; omega⟩ h3 ?_
  refine e_callR (k := 55) (c1 := (B1 + 154)) (c2 := (B2 + 1831)) (rest := []) (as := [.inr 0, .inl (s1), .inl (s2), .inl (s3)]) (xi181 55) (by decide) xm79 rfl ⟨rfl, Nat.le_of_ble_eq_true rfl, by decide⟩ (Or.inr (x_okt (ok_WS hS))) (x_FKo hS (f_length hS hF s1 s2 s3)) ?_
  rintro v h1 ⟨z2, P2, M2, hq, hS2, hK⟩
  cases hq
  have a0 : M2 163 0 = 0 := ((hK 163 0 (by omega)).trans (hA 0)).trans (if_neg (by omega))
  have a1 : M2 163 1 = 0 := ((hK 163 1 (by omega)).trans (hA 1)).trans (if_neg (by omega))
  have a2 : M2 163 2 = 0 := ((hK 163 2 (by omega)).trans (hA 2)).trans (if_neg (by omega))
  have a3 : M2 163 3 = 0 := ((hK 163 3 (by omega)).trans (hA 3)).trans (if_neg (by omega))
  show x_Ev 181 56 [.inr (-2), .inr 0, .inr 162, .inl 0] [.inl 0] ((B1 + 154), (B2 + 1831)) (z2, P2, M2) _
  rw [x_row_self M2 163]
  refine e_aload (k := 56) (xi181 56) rfl (by omega) ?_
  refine e_aload (k := 57) (xi181 57) rfl (by omega) ?_
  refine e_iload (k := 58) (xi181 58) rfl ?_
  refine e_iconst (k := 59) (xi181 59) ?_
  refine e_iadd (w := 1) (k := 60) (xi181 60) (by decide) ?_
  refine e_sld (w := s1) (k := 61) (xi181 61) ⟨by omega, by rw [(x_rown.trans ((hK _ _ (Or.inl (by omega))).trans hL))]; omega⟩ (x_rown.trans ((hK _ _ (Or.inl (by omega))).trans h1)) ?_
  refine e_aload (k := 62) (xi181 62) rfl (by omega) ?_
  refine e_iload (k := 63) (xi181 63) rfl ?_
  refine e_iconst (k := 64) (xi181 64) ?_
  refine e_iadd (w := 2) (k := 65) (xi181 65) (by decide) ?_
  refine e_sld (w := s2) (k := 66) (xi181 66) ⟨by omega, by rw [(x_rown.trans ((hK _ _ (Or.inl (by omega))).trans hL))]; omega⟩ (x_rown.trans ((hK _ _ (Or.inl (by omega))).trans h2)) ?_
  refine e_aload (k := 67) (xi181 67) rfl (by omega) ?_
  refine e_iload (k := 68) (xi181 68) rfl ?_
  refine e_iconst (k := 69) (xi181 69) ?_
  refine e_iadd (w := 3) (k := 70) (xi181 70) (by decide) ?_
  refine e_sld (w := s3) (k := 71) (xi181 71) ⟨by omega, by rw [(x_rown.trans ((hK _ _ (Or.inl (by omega))).trans hL))]; omega⟩ (x_rown.trans ((hK _ _ (Or.inl (by omega))).trans h3)) ?_
  refine e_callR (k := 72) (c1 := (B1 + 154)) (c2 := (B2 + 1831)) (rest := [.inl 0]) (as := [.inr 162, .inl (s1), .inl (s2), .inl (s3)]) (xi181 72) (by decide) xm122 rfl ⟨rfl, Nat.le_of_ble_eq_true rfl, by decide⟩ (Or.inr (x_okt (ok_mo hS2))) (x_GVo (g_length (M := M2) hS2 a0 a1 a2 a3 s1 s2 s3)) ?_
  rintro v h1 ⟨z3, P3, M3, hq, hK3⟩
  cases hq
  refine e_c_eq (k := 73) (xi181 73) (fun _ => l_tail ((hK3 _).trans ((hK _ _ (Or.inl (by omega))).trans hL))) (fun q => absurd rfl q)
set_option maxRecDepth 100000 in
theorem l_c2 {P M : Int → Int → Int} {B1 B2 : Nat} {s1 s2 s3 s4 : Int} (hS : x_Sh 170 P) (hI : ∀ k, P 155 k = -1) (hF : x_F0 M) (hN : M (3 + 7 * 0) 0 = 0) (hZ : x_TZ 1 M) (hA : ∀ i, M 163 i = a_F 144 i) (hM : ∀ k, M 162 k = 0) (hH : ∀ k, M 164 k = 0) (hL : M (-2) (-1) = 5) (h1 : M (-2) 1 = s1) (h2 : M (-2) 2 = s2) (h3 : M (-2) 3 = s3) (h4 : M (-2) 4 = s4) : x_Ev 181 76 [.inr (-2), .inr 0, .inr 162, .inl 0] [] (B1 + 154, B2 + 1831) (170, P, M) x_R1 := by
  refine e_aload (k := 76) (xi181 76) rfl (by omega) ?_
  refine e_aload (k := 77) (xi181 77) rfl (by omega) ?_
  refine e_iload (k := 78) (xi181 78) rfl ?_
  refine e_iconst (k := 79) (xi181 79) ?_
  refine e_iadd (w := 1) (k := 80) (xi181 80) (by decide) ?_
  refine e_sld (w := s1) (k := 81) (xi181 81) ⟨by omega, by rw [hL]; omega⟩ h1 ?_
  refine e_aload (k := 82) (xi181 82) rfl (by omega) ?_
  refine e_iload (k := 83) (xi181 83) rfl ?_
  refine e_iconst (k := 84) (xi181 84) ?_
  refine e_iadd (w := 2) (k := 85) (xi181 85) (by decide) ?_
  refine e_sld (w := s2) (k := 86) (xi181 86) ⟨by omega, by rw [hL]; omega⟩ h2 ?_
  refine e_callR (k := 87) (c1 := (B1 + 154)) (c2 := (B2 + 1831)) (rest := []) (as := [.inr 0, .inl (s1), .inl (s2)]) (xi181 87) (by decide) xm80 rfl ⟨rfl, Nat.le_of_ble_eq_true rfl, by decide⟩ (Or.inr (x_okt (ok_WS hS))) (x_FKo hS (f_next hS hF s1 s2)) ?_
  rintro v h1 ⟨z2, P2, M2, hq, hS2, hK⟩
  cases hq
  have a0 : M2 163 0 = 0 := ((hK 163 0 (by omega)).trans (hA 0)).trans (if_neg (by omega))
  have a1 : M2 163 1 = 0 := ((hK 163 1 (by omega)).trans (hA 1)).trans (if_neg (by omega))
  have a2 : M2 163 2 = 0 := ((hK 163 2 (by omega)).trans (hA 2)).trans (if_neg (by omega))
  have a3 : M2 163 3 = 0 := ((hK 163 3 (by omega)).trans (hA 3)).trans (if_neg (by omega))
  show x_Ev 181 88 [.inr (-2), .inr 0, .inr 162, .inl 0] [.inl ((-1))] ((B1 + 154), (B2 + 1831)) (z2, P2, M2) _
  rw [x_row_self M2 163]
  refine e_aload (k := 88) (xi181 88) rfl (by omega) ?_
  refine e_aload (k := 89) (xi181 89) rfl (by omega) ?_
  refine e_iload (k := 90) (xi181 90) rfl ?_
  refine e_iconst (k := 91) (xi181 91) ?_
  refine e_iadd (w := 1) (k := 92) (xi181 92) (by decide) ?_
  refine e_sld (w := s1) (k := 93) (xi181 93) ⟨by omega, by rw [(x_rown.trans ((hK _ _ (Or.inl (by omega))).trans hL))]; omega⟩ (x_rown.trans ((hK _ _ (Or.inl (by omega))).trans h1)) ?_
  refine e_aload (k := 94) (xi181 94) rfl (by omega) ?_
  refine e_iload (k := 95) (xi181 95) rfl ?_
  refine e_iconst (k := 96) (xi181 96) ?_
  refine e_iadd (w := 2) (k := 97) (xi181 97) (by decide) ?_
  refine e_sld (w := s2) (k := 98) (xi181 98) ⟨by omega, by rw [(x_rown.trans ((hK _ _ (Or.inl (by omega))).trans hL))]; omega⟩ (x_rown.trans ((hK _ _ (Or.inl (by omega))).trans h2)) ?_
  refine e_callR (k := 99) (c1 := (B1 + 154)) (c2 := (B2 + 1831)) (rest := [.inl ((-1))]) (as := [.inr 162, .inl (s1), .inl (s2)]) (xi181 99) (by decide) xm123 rfl ⟨rfl, Nat.le_of_ble_eq_true rfl, by decide⟩ (Or.inr (x_okt (ok_mo hS2))) (x_GVo (g_next (M := M2) hS2 a0 a1 a2 a3 s1 s2)) ?_
  rintro v h1 ⟨z3, P3, M3, hq, hK3⟩
  cases hq
  refine e_c_eq (k := 100) (xi181 100) (fun _ => l_tail ((hK3 _).trans ((hK _ _ (Or.inl (by omega))).trans hL))) (fun q => absurd rfl q)
set_option maxRecDepth 100000 in
theorem l_c3 {P M : Int → Int → Int} {B1 B2 : Nat} {s1 s2 s3 s4 : Int} (hS : x_Sh 170 P) (hI : ∀ k, P 155 k = -1) (hF : x_F0 M) (hN : M (3 + 7 * 0) 0 = 0) (hZ : x_TZ 1 M) (hA : ∀ i, M 163 i = a_F 144 i) (hM : ∀ k, M 162 k = 0) (hH : ∀ k, M 164 k = 0) (hL : M (-2) (-1) = 5) (h1 : M (-2) 1 = s1) (h2 : M (-2) 2 = s2) (h3 : M (-2) 3 = s3) (h4 : M (-2) 4 = s4) : x_Ev 181 103 [.inr (-2), .inr 0, .inr 162, .inl 0] [] (B1 + 154, B2 + 1831) (170, P, M) x_R1 := by
  refine e_aload (k := 103) (xi181 103) rfl (by omega) ?_
  refine e_aload (k := 104) (xi181 104) rfl (by omega) ?_
  refine e_iload (k := 105) (xi181 105) rfl ?_
  refine e_iconst (k := 106) (xi181 106) ?_
  refine e_iadd (w := 1) (k := 107) (xi181 107) (by decide) ?_
  refine e_sld (w := s1) (k := 108) (xi181 108) ⟨by omega, by rw [hL]; omega⟩ h1 ?_
  refine e_aload (k := 109) (xi181 109) rfl (by omega) ?_
  refine e_iload (k := 110) (xi181 110) rfl ?_
  refine e_iconst (k := 111) (xi181 111) ?_
  refine e_iadd (w := 2) (k := 112) (xi181 112) (by decide) ?_
  refine e_sld (w := s2) (k := 113) (xi181 113) ⟨by omega, by rw [hL]; omega⟩ h2 ?_
  refine e_callR (k := 114) (c1 := (B1 + 154)) (c2 := (B2 + 1831)) (rest := []) (as := [.inr 0, .inl (s1), .inl (s2)]) (xi181 114) (by decide) xm81 rfl ⟨rfl, Nat.le_of_ble_eq_true rfl, by decide⟩ (Or.inr (x_okt (ok_WS hS))) (x_FKo hS (f_tear hS hF s1 s2)) ?_
  rintro v h1 ⟨z2, P2, M2, hq, hS2, hK⟩
  cases hq
  have a0 : M2 163 0 = 0 := ((hK 163 0 (by omega)).trans (hA 0)).trans (if_neg (by omega))
  have a1 : M2 163 1 = 0 := ((hK 163 1 (by omega)).trans (hA 1)).trans (if_neg (by omega))
  have a2 : M2 163 2 = 0 := ((hK 163 2 (by omega)).trans (hA 2)).trans (if_neg (by omega))
  have a3 : M2 163 3 = 0 := ((hK 163 3 (by omega)).trans (hA 3)).trans (if_neg (by omega))
  show x_Ev 181 115 [.inr (-2), .inr 0, .inr 162, .inl 0] [.inl 0] ((B1 + 154), (B2 + 1831)) (z2, P2, M2) _
  rw [x_row_self M2 163]
  refine e_aload (k := 115) (xi181 115) rfl (by omega) ?_
  refine e_aload (k := 116) (xi181 116) rfl (by omega) ?_
  refine e_iload (k := 117) (xi181 117) rfl ?_
  refine e_iconst (k := 118) (xi181 118) ?_
  refine e_iadd (w := 1) (k := 119) (xi181 119) (by decide) ?_
  refine e_sld (w := s1) (k := 120) (xi181 120) ⟨by omega, by rw [(x_rown.trans ((hK _ _ (Or.inl (by omega))).trans hL))]; omega⟩ (x_rown.trans ((hK _ _ (Or.inl (by omega))).trans h1)) ?_
  refine e_aload (k := 121) (xi181 121) rfl (by omega) ?_
  refine e_iload (k := 122) (xi181 122) rfl ?_
  refine e_iconst (k := 123) (xi181 123) ?_
  refine e_iadd (w := 2) (k := 124) (xi181 124) (by decide) ?_
  refine e_sld (w := s2) (k := 125) (xi181 125) ⟨by omega, by rw [(x_rown.trans ((hK _ _ (Or.inl (by omega))).trans hL))]; omega⟩ (x_rown.trans ((hK _ _ (Or.inl (by omega))).trans h2)) ?_
  refine e_callR (k := 126) (c1 := (B1 + 154)) (c2 := (B2 + 1831)) (rest := [.inl 0]) (as := [.inr 162, .inl (s1), .inl (s2)]) (xi181 126) (by decide) xm124 rfl ⟨rfl, Nat.le_of_ble_eq_true rfl, by decide⟩ (Or.inr (x_okt (ok_mo hS2))) (x_GVo (g_tear (M := M2) hS2 a0 a1 a2 a3 s1 s2)) ?_
  rintro v h1 ⟨z3, P3, M3, hq, hK3⟩
  cases hq
  refine e_c_eq (k := 127) (xi181 127) (fun _ => l_tail ((hK3 _).trans ((hK _ _ (Or.inl (by omega))).trans hL))) (fun q => absurd rfl q)
set_option maxRecDepth 100000 in
theorem l_c4 {P M : Int → Int → Int} {B1 B2 : Nat} {s1 s2 s3 s4 : Int} (hS : x_Sh 170 P) (hI : ∀ k, P 155 k = -1) (hF : x_F0 M) (hN : M (3 + 7 * 0) 0 = 0) (hZ : x_TZ 1 M) (hA : ∀ i, M 163 i = a_F 144 i) (hM : ∀ k, M 162 k = 0) (hH : ∀ k, M 164 k = 0) (hL : M (-2) (-1) = 5) (h1 : M (-2) 1 = s1) (h2 : M (-2) 2 = s2) (h3 : M (-2) 3 = s3) (h4 : M (-2) 4 = s4) : x_Ev 181 130 [.inr (-2), .inr 0, .inr 162, .inl 0] [] (B1 + 154, B2 + 1831) (170, P, M) x_R1 := by
  refine e_aload (k := 130) (xi181 130) rfl (by omega) ?_
  refine e_aload (k := 131) (xi181 131) rfl (by omega) ?_
  refine e_iload (k := 132) (xi181 132) rfl ?_
  refine e_iconst (k := 133) (xi181 133) ?_
  refine e_iadd (w := 1) (k := 134) (xi181 134) (by decide) ?_
  refine e_sld (w := s1) (k := 135) (xi181 135) ⟨by omega, by rw [hL]; omega⟩ h1 ?_
  refine e_aload (k := 136) (xi181 136) rfl (by omega) ?_
  refine e_iload (k := 137) (xi181 137) rfl ?_
  refine e_iconst (k := 138) (xi181 138) ?_
  refine e_iadd (w := 2) (k := 139) (xi181 139) (by decide) ?_
  refine e_sld (w := s2) (k := 140) (xi181 140) ⟨by omega, by rw [hL]; omega⟩ h2 ?_
  refine e_aload (k := 141) (xi181 141) rfl (by omega) ?_
  refine e_iload (k := 142) (xi181 142) rfl ?_
  refine e_iconst (k := 143) (xi181 143) ?_
  refine e_iadd (w := 3) (k := 144) (xi181 144) (by decide) ?_
  refine e_sld (w := s3) (k := 145) (xi181 145) ⟨by omega, by rw [hL]; omega⟩ h3 ?_
  refine e_z_eq (k := 146) (xi181 146) (fun c0 => ?_) (fun c0 => ?_)
  · skip
    refine e_iconst (k := 149) (xi181 149) ?_
    refine e_callR (k := 150) (c1 := (B1 + 154)) (c2 := (B2 + 1831)) (rest := []) (as := [.inr 0, .inl (s1), .inl (s2), .inl 0]) (xi181 150) (by decide) xm82 rfl ⟨rfl, Nat.le_of_ble_eq_true rfl, by decide⟩ (Or.inr (x_okt (ok_WS hS))) (x_FKo hS (f_block hS hF s1 s2 0)) ?_
    rintro v h1 ⟨z2, P2, M2, hq, hS2, hK⟩
    cases hq
    have a0 : M2 163 0 = 0 := ((hK 163 0 (by omega)).trans (hA 0)).trans (if_neg (by omega))
    have a1 : M2 163 1 = 0 := ((hK 163 1 (by omega)).trans (hA 1)).trans (if_neg (by omega))
    have a2 : M2 163 2 = 0 := ((hK 163 2 (by omega)).trans (hA 2)).trans (if_neg (by omega))
    have a3 : M2 163 3 = 0 := ((hK 163 3 (by omega)).trans (hA 3)).trans (if_neg (by omega))
    show x_Ev 181 151 [.inr (-2), .inr 0, .inr 162, .inl 0] [.inl 0] ((B1 + 154), (B2 + 1831)) (z2, P2, M2) _
    rw [x_row_self M2 163]
    refine e_aload (k := 151) (xi181 151) rfl (by omega) ?_
    refine e_aload (k := 152) (xi181 152) rfl (by omega) ?_
    refine e_iload (k := 153) (xi181 153) rfl ?_
    refine e_iconst (k := 154) (xi181 154) ?_
    refine e_iadd (w := 1) (k := 155) (xi181 155) (by decide) ?_
    refine e_sld (w := s1) (k := 156) (xi181 156) ⟨by omega, by rw [(x_rown.trans ((hK _ _ (Or.inl (by omega))).trans hL))]; omega⟩ (x_rown.trans ((hK _ _ (Or.inl (by omega))).trans h1)) ?_
    refine e_aload (k := 157) (xi181 157) rfl (by omega) ?_
    refine e_iload (k := 158) (xi181 158) rfl ?_
    refine e_iconst (k := 159) (xi181 159) ?_
    refine e_iadd (w := 2) (k := 160) (xi181 160) (by decide) ?_
    refine e_sld (w := s2) (k := 161) (xi181 161) ⟨by omega, by rw [(x_rown.trans ((hK _ _ (Or.inl (by omega))).trans hL))]; omega⟩ (x_rown.trans ((hK _ _ (Or.inl (by omega))).trans h2)) ?_
    refine e_aload (k := 162) (xi181 162) rfl (by omega) ?_
    refine e_iload (k := 163) (xi181 163) rfl ?_
    refine e_iconst (k := 164) (xi181 164) ?_
    refine e_iadd (w := 3) (k := 165) (xi181 165) (by decide) ?_
    refine e_sld (w := s3) (k := 166) (xi181 166) ⟨by omega, by rw [(x_rown.trans ((hK _ _ (Or.inl (by omega))).trans hL))]; omega⟩ (x_rown.trans ((hK _ _ (Or.inl (by omega))).trans h3)) ?_
    refine e_z_eq (k := 167) (xi181 167) (fun _ => ?_) (fun q => absurd c0 q)
    refine e_iconst (k := 170) (xi181 170) ?_
    refine e_callR (k := 171) (c1 := (B1 + 154)) (c2 := (B2 + 1831)) (rest := [.inl 0]) (as := [.inr 162, .inl (s1), .inl (s2), .inl 0]) (xi181 171) (by decide) xm126 rfl ⟨rfl, Nat.le_of_ble_eq_true rfl, by decide⟩ (Or.inr (x_okt (ok_mo hS2))) (x_GVo (g_block (M := M2) hS2 a0 a1 a2 a3 s1 s2 0)) ?_
    rintro v h1 ⟨z3, P3, M3, hq, hK3⟩
    cases hq
    refine e_c_eq (k := 172) (xi181 172) (fun _ => l_tail ((hK3 _).trans ((hK _ _ (Or.inl (by omega))).trans hL))) (fun q => absurd rfl q)
  · skip
    refine e_iconst (k := 147) (xi181 147) ?_
    refine e_goto (k := 148) (xi181 148) ?_
    refine e_callR (k := 150) (c1 := (B1 + 154)) (c2 := (B2 + 1831)) (rest := []) (as := [.inr 0, .inl (s1), .inl (s2), .inl 1]) (xi181 150) (by decide) xm82 rfl ⟨rfl, Nat.le_of_ble_eq_true rfl, by decide⟩ (Or.inr (x_okt (ok_WS hS))) (x_FKo hS (f_block hS hF s1 s2 1)) ?_
    rintro v h1 ⟨z2, P2, M2, hq, hS2, hK⟩
    cases hq
    have a0 : M2 163 0 = 0 := ((hK 163 0 (by omega)).trans (hA 0)).trans (if_neg (by omega))
    have a1 : M2 163 1 = 0 := ((hK 163 1 (by omega)).trans (hA 1)).trans (if_neg (by omega))
    have a2 : M2 163 2 = 0 := ((hK 163 2 (by omega)).trans (hA 2)).trans (if_neg (by omega))
    have a3 : M2 163 3 = 0 := ((hK 163 3 (by omega)).trans (hA 3)).trans (if_neg (by omega))
    show x_Ev 181 151 [.inr (-2), .inr 0, .inr 162, .inl 0] [.inl 0] ((B1 + 154), (B2 + 1831)) (z2, P2, M2) _
    rw [x_row_self M2 163]
    refine e_aload (k := 151) (xi181 151) rfl (by omega) ?_
    refine e_aload (k := 152) (xi181 152) rfl (by omega) ?_
    refine e_iload (k := 153) (xi181 153) rfl ?_
    refine e_iconst (k := 154) (xi181 154) ?_
    refine e_iadd (w := 1) (k := 155) (xi181 155) (by decide) ?_
    refine e_sld (w := s1) (k := 156) (xi181 156) ⟨by omega, by rw [(x_rown.trans ((hK _ _ (Or.inl (by omega))).trans hL))]; omega⟩ (x_rown.trans ((hK _ _ (Or.inl (by omega))).trans h1)) ?_
    refine e_aload (k := 157) (xi181 157) rfl (by omega) ?_
    refine e_iload (k := 158) (xi181 158) rfl ?_
    refine e_iconst (k := 159) (xi181 159) ?_
    refine e_iadd (w := 2) (k := 160) (xi181 160) (by decide) ?_
    refine e_sld (w := s2) (k := 161) (xi181 161) ⟨by omega, by rw [(x_rown.trans ((hK _ _ (Or.inl (by omega))).trans hL))]; omega⟩ (x_rown.trans ((hK _ _ (Or.inl (by omega))).trans h2)) ?_
    refine e_aload (k := 162) (xi181 162) rfl (by omega) ?_
    refine e_iload (k := 163) (xi181 163) rfl ?_
    refine e_iconst (k := 164) (xi181 164) ?_
    refine e_iadd (w := 3) (k := 165) (xi181 165) (by decide) ?_
    refine e_sld (w := s3) (k := 166) (xi181 166) ⟨by omega, by rw [(x_rown.trans ((hK _ _ (Or.inl (by omega))).trans hL))]; omega⟩ (x_rown.trans ((hK _ _ (Or.inl (by omega))).trans h3)) ?_
    refine e_z_eq (k := 167) (xi181 167) (fun q => absurd q c0) (fun _ => ?_)
    refine e_iconst (k := 168) (xi181 168) ?_
    refine e_goto (k := 169) (xi181 169) ?_
    refine e_callR (k := 171) (c1 := (B1 + 154)) (c2 := (B2 + 1831)) (rest := [.inl 0]) (as := [.inr 162, .inl (s1), .inl (s2), .inl 1]) (xi181 171) (by decide) xm126 rfl ⟨rfl, Nat.le_of_ble_eq_true rfl, by decide⟩ (Or.inr (x_okt (ok_mo hS2))) (x_GVo (g_block (M := M2) hS2 a0 a1 a2 a3 s1 s2 1)) ?_
    rintro v h1 ⟨z3, P3, M3, hq, hK3⟩
    cases hq
    refine e_c_eq (k := 172) (xi181 172) (fun _ => l_tail ((hK3 _).trans ((hK _ _ (Or.inl (by omega))).trans hL))) (fun q => absurd rfl q)
set_option maxRecDepth 100000 in
theorem l_c5 {P M : Int → Int → Int} {B1 B2 : Nat} {s1 s2 s3 s4 : Int} (hS : x_Sh 170 P) (hI : ∀ k, P 155 k = -1) (hF : x_F0 M) (hN : M (3 + 7 * 0) 0 = 0) (hZ : x_TZ 1 M) (hA : ∀ i, M 163 i = a_F 144 i) (hM : ∀ k, M 162 k = 0) (hH : ∀ k, M 164 k = 0) (hL : M (-2) (-1) = 5) (h1 : M (-2) 1 = s1) (h2 : M (-2) 2 = s2) (h3 : M (-2) 3 = s3) (h4 : M (-2) 4 = s4) : x_Ev 181 175 [.inr (-2), .inr 0, .inr 162, .inl 0] [] (B1 + 154, B2 + 1831) (170, P, M) x_R1 := by
  refine e_aload (k := 175) (xi181 175) rfl (by omega) ?_
  refine e_aload (k := 176) (xi181 176) rfl (by omega) ?_
  refine e_iload (k := 177) (xi181 177) rfl ?_
  refine e_iconst (k := 178) (xi181 178) ?_
  refine e_iadd (w := 1) (k := 179) (xi181 179) (by decide) ?_
  refine e_sld (w := s1) (k := 180) (xi181 180) ⟨by omega, by rw [hL]; omega⟩ h1 ?_
  refine e_aload (k := 181) (xi181 181) rfl (by omega) ?_
  refine e_iload (k := 182) (xi181 182) rfl ?_
  refine e_iconst (k := 183) (xi181 183) ?_
  refine e_iadd (w := 2) (k := 184) (xi181 184) (by decide) ?_
  refine e_sld (w := s2) (k := 185) (xi181 185) ⟨by omega, by rw [hL]; omega⟩ h2 ?_
  refine e_callR (k := 186) (c1 := (B1 + 154)) (c2 := (B2 + 1831)) (rest := []) (as := [.inr 0, .inl (s1), .inl (s2)]) (xi181 186) (by decide) xm83 rfl ⟨rfl, Nat.le_of_ble_eq_true rfl, by decide⟩ (Or.inr (x_okt (ok_WS hS))) (x_FKo hS (f_dock hS hF s1 s2)) ?_
  rintro v h1 ⟨z2, P2, M2, hq, hS2, hK⟩
  cases hq
  have a0 : M2 163 0 = 0 := ((hK 163 0 (by omega)).trans (hA 0)).trans (if_neg (by omega))
  have a1 : M2 163 1 = 0 := ((hK 163 1 (by omega)).trans (hA 1)).trans (if_neg (by omega))
  have a2 : M2 163 2 = 0 := ((hK 163 2 (by omega)).trans (hA 2)).trans (if_neg (by omega))
  have a3 : M2 163 3 = 0 := ((hK 163 3 (by omega)).trans (hA 3)).trans (if_neg (by omega))
  show x_Ev 181 187 [.inr (-2), .inr 0, .inr 162, .inl 0] [.inl ((-3))] ((B1 + 154), (B2 + 1831)) (z2, P2, M2) _
  rw [x_row_self M2 163]
  refine e_aload (k := 187) (xi181 187) rfl (by omega) ?_
  refine e_aload (k := 188) (xi181 188) rfl (by omega) ?_
  refine e_iload (k := 189) (xi181 189) rfl ?_
  refine e_iconst (k := 190) (xi181 190) ?_
  refine e_iadd (w := 1) (k := 191) (xi181 191) (by decide) ?_
  refine e_sld (w := s1) (k := 192) (xi181 192) ⟨by omega, by rw [(x_rown.trans ((hK _ _ (Or.inl (by omega))).trans hL))]; omega⟩ (x_rown.trans ((hK _ _ (Or.inl (by omega))).trans h1)) ?_
  refine e_aload (k := 193) (xi181 193) rfl (by omega) ?_
  refine e_iload (k := 194) (xi181 194) rfl ?_
  refine e_iconst (k := 195) (xi181 195) ?_
  refine e_iadd (w := 2) (k := 196) (xi181 196) (by decide) ?_
  refine e_sld (w := s2) (k := 197) (xi181 197) ⟨by omega, by rw [(x_rown.trans ((hK _ _ (Or.inl (by omega))).trans hL))]; omega⟩ (x_rown.trans ((hK _ _ (Or.inl (by omega))).trans h2)) ?_
  refine e_callR (k := 198) (c1 := (B1 + 154)) (c2 := (B2 + 1831)) (rest := [.inl ((-3))]) (as := [.inr 162, .inl (s1), .inl (s2)]) (xi181 198) (by decide) xm127 rfl ⟨rfl, Nat.le_of_ble_eq_true rfl, by decide⟩ (Or.inr (x_okt (ok_mo hS2))) (x_GVo (g_dock (M := M2) hS2 a0 a1 a2 a3 s1 s2)) ?_
  rintro v h1 ⟨z3, P3, M3, hq, hK3⟩
  cases hq
  refine e_c_eq (k := 199) (xi181 199) (fun _ => l_tail ((hK3 _).trans ((hK _ _ (Or.inl (by omega))).trans hL))) (fun q => absurd rfl q)
set_option maxRecDepth 100000 in
theorem l_c6 {P M : Int → Int → Int} {B1 B2 : Nat} {s1 s2 s3 s4 : Int} (hS : x_Sh 170 P) (hI : ∀ k, P 155 k = -1) (hF : x_F0 M) (hN : M (3 + 7 * 0) 0 = 0) (hZ : x_TZ 1 M) (hA : ∀ i, M 163 i = a_F 144 i) (hM : ∀ k, M 162 k = 0) (hH : ∀ k, M 164 k = 0) (hL : M (-2) (-1) = 5) (h1 : M (-2) 1 = s1) (h2 : M (-2) 2 = s2) (h3 : M (-2) 3 = s3) (h4 : M (-2) 4 = s4) : x_Ev 181 202 [.inr (-2), .inr 0, .inr 162, .inl 0] [] (B1 + 154, B2 + 1831) (170, P, M) x_R1 := by
  refine e_aload (k := 202) (xi181 202) rfl (by omega) ?_
  refine e_aload (k := 203) (xi181 203) rfl (by omega) ?_
  refine e_iload (k := 204) (xi181 204) rfl ?_
  refine e_iconst (k := 205) (xi181 205) ?_
  refine e_iadd (w := 1) (k := 206) (xi181 206) (by decide) ?_
  refine e_sld (w := s1) (k := 207) (xi181 207) ⟨by omega, by rw [hL]; omega⟩ h1 ?_
  refine e_aload (k := 208) (xi181 208) rfl (by omega) ?_
  refine e_iload (k := 209) (xi181 209) rfl ?_
  refine e_iconst (k := 210) (xi181 210) ?_
  refine e_iadd (w := 2) (k := 211) (xi181 211) (by decide) ?_
  refine e_sld (w := s2) (k := 212) (xi181 212) ⟨by omega, by rw [hL]; omega⟩ h2 ?_
  refine e_callR (k := 213) (c1 := (B1 + 154)) (c2 := (B2 + 1831)) (rest := []) (as := [.inr 0, .inl (s1), .inl (s2)]) (xi181 213) (by decide) xm84 rfl ⟨rfl, Nat.le_of_ble_eq_true rfl, by decide⟩ (Or.inr (x_okt (ok_WS hS))) (x_FKo hS (f_tell hS hF s1 s2)) ?_
  rintro v h1 ⟨z2, P2, M2, hq, hS2, hK⟩
  cases hq
  have a0 : M2 163 0 = 0 := ((hK 163 0 (by omega)).trans (hA 0)).trans (if_neg (by omega))
  have a1 : M2 163 1 = 0 := ((hK 163 1 (by omega)).trans (hA 1)).trans (if_neg (by omega))
  have a2 : M2 163 2 = 0 := ((hK 163 2 (by omega)).trans (hA 2)).trans (if_neg (by omega))
  have a3 : M2 163 3 = 0 := ((hK 163 3 (by omega)).trans (hA 3)).trans (if_neg (by omega))
  show x_Ev 181 214 [.inr (-2), .inr 0, .inr 162, .inl 0] [.inl ((-3))] ((B1 + 154), (B2 + 1831)) (z2, P2, M2) _
  rw [x_row_self M2 163]
  refine e_aload (k := 214) (xi181 214) rfl (by omega) ?_
  refine e_aload (k := 215) (xi181 215) rfl (by omega) ?_
  refine e_iload (k := 216) (xi181 216) rfl ?_
  refine e_iconst (k := 217) (xi181 217) ?_
  refine e_iadd (w := 1) (k := 218) (xi181 218) (by decide) ?_
  refine e_sld (w := s1) (k := 219) (xi181 219) ⟨by omega, by rw [(x_rown.trans ((hK _ _ (Or.inl (by omega))).trans hL))]; omega⟩ (x_rown.trans ((hK _ _ (Or.inl (by omega))).trans h1)) ?_
  refine e_aload (k := 220) (xi181 220) rfl (by omega) ?_
  refine e_iload (k := 221) (xi181 221) rfl ?_
  refine e_iconst (k := 222) (xi181 222) ?_
  refine e_iadd (w := 2) (k := 223) (xi181 223) (by decide) ?_
  refine e_sld (w := s2) (k := 224) (xi181 224) ⟨by omega, by rw [(x_rown.trans ((hK _ _ (Or.inl (by omega))).trans hL))]; omega⟩ (x_rown.trans ((hK _ _ (Or.inl (by omega))).trans h2)) ?_
  refine e_callR (k := 225) (c1 := (B1 + 154)) (c2 := (B2 + 1831)) (rest := [.inl ((-3))]) (as := [.inr 162, .inl (s1), .inl (s2)]) (xi181 225) (by decide) xm132 rfl ⟨rfl, Nat.le_of_ble_eq_true rfl, by decide⟩ (Or.inr (x_okt (ok_mo hS2))) (x_GVo (g_tell (M := M2) hS2 a0 a1 a2 a3 s1 s2)) ?_
  rintro v h1 ⟨z3, P3, M3, hq, hK3⟩
  cases hq
  refine e_c_eq (k := 226) (xi181 226) (fun _ => l_tail ((hK3 _).trans ((hK _ _ (Or.inl (by omega))).trans hL))) (fun q => absurd rfl q)
set_option maxRecDepth 100000 in
theorem l_c7 {P M : Int → Int → Int} {B1 B2 : Nat} {s1 s2 s3 s4 : Int} (hS : x_Sh 170 P) (hI : ∀ k, P 155 k = -1) (hF : x_F0 M) (hN : M (3 + 7 * 0) 0 = 0) (hZ : x_TZ 1 M) (hA : ∀ i, M 163 i = a_F 144 i) (hM : ∀ k, M 162 k = 0) (hH : ∀ k, M 164 k = 0) (hL : M (-2) (-1) = 5) (h1 : M (-2) 1 = s1) (h2 : M (-2) 2 = s2) (h3 : M (-2) 3 = s3) (h4 : M (-2) 4 = s4) : x_Ev 181 229 [.inr (-2), .inr 0, .inr 162, .inl 0] [] (B1 + 154, B2 + 1831) (170, P, M) x_R1 := by
  refine e_aload (k := 229) (xi181 229) rfl (by omega) ?_
  refine e_aload (k := 230) (xi181 230) rfl (by omega) ?_
  refine e_iload (k := 231) (xi181 231) rfl ?_
  refine e_iconst (k := 232) (xi181 232) ?_
  refine e_iadd (w := 1) (k := 233) (xi181 233) (by decide) ?_
  refine e_sld (w := s1) (k := 234) (xi181 234) ⟨by omega, by rw [hL]; omega⟩ h1 ?_
  refine e_aload (k := 235) (xi181 235) rfl (by omega) ?_
  refine e_iload (k := 236) (xi181 236) rfl ?_
  refine e_iconst (k := 237) (xi181 237) ?_
  refine e_iadd (w := 2) (k := 238) (xi181 238) (by decide) ?_
  refine e_sld (w := s2) (k := 239) (xi181 239) ⟨by omega, by rw [hL]; omega⟩ h2 ?_
  refine e_aload (k := 240) (xi181 240) rfl (by omega) ?_
  refine e_iload (k := 241) (xi181 241) rfl ?_
  refine e_iconst (k := 242) (xi181 242) ?_
  refine e_iadd (w := 3) (k := 243) (xi181 243) (by decide) ?_
  refine e_sld (w := s3) (k := 244) (xi181 244) ⟨by omega, by rw [hL]; omega⟩ h3 ?_
  refine e_callR (k := 245) (c1 := (B1 + 154)) (c2 := (B2 + 1831)) (rest := []) (as := [.inr 0, .inl (s1), .inl (s2), .inl (s3)]) (xi181 245) (by decide) xm85 rfl ⟨rfl, Nat.le_of_ble_eq_true rfl, by decide⟩ (Or.inr (x_okt (ok_WS hS))) (x_FKo hS (f_put hS hF s1 s2 s3)) ?_
  rintro v h1 ⟨z2, P2, M2, hq, hS2, hK⟩
  cases hq
  have a0 : M2 163 0 = 0 := ((hK 163 0 (by omega)).trans (hA 0)).trans (if_neg (by omega))
  have a1 : M2 163 1 = 0 := ((hK 163 1 (by omega)).trans (hA 1)).trans (if_neg (by omega))
  have a2 : M2 163 2 = 0 := ((hK 163 2 (by omega)).trans (hA 2)).trans (if_neg (by omega))
  have a3 : M2 163 3 = 0 := ((hK 163 3 (by omega)).trans (hA 3)).trans (if_neg (by omega))
  show x_Ev 181 246 [.inr (-2), .inr 0, .inr 162, .inl 0] [.inl ((-1))] ((B1 + 154), (B2 + 1831)) (z2, P2, M2) _
  rw [x_row_self M2 163]
  refine e_aload (k := 246) (xi181 246) rfl (by omega) ?_
  refine e_aload (k := 247) (xi181 247) rfl (by omega) ?_
  refine e_iload (k := 248) (xi181 248) rfl ?_
  refine e_iconst (k := 249) (xi181 249) ?_
  refine e_iadd (w := 1) (k := 250) (xi181 250) (by decide) ?_
  refine e_sld (w := s1) (k := 251) (xi181 251) ⟨by omega, by rw [(x_rown.trans ((hK _ _ (Or.inl (by omega))).trans hL))]; omega⟩ (x_rown.trans ((hK _ _ (Or.inl (by omega))).trans h1)) ?_
  refine e_aload (k := 252) (xi181 252) rfl (by omega) ?_
  refine e_iload (k := 253) (xi181 253) rfl ?_
  refine e_iconst (k := 254) (xi181 254) ?_
  refine e_iadd (w := 2) (k := 255) (xi181 255) (by decide) ?_
  refine e_sld (w := s2) (k := 256) (xi181 256) ⟨by omega, by rw [(x_rown.trans ((hK _ _ (Or.inl (by omega))).trans hL))]; omega⟩ (x_rown.trans ((hK _ _ (Or.inl (by omega))).trans h2)) ?_
  refine e_aload (k := 257) (xi181 257) rfl (by omega) ?_
  refine e_iload (k := 258) (xi181 258) rfl ?_
  refine e_iconst (k := 259) (xi181 259) ?_
  refine e_iadd (w := 3) (k := 260) (xi181 260) (by decide) ?_
  refine e_sld (w := s3) (k := 261) (xi181 261) ⟨by omega, by rw [(x_rown.trans ((hK _ _ (Or.inl (by omega))).trans hL))]; omega⟩ (x_rown.trans ((hK _ _ (Or.inl (by omega))).trans h3)) ?_
  refine e_callR (k := 262) (c1 := (B1 + 154)) (c2 := (B2 + 1831)) (rest := [.inl ((-1))]) (as := [.inr 162, .inl (s1), .inl (s2), .inl (s3)]) (xi181 262) (by decide) xm139 rfl ⟨rfl, Nat.le_of_ble_eq_true rfl, by decide⟩ (Or.inr (x_okt (ok_mo hS2))) (x_GVo (g_put (M := M2) hS2 a0 a1 a2 a3 s1 s2 s3)) ?_
  rintro v h1 ⟨z3, P3, M3, hq, hK3⟩
  cases hq
  refine e_c_eq (k := 263) (xi181 263) (fun _ => l_tail ((hK3 _).trans ((hK _ _ (Or.inl (by omega))).trans hL))) (fun q => absurd rfl q)
set_option maxRecDepth 100000 in
theorem l_c8 {P M : Int → Int → Int} {B1 B2 : Nat} {s1 s2 s3 s4 : Int} (hS : x_Sh 170 P) (hI : ∀ k, P 155 k = -1) (hF : x_F0 M) (hN : M (3 + 7 * 0) 0 = 0) (hZ : x_TZ 1 M) (hA : ∀ i, M 163 i = a_F 144 i) (hM : ∀ k, M 162 k = 0) (hH : ∀ k, M 164 k = 0) (hL : M (-2) (-1) = 5) (h1 : M (-2) 1 = s1) (h2 : M (-2) 2 = s2) (h3 : M (-2) 3 = s3) (h4 : M (-2) 4 = s4) : x_Ev 181 266 [.inr (-2), .inr 0, .inr 162, .inl 0] [] (B1 + 154, B2 + 1831) (170, P, M) x_R1 := by
  refine e_aload (k := 266) (xi181 266) rfl (by omega) ?_
  refine e_aload (k := 267) (xi181 267) rfl (by omega) ?_
  refine e_iload (k := 268) (xi181 268) rfl ?_
  refine e_iconst (k := 269) (xi181 269) ?_
  refine e_iadd (w := 1) (k := 270) (xi181 270) (by decide) ?_
  refine e_sld (w := s1) (k := 271) (xi181 271) ⟨by omega, by rw [hL]; omega⟩ h1 ?_
  refine e_aload (k := 272) (xi181 272) rfl (by omega) ?_
  refine e_iload (k := 273) (xi181 273) rfl ?_
  refine e_iconst (k := 274) (xi181 274) ?_
  refine e_iadd (w := 2) (k := 275) (xi181 275) (by decide) ?_
  refine e_sld (w := s2) (k := 276) (xi181 276) ⟨by omega, by rw [hL]; omega⟩ h2 ?_
  refine e_callR (k := 277) (c1 := (B1 + 154)) (c2 := (B2 + 1831)) (rest := []) (as := [.inr 0, .inl (s1), .inl (s2)]) (xi181 277) (by decide) xm86 rfl ⟨rfl, Nat.le_of_ble_eq_true rfl, by decide⟩ (Or.inr (x_okt (ok_WS hS))) (x_FKo hS (f_charge hS hF s1 s2)) ?_
  rintro v h1 ⟨z2, P2, M2, hq, hS2, hK⟩
  cases hq
  have a0 : M2 163 0 = 0 := ((hK 163 0 (by omega)).trans (hA 0)).trans (if_neg (by omega))
  have a1 : M2 163 1 = 0 := ((hK 163 1 (by omega)).trans (hA 1)).trans (if_neg (by omega))
  have a2 : M2 163 2 = 0 := ((hK 163 2 (by omega)).trans (hA 2)).trans (if_neg (by omega))
  have a3 : M2 163 3 = 0 := ((hK 163 3 (by omega)).trans (hA 3)).trans (if_neg (by omega))
  show x_Ev 181 278 [.inr (-2), .inr 0, .inr 162, .inl 0] [.inl ((-1))] ((B1 + 154), (B2 + 1831)) (z2, P2, M2) _
  rw [x_row_self M2 163]
  refine e_aload (k := 278) (xi181 278) rfl (by omega) ?_
  refine e_aload (k := 279) (xi181 279) rfl (by omega) ?_
  refine e_iload (k := 280) (xi181 280) rfl ?_
  refine e_iconst (k := 281) (xi181 281) ?_
  refine e_iadd (w := 1) (k := 282) (xi181 282) (by decide) ?_
  refine e_sld (w := s1) (k := 283) (xi181 283) ⟨by omega, by rw [(x_rown.trans ((hK _ _ (Or.inl (by omega))).trans hL))]; omega⟩ (x_rown.trans ((hK _ _ (Or.inl (by omega))).trans h1)) ?_
  refine e_aload (k := 284) (xi181 284) rfl (by omega) ?_
  refine e_iload (k := 285) (xi181 285) rfl ?_
  refine e_iconst (k := 286) (xi181 286) ?_
  refine e_iadd (w := 2) (k := 287) (xi181 287) (by decide) ?_
  refine e_sld (w := s2) (k := 288) (xi181 288) ⟨by omega, by rw [(x_rown.trans ((hK _ _ (Or.inl (by omega))).trans hL))]; omega⟩ (x_rown.trans ((hK _ _ (Or.inl (by omega))).trans h2)) ?_
  refine e_callR (k := 289) (c1 := (B1 + 154)) (c2 := (B2 + 1831)) (rest := [.inl ((-1))]) (as := [.inr 162, .inl (s1), .inl (s2)]) (xi181 289) (by decide) xm141 rfl ⟨rfl, Nat.le_of_ble_eq_true rfl, by decide⟩ (Or.inr (x_okt (ok_mo hS2))) (x_GVo (g_charge (M := M2) hS2 a0 a1 a2 a3 s1 s2)) ?_
  rintro v h1 ⟨z3, P3, M3, hq, hK3⟩
  cases hq
  refine e_c_eq (k := 290) (xi181 290) (fun _ => l_tail ((hK3 _).trans ((hK _ _ (Or.inl (by omega))).trans hL))) (fun q => absurd rfl q)
set_option maxRecDepth 100000 in
theorem l_c9 {P M : Int → Int → Int} {B1 B2 : Nat} {s1 s2 s3 s4 : Int} (hS : x_Sh 170 P) (hI : ∀ k, P 155 k = -1) (hF : x_F0 M) (hN : M (3 + 7 * 0) 0 = 0) (hZ : x_TZ 1 M) (hA : ∀ i, M 163 i = a_F 144 i) (hM : ∀ k, M 162 k = 0) (hH : ∀ k, M 164 k = 0) (hL : M (-2) (-1) = 5) (h1 : M (-2) 1 = s1) (h2 : M (-2) 2 = s2) (h3 : M (-2) 3 = s3) (h4 : M (-2) 4 = s4) : x_Ev 181 293 [.inr (-2), .inr 0, .inr 162, .inl 0] [] (B1 + 154, B2 + 1831) (170, P, M) x_R1 := by
  refine e_aload (k := 293) (xi181 293) rfl (by omega) ?_
  refine e_aload (k := 294) (xi181 294) rfl (by omega) ?_
  refine e_iload (k := 295) (xi181 295) rfl ?_
  refine e_iconst (k := 296) (xi181 296) ?_
  refine e_iadd (w := 1) (k := 297) (xi181 297) (by decide) ?_
  refine e_sld (w := s1) (k := 298) (xi181 298) ⟨by omega, by rw [hL]; omega⟩ h1 ?_
  refine e_aload (k := 299) (xi181 299) rfl (by omega) ?_
  refine e_iload (k := 300) (xi181 300) rfl ?_
  refine e_iconst (k := 301) (xi181 301) ?_
  refine e_iadd (w := 2) (k := 302) (xi181 302) (by decide) ?_
  refine e_sld (w := s2) (k := 303) (xi181 303) ⟨by omega, by rw [hL]; omega⟩ h2 ?_
  refine e_callR (k := 304) (c1 := (B1 + 154)) (c2 := (B2 + 1831)) (rest := []) (as := [.inr 0, .inl (s1), .inl (s2)]) (xi181 304) (by decide) xm87 rfl ⟨rfl, Nat.le_of_ble_eq_true rfl, by decide⟩ (Or.inr (x_okt (ok_WS hS))) (x_FKo hS (f_wheel hS hF s1 s2)) ?_
  rintro v h1 ⟨z2, P2, M2, hq, hS2, hK⟩
  cases hq
  have a0 : M2 163 0 = 0 := ((hK 163 0 (by omega)).trans (hA 0)).trans (if_neg (by omega))
  have a1 : M2 163 1 = 0 := ((hK 163 1 (by omega)).trans (hA 1)).trans (if_neg (by omega))
  have a2 : M2 163 2 = 0 := ((hK 163 2 (by omega)).trans (hA 2)).trans (if_neg (by omega))
  have a3 : M2 163 3 = 0 := ((hK 163 3 (by omega)).trans (hA 3)).trans (if_neg (by omega))
  show x_Ev 181 305 [.inr (-2), .inr 0, .inr 162, .inl 0] [.inl ((-3))] ((B1 + 154), (B2 + 1831)) (z2, P2, M2) _
  rw [x_row_self M2 163]
  refine e_aload (k := 305) (xi181 305) rfl (by omega) ?_
  refine e_aload (k := 306) (xi181 306) rfl (by omega) ?_
  refine e_iload (k := 307) (xi181 307) rfl ?_
  refine e_iconst (k := 308) (xi181 308) ?_
  refine e_iadd (w := 1) (k := 309) (xi181 309) (by decide) ?_
  refine e_sld (w := s1) (k := 310) (xi181 310) ⟨by omega, by rw [(x_rown.trans ((hK _ _ (Or.inl (by omega))).trans hL))]; omega⟩ (x_rown.trans ((hK _ _ (Or.inl (by omega))).trans h1)) ?_
  refine e_aload (k := 311) (xi181 311) rfl (by omega) ?_
  refine e_iload (k := 312) (xi181 312) rfl ?_
  refine e_iconst (k := 313) (xi181 313) ?_
  refine e_iadd (w := 2) (k := 314) (xi181 314) (by decide) ?_
  refine e_sld (w := s2) (k := 315) (xi181 315) ⟨by omega, by rw [(x_rown.trans ((hK _ _ (Or.inl (by omega))).trans hL))]; omega⟩ (x_rown.trans ((hK _ _ (Or.inl (by omega))).trans h2)) ?_
  refine e_callR (k := 316) (c1 := (B1 + 154)) (c2 := (B2 + 1831)) (rest := [.inl ((-3))]) (as := [.inr 162, .inl (s1), .inl (s2)]) (xi181 316) (by decide) xm142 rfl ⟨rfl, Nat.le_of_ble_eq_true rfl, by decide⟩ (Or.inr (x_okt (ok_mo hS2))) (x_GVo (g_wheel (M := M2) hS2 a0 a1 a2 a3 s1 s2)) ?_
  rintro v h1 ⟨z3, P3, M3, hq, hK3⟩
  cases hq
  refine e_c_eq (k := 317) (xi181 317) (fun _ => l_tail ((hK3 _).trans ((hK _ _ (Or.inl (by omega))).trans hL))) (fun q => absurd rfl q)
set_option maxRecDepth 100000 in
theorem l_c10 {P M : Int → Int → Int} {B1 B2 : Nat} {s1 s2 s3 s4 : Int} (hS : x_Sh 170 P) (hI : ∀ k, P 155 k = -1) (hF : x_F0 M) (hN : M (3 + 7 * 0) 0 = 0) (hZ : x_TZ 1 M) (hA : ∀ i, M 163 i = a_F 144 i) (hM : ∀ k, M 162 k = 0) (hH : ∀ k, M 164 k = 0) (hL : M (-2) (-1) = 5) (h1 : M (-2) 1 = s1) (h2 : M (-2) 2 = s2) (h3 : M (-2) 3 = s3) (h4 : M (-2) 4 = s4) : x_Ev 181 320 [.inr (-2), .inr 0, .inr 162, .inl 0] [] (B1 + 154, B2 + 1831) (170, P, M) x_R1 := by
  refine e_aload (k := 320) (xi181 320) rfl (by omega) ?_
  refine e_aload (k := 321) (xi181 321) rfl (by omega) ?_
  refine e_iload (k := 322) (xi181 322) rfl ?_
  refine e_iconst (k := 323) (xi181 323) ?_
  refine e_iadd (w := 1) (k := 324) (xi181 324) (by decide) ?_
  refine e_sld (w := s1) (k := 325) (xi181 325) ⟨by omega, by rw [hL]; omega⟩ h1 ?_
  refine e_callR (k := 326) (c1 := (B1 + 154)) (c2 := (B2 + 1831)) (rest := []) (as := [.inr 0, .inl (s1)]) (xi181 326) (by decide) xm88 rfl ⟨rfl, Nat.le_of_ble_eq_true rfl, by decide⟩ (Or.inr (x_okt (ok_WS hS))) (x_FKo hS (f_fault hS hF s1)) ?_
  rintro v h1 ⟨z2, P2, M2, hq, hS2, hK⟩
  cases hq
  have a0 : M2 163 0 = 0 := ((hK 163 0 (by omega)).trans (hA 0)).trans (if_neg (by omega))
  have a1 : M2 163 1 = 0 := ((hK 163 1 (by omega)).trans (hA 1)).trans (if_neg (by omega))
  have a2 : M2 163 2 = 0 := ((hK 163 2 (by omega)).trans (hA 2)).trans (if_neg (by omega))
  have a3 : M2 163 3 = 0 := ((hK 163 3 (by omega)).trans (hA 3)).trans (if_neg (by omega))
  show x_Ev 181 327 [.inr (-2), .inr 0, .inr 162, .inl 0] [.inl 0] ((B1 + 154), (B2 + 1831)) (z2, P2, M2) _
  rw [x_row_self M2 163]
  refine e_aload (k := 327) (xi181 327) rfl (by omega) ?_
  refine e_aload (k := 328) (xi181 328) rfl (by omega) ?_
  refine e_iload (k := 329) (xi181 329) rfl ?_
  refine e_iconst (k := 330) (xi181 330) ?_
  refine e_iadd (w := 1) (k := 331) (xi181 331) (by decide) ?_
  refine e_sld (w := s1) (k := 332) (xi181 332) ⟨by omega, by rw [(x_rown.trans ((hK _ _ (Or.inl (by omega))).trans hL))]; omega⟩ (x_rown.trans ((hK _ _ (Or.inl (by omega))).trans h1)) ?_
  refine e_callR (k := 333) (c1 := (B1 + 154)) (c2 := (B2 + 1831)) (rest := [.inl 0]) (as := [.inr 162, .inl (s1)]) (xi181 333) (by decide) xm143 rfl ⟨rfl, Nat.le_of_ble_eq_true rfl, by decide⟩ (Or.inr (x_okt (ok_mo hS2))) (x_GVo (g_fault (M := M2) hS2 a0 a1 a2 a3 s1)) ?_
  rintro v h1 ⟨z3, P3, M3, hq, hK3⟩
  cases hq
  refine e_c_eq (k := 334) (xi181 334) (fun _ => l_tail ((hK3 _).trans ((hK _ _ (Or.inl (by omega))).trans hL))) (fun q => absurd rfl q)
set_option maxRecDepth 100000 in
theorem l_c11 {P M : Int → Int → Int} {B1 B2 : Nat} {s1 s2 s3 s4 : Int} (hS : x_Sh 170 P) (hI : ∀ k, P 155 k = -1) (hF : x_F0 M) (hN : M (3 + 7 * 0) 0 = 0) (hZ : x_TZ 1 M) (hA : ∀ i, M 163 i = a_F 144 i) (hM : ∀ k, M 162 k = 0) (hH : ∀ k, M 164 k = 0) (hL : M (-2) (-1) = 5) (h1 : M (-2) 1 = s1) (h2 : M (-2) 2 = s2) (h3 : M (-2) 3 = s3) (h4 : M (-2) 4 = s4) : x_Ev 181 337 [.inr (-2), .inr 0, .inr 162, .inl 0] [] (B1 + 154, B2 + 1831) (170, P, M) x_R1 := by
  refine e_aload (k := 337) (xi181 337) rfl (by omega) ?_
  refine e_aload (k := 338) (xi181 338) rfl (by omega) ?_
  refine e_iload (k := 339) (xi181 339) rfl ?_
  refine e_iconst (k := 340) (xi181 340) ?_
  refine e_iadd (w := 1) (k := 341) (xi181 341) (by decide) ?_
  refine e_sld (w := s1) (k := 342) (xi181 342) ⟨by omega, by rw [hL]; omega⟩ h1 ?_
  refine e_callR (k := 343) (c1 := (B1 + 154)) (c2 := (B2 + 1831)) (rest := []) (as := [.inr 0, .inl (s1)]) (xi181 343) (by decide) xm89 rfl ⟨rfl, Nat.le_of_ble_eq_true rfl, by decide⟩ (Or.inr (x_okt (ok_WS hS))) (x_FKo hS (f_test hS hF s1)) ?_
  rintro v h1 ⟨z2, P2, M2, hq, hS2, hK⟩
  cases hq
  have a0 : M2 163 0 = 0 := ((hK 163 0 (by omega)).trans (hA 0)).trans (if_neg (by omega))
  have a1 : M2 163 1 = 0 := ((hK 163 1 (by omega)).trans (hA 1)).trans (if_neg (by omega))
  have a2 : M2 163 2 = 0 := ((hK 163 2 (by omega)).trans (hA 2)).trans (if_neg (by omega))
  have a3 : M2 163 3 = 0 := ((hK 163 3 (by omega)).trans (hA 3)).trans (if_neg (by omega))
  show x_Ev 181 344 [.inr (-2), .inr 0, .inr 162, .inl 0] [.inl ((-1))] ((B1 + 154), (B2 + 1831)) (z2, P2, M2) _
  rw [x_row_self M2 163]
  refine e_aload (k := 344) (xi181 344) rfl (by omega) ?_
  refine e_aload (k := 345) (xi181 345) rfl (by omega) ?_
  refine e_iload (k := 346) (xi181 346) rfl ?_
  refine e_iconst (k := 347) (xi181 347) ?_
  refine e_iadd (w := 1) (k := 348) (xi181 348) (by decide) ?_
  refine e_sld (w := s1) (k := 349) (xi181 349) ⟨by omega, by rw [(x_rown.trans ((hK _ _ (Or.inl (by omega))).trans hL))]; omega⟩ (x_rown.trans ((hK _ _ (Or.inl (by omega))).trans h1)) ?_
  refine e_callR (k := 350) (c1 := (B1 + 154)) (c2 := (B2 + 1831)) (rest := [.inl ((-1))]) (as := [.inr 162, .inl (s1)]) (xi181 350) (by decide) xm144 rfl ⟨rfl, Nat.le_of_ble_eq_true rfl, by decide⟩ (Or.inr (x_okt (ok_mo hS2))) (x_GVo (g_test (M := M2) hS2 a0 a1 a2 a3 s1)) ?_
  rintro v h1 ⟨z3, P3, M3, hq, hK3⟩
  cases hq
  refine e_c_eq (k := 351) (xi181 351) (fun _ => l_tail ((hK3 _).trans ((hK _ _ (Or.inl (by omega))).trans hL))) (fun q => absurd rfl q)
set_option maxRecDepth 100000 in
theorem l_c12 {P M : Int → Int → Int} {B1 B2 : Nat} {s1 s2 s3 s4 : Int} (hS : x_Sh 170 P) (hI : ∀ k, P 155 k = -1) (hF : x_F0 M) (hN : M (3 + 7 * 0) 0 = 0) (hZ : x_TZ 1 M) (hA : ∀ i, M 163 i = a_F 144 i) (hM : ∀ k, M 162 k = 0) (hH : ∀ k, M 164 k = 0) (hL : M (-2) (-1) = 5) (h1 : M (-2) 1 = s1) (h2 : M (-2) 2 = s2) (h3 : M (-2) 3 = s3) (h4 : M (-2) 4 = s4) : x_Ev 181 354 [.inr (-2), .inr 0, .inr 162, .inl 0] [] (B1 + 154, B2 + 1831) (170, P, M) x_R1 := by
  refine e_aload (k := 354) (xi181 354) rfl (by omega) ?_
  refine e_aload (k := 355) (xi181 355) rfl (by omega) ?_
  refine e_iload (k := 356) (xi181 356) rfl ?_
  refine e_iconst (k := 357) (xi181 357) ?_
  refine e_iadd (w := 1) (k := 358) (xi181 358) (by decide) ?_
  refine e_sld (w := s1) (k := 359) (xi181 359) ⟨by omega, by rw [hL]; omega⟩ h1 ?_
  refine e_callR (k := 360) (c1 := (B1 + 154)) (c2 := (B2 + 1831)) (rest := []) (as := [.inr 0, .inl (s1)]) (xi181 360) (by decide) xm90 rfl ⟨rfl, Nat.le_of_ble_eq_true rfl, by decide⟩ (Or.inr (x_okt (ok_WS hS))) (x_FKo hS (f_mend hS hF s1)) ?_
  rintro v h1 ⟨z2, P2, M2, hq, hS2, hK⟩
  cases hq
  have a0 : M2 163 0 = 0 := ((hK 163 0 (by omega)).trans (hA 0)).trans (if_neg (by omega))
  have a1 : M2 163 1 = 0 := ((hK 163 1 (by omega)).trans (hA 1)).trans (if_neg (by omega))
  have a2 : M2 163 2 = 0 := ((hK 163 2 (by omega)).trans (hA 2)).trans (if_neg (by omega))
  have a3 : M2 163 3 = 0 := ((hK 163 3 (by omega)).trans (hA 3)).trans (if_neg (by omega))
  show x_Ev 181 361 [.inr (-2), .inr 0, .inr 162, .inl 0] [.inl 0] ((B1 + 154), (B2 + 1831)) (z2, P2, M2) _
  rw [x_row_self M2 163]
  refine e_aload (k := 361) (xi181 361) rfl (by omega) ?_
  refine e_aload (k := 362) (xi181 362) rfl (by omega) ?_
  refine e_iload (k := 363) (xi181 363) rfl ?_
  refine e_iconst (k := 364) (xi181 364) ?_
  refine e_iadd (w := 1) (k := 365) (xi181 365) (by decide) ?_
  refine e_sld (w := s1) (k := 366) (xi181 366) ⟨by omega, by rw [(x_rown.trans ((hK _ _ (Or.inl (by omega))).trans hL))]; omega⟩ (x_rown.trans ((hK _ _ (Or.inl (by omega))).trans h1)) ?_
  refine e_callR (k := 367) (c1 := (B1 + 154)) (c2 := (B2 + 1831)) (rest := [.inl 0]) (as := [.inr 162, .inl (s1)]) (xi181 367) (by decide) xm145 rfl ⟨rfl, Nat.le_of_ble_eq_true rfl, by decide⟩ (Or.inr (x_okt (ok_mo hS2))) (x_GVo (g_mend (M := M2) hS2 a0 a1 a2 a3 s1)) ?_
  rintro v h1 ⟨z3, P3, M3, hq, hK3⟩
  cases hq
  refine e_c_eq (k := 368) (xi181 368) (fun _ => l_tail ((hK3 _).trans ((hK _ _ (Or.inl (by omega))).trans hL))) (fun q => absurd rfl q)
set_option maxRecDepth 100000 in
theorem l_c13 {P M : Int → Int → Int} {B1 B2 : Nat} {s1 s2 s3 s4 : Int} (hS : x_Sh 170 P) (hI : ∀ k, P 155 k = -1) (hF : x_F0 M) (hN : M (3 + 7 * 0) 0 = 0) (hZ : x_TZ 1 M) (hA : ∀ i, M 163 i = a_F 144 i) (hM : ∀ k, M 162 k = 0) (hH : ∀ k, M 164 k = 0) (hL : M (-2) (-1) = 5) (h1 : M (-2) 1 = s1) (h2 : M (-2) 2 = s2) (h3 : M (-2) 3 = s3) (h4 : M (-2) 4 = s4) : x_Ev 181 371 [.inr (-2), .inr 0, .inr 162, .inl 0] [] (B1 + 154, B2 + 1831) (170, P, M) x_R1 := by
  refine e_aload (k := 371) (xi181 371) rfl (by omega) ?_
  refine e_aload (k := 372) (xi181 372) rfl (by omega) ?_
  refine e_iload (k := 373) (xi181 373) rfl ?_
  refine e_iconst (k := 374) (xi181 374) ?_
  refine e_iadd (w := 1) (k := 375) (xi181 375) (by decide) ?_
  refine e_sld (w := s1) (k := 376) (xi181 376) ⟨by omega, by rw [hL]; omega⟩ h1 ?_
  refine e_aload (k := 377) (xi181 377) rfl (by omega) ?_
  refine e_iload (k := 378) (xi181 378) rfl ?_
  refine e_iconst (k := 379) (xi181 379) ?_
  refine e_iadd (w := 2) (k := 380) (xi181 380) (by decide) ?_
  refine e_sld (w := s2) (k := 381) (xi181 381) ⟨by omega, by rw [hL]; omega⟩ h2 ?_
  refine e_callR (k := 382) (c1 := (B1 + 154)) (c2 := (B2 + 1831)) (rest := []) (as := [.inr 0, .inl (s1), .inl (s2)]) (xi181 382) (by decide) xm91 rfl ⟨rfl, Nat.le_of_ble_eq_true rfl, by decide⟩ (Or.inr (x_okt (ok_WS hS))) (x_FKo hS (f_doubt hS hF s1 s2)) ?_
  rintro v h1 ⟨z2, P2, M2, hq, hS2, hK⟩
  cases hq
  have a0 : M2 163 0 = 0 := ((hK 163 0 (by omega)).trans (hA 0)).trans (if_neg (by omega))
  have a1 : M2 163 1 = 0 := ((hK 163 1 (by omega)).trans (hA 1)).trans (if_neg (by omega))
  have a2 : M2 163 2 = 0 := ((hK 163 2 (by omega)).trans (hA 2)).trans (if_neg (by omega))
  have a3 : M2 163 3 = 0 := ((hK 163 3 (by omega)).trans (hA 3)).trans (if_neg (by omega))
  show x_Ev 181 383 [.inr (-2), .inr 0, .inr 162, .inl 0] [.inl ((-1))] ((B1 + 154), (B2 + 1831)) (z2, P2, M2) _
  rw [x_row_self M2 163]
  refine e_aload (k := 383) (xi181 383) rfl (by omega) ?_
  refine e_aload (k := 384) (xi181 384) rfl (by omega) ?_
  refine e_iload (k := 385) (xi181 385) rfl ?_
  refine e_iconst (k := 386) (xi181 386) ?_
  refine e_iadd (w := 1) (k := 387) (xi181 387) (by decide) ?_
  refine e_sld (w := s1) (k := 388) (xi181 388) ⟨by omega, by rw [(x_rown.trans ((hK _ _ (Or.inl (by omega))).trans hL))]; omega⟩ (x_rown.trans ((hK _ _ (Or.inl (by omega))).trans h1)) ?_
  refine e_aload (k := 389) (xi181 389) rfl (by omega) ?_
  refine e_iload (k := 390) (xi181 390) rfl ?_
  refine e_iconst (k := 391) (xi181 391) ?_
  refine e_iadd (w := 2) (k := 392) (xi181 392) (by decide) ?_
  refine e_sld (w := s2) (k := 393) (xi181 393) ⟨by omega, by rw [(x_rown.trans ((hK _ _ (Or.inl (by omega))).trans hL))]; omega⟩ (x_rown.trans ((hK _ _ (Or.inl (by omega))).trans h2)) ?_
  refine e_callR (k := 394) (c1 := (B1 + 154)) (c2 := (B2 + 1831)) (rest := [.inl ((-1))]) (as := [.inr 162, .inl (s1), .inl (s2)]) (xi181 394) (by decide) xm146 rfl ⟨rfl, Nat.le_of_ble_eq_true rfl, by decide⟩ (Or.inr (x_okt (ok_mo hS2))) (x_GVo (g_doubt (M := M2) hS2 a0 a1 a2 a3 s1 s2)) ?_
  rintro v h1 ⟨z3, P3, M3, hq, hK3⟩
  cases hq
  refine e_c_eq (k := 395) (xi181 395) (fun _ => l_tail ((hK3 _).trans ((hK _ _ (Or.inl (by omega))).trans hL))) (fun q => absurd rfl q)
set_option maxRecDepth 100000 in
theorem l_c14 {P M : Int → Int → Int} {B1 B2 : Nat} {s1 s2 s3 s4 : Int} (hS : x_Sh 170 P) (hI : ∀ k, P 155 k = -1) (hF : x_F0 M) (hN : M (3 + 7 * 0) 0 = 0) (hZ : x_TZ 1 M) (hA : ∀ i, M 163 i = a_F 144 i) (hM : ∀ k, M 162 k = 0) (hH : ∀ k, M 164 k = 0) (hL : M (-2) (-1) = 5) (h1 : M (-2) 1 = s1) (h2 : M (-2) 2 = s2) (h3 : M (-2) 3 = s3) (h4 : M (-2) 4 = s4) : x_Ev 181 398 [.inr (-2), .inr 0, .inr 162, .inl 0] [] (B1 + 154, B2 + 1831) (170, P, M) x_R1 := by
  refine e_aload (k := 398) (xi181 398) rfl (by omega) ?_
  refine e_aload (k := 399) (xi181 399) rfl (by omega) ?_
  refine e_iload (k := 400) (xi181 400) rfl ?_
  refine e_iconst (k := 401) (xi181 401) ?_
  refine e_iadd (w := 1) (k := 402) (xi181 402) (by decide) ?_
  refine e_sld (w := s1) (k := 403) (xi181 403) ⟨by omega, by rw [hL]; omega⟩ h1 ?_
  refine e_aload (k := 404) (xi181 404) rfl (by omega) ?_
  refine e_iload (k := 405) (xi181 405) rfl ?_
  refine e_iconst (k := 406) (xi181 406) ?_
  refine e_iadd (w := 2) (k := 407) (xi181 407) (by decide) ?_
  refine e_sld (w := s2) (k := 408) (xi181 408) ⟨by omega, by rw [hL]; omega⟩ h2 ?_
  refine e_aload (k := 409) (xi181 409) rfl (by omega) ?_
  refine e_iload (k := 410) (xi181 410) rfl ?_
  refine e_iconst (k := 411) (xi181 411) ?_
  refine e_iadd (w := 3) (k := 412) (xi181 412) (by decide) ?_
  refine e_sld (w := s3) (k := 413) (xi181 413) ⟨by omega, by rw [hL]; omega⟩ h3 ?_
  refine e_callR (k := 414) (c1 := (B1 + 154)) (c2 := (B2 + 1831)) (rest := []) (as := [.inr 0, .inl (s1), .inl (s2), .inl (s3)]) (xi181 414) (by decide) xm92 rfl ⟨rfl, Nat.le_of_ble_eq_true rfl, by decide⟩ (Or.inr (x_okt (ok_WS hS))) (x_FKo hS (f_hire hS hF s1 s2 s3)) ?_
  rintro v h1 ⟨z2, P2, M2, hq, hS2, hK⟩
  cases hq
  have a0 : M2 163 0 = 0 := ((hK 163 0 (by omega)).trans (hA 0)).trans (if_neg (by omega))
  have a1 : M2 163 1 = 0 := ((hK 163 1 (by omega)).trans (hA 1)).trans (if_neg (by omega))
  have a2 : M2 163 2 = 0 := ((hK 163 2 (by omega)).trans (hA 2)).trans (if_neg (by omega))
  have a3 : M2 163 3 = 0 := ((hK 163 3 (by omega)).trans (hA 3)).trans (if_neg (by omega))
  show x_Ev 181 415 [.inr (-2), .inr 0, .inr 162, .inl 0] [.inl ((-1))] ((B1 + 154), (B2 + 1831)) (z2, P2, M2) _
  rw [x_row_self M2 163]
  refine e_aload (k := 415) (xi181 415) rfl (by omega) ?_
  refine e_aload (k := 416) (xi181 416) rfl (by omega) ?_
  refine e_iload (k := 417) (xi181 417) rfl ?_
  refine e_iconst (k := 418) (xi181 418) ?_
  refine e_iadd (w := 1) (k := 419) (xi181 419) (by decide) ?_
  refine e_sld (w := s1) (k := 420) (xi181 420) ⟨by omega, by rw [(x_rown.trans ((hK _ _ (Or.inl (by omega))).trans hL))]; omega⟩ (x_rown.trans ((hK _ _ (Or.inl (by omega))).trans h1)) ?_
  refine e_aload (k := 421) (xi181 421) rfl (by omega) ?_
  refine e_iload (k := 422) (xi181 422) rfl ?_
  refine e_iconst (k := 423) (xi181 423) ?_
  refine e_iadd (w := 2) (k := 424) (xi181 424) (by decide) ?_
  refine e_sld (w := s2) (k := 425) (xi181 425) ⟨by omega, by rw [(x_rown.trans ((hK _ _ (Or.inl (by omega))).trans hL))]; omega⟩ (x_rown.trans ((hK _ _ (Or.inl (by omega))).trans h2)) ?_
  refine e_aload (k := 426) (xi181 426) rfl (by omega) ?_
  refine e_iload (k := 427) (xi181 427) rfl ?_
  refine e_iconst (k := 428) (xi181 428) ?_
  refine e_iadd (w := 3) (k := 429) (xi181 429) (by decide) ?_
  refine e_sld (w := s3) (k := 430) (xi181 430) ⟨by omega, by rw [(x_rown.trans ((hK _ _ (Or.inl (by omega))).trans hL))]; omega⟩ (x_rown.trans ((hK _ _ (Or.inl (by omega))).trans h3)) ?_
  refine e_callR (k := 431) (c1 := (B1 + 154)) (c2 := (B2 + 1831)) (rest := [.inl ((-1))]) (as := [.inr 162, .inl (s1), .inl (s2), .inl (s3)]) (xi181 431) (by decide) xm150 rfl ⟨rfl, Nat.le_of_ble_eq_true rfl, by decide⟩ (Or.inr (x_okt (ok_mo hS2))) (x_GVo (g_hire (M := M2) hS2 a0 a1 a2 a3 s1 s2 s3)) ?_
  rintro v h1 ⟨z3, P3, M3, hq, hK3⟩
  cases hq
  refine e_c_eq (k := 432) (xi181 432) (fun _ => l_tail ((hK3 _).trans ((hK _ _ (Or.inl (by omega))).trans hL))) (fun q => absurd rfl q)
set_option maxRecDepth 100000 in
theorem l_c15 {P M : Int → Int → Int} {B1 B2 : Nat} {s1 s2 s3 s4 : Int} (hS : x_Sh 170 P) (hI : ∀ k, P 155 k = -1) (hF : x_F0 M) (hN : M (3 + 7 * 0) 0 = 0) (hZ : x_TZ 1 M) (hA : ∀ i, M 163 i = a_F 144 i) (hM : ∀ k, M 162 k = 0) (hH : ∀ k, M 164 k = 0) (hL : M (-2) (-1) = 5) (h1 : M (-2) 1 = s1) (h2 : M (-2) 2 = s2) (h3 : M (-2) 3 = s3) (h4 : M (-2) 4 = s4) : x_Ev 181 435 [.inr (-2), .inr 0, .inr 162, .inl 0] [] (B1 + 154, B2 + 1831) (170, P, M) x_R1 := by
  refine e_aload (k := 435) (xi181 435) rfl (by omega) ?_
  refine e_aload (k := 436) (xi181 436) rfl (by omega) ?_
  refine e_iload (k := 437) (xi181 437) rfl ?_
  refine e_iconst (k := 438) (xi181 438) ?_
  refine e_iadd (w := 1) (k := 439) (xi181 439) (by decide) ?_
  refine e_sld (w := s1) (k := 440) (xi181 440) ⟨by omega, by rw [hL]; omega⟩ h1 ?_
  refine e_aload (k := 441) (xi181 441) rfl (by omega) ?_
  refine e_iload (k := 442) (xi181 442) rfl ?_
  refine e_iconst (k := 443) (xi181 443) ?_
  refine e_iadd (w := 2) (k := 444) (xi181 444) (by decide) ?_
  refine e_sld (w := s2) (k := 445) (xi181 445) ⟨by omega, by rw [hL]; omega⟩ h2 ?_
  refine e_callR (k := 446) (c1 := (B1 + 154)) (c2 := (B2 + 1831)) (rest := []) (as := [.inr 0, .inl (s1), .inl (s2)]) (xi181 446) (by decide) xm93 rfl ⟨rfl, Nat.le_of_ble_eq_true rfl, by decide⟩ (Or.inr (x_okt (ok_WS hS))) (x_FKo hS (f_end hS hF s1 s2)) ?_
  rintro v h1 ⟨z2, P2, M2, hq, hS2, hK⟩
  cases hq
  have a0 : M2 163 0 = 0 := ((hK 163 0 (by omega)).trans (hA 0)).trans (if_neg (by omega))
  have a1 : M2 163 1 = 0 := ((hK 163 1 (by omega)).trans (hA 1)).trans (if_neg (by omega))
  have a2 : M2 163 2 = 0 := ((hK 163 2 (by omega)).trans (hA 2)).trans (if_neg (by omega))
  have a3 : M2 163 3 = 0 := ((hK 163 3 (by omega)).trans (hA 3)).trans (if_neg (by omega))
  show x_Ev 181 447 [.inr (-2), .inr 0, .inr 162, .inl 0] [.inl ((-1))] ((B1 + 154), (B2 + 1831)) (z2, P2, M2) _
  rw [x_row_self M2 163]
  refine e_aload (k := 447) (xi181 447) rfl (by omega) ?_
  refine e_aload (k := 448) (xi181 448) rfl (by omega) ?_
  refine e_iload (k := 449) (xi181 449) rfl ?_
  refine e_iconst (k := 450) (xi181 450) ?_
  refine e_iadd (w := 1) (k := 451) (xi181 451) (by decide) ?_
  refine e_sld (w := s1) (k := 452) (xi181 452) ⟨by omega, by rw [(x_rown.trans ((hK _ _ (Or.inl (by omega))).trans hL))]; omega⟩ (x_rown.trans ((hK _ _ (Or.inl (by omega))).trans h1)) ?_
  refine e_aload (k := 453) (xi181 453) rfl (by omega) ?_
  refine e_iload (k := 454) (xi181 454) rfl ?_
  refine e_iconst (k := 455) (xi181 455) ?_
  refine e_iadd (w := 2) (k := 456) (xi181 456) (by decide) ?_
  refine e_sld (w := s2) (k := 457) (xi181 457) ⟨by omega, by rw [(x_rown.trans ((hK _ _ (Or.inl (by omega))).trans hL))]; omega⟩ (x_rown.trans ((hK _ _ (Or.inl (by omega))).trans h2)) ?_
  refine e_callR (k := 458) (c1 := (B1 + 154)) (c2 := (B2 + 1831)) (rest := [.inl ((-1))]) (as := [.inr 162, .inl (s1), .inl (s2)]) (xi181 458) (by decide) xm154 rfl ⟨rfl, Nat.le_of_ble_eq_true rfl, by decide⟩ (Or.inr (x_okt (ok_mo hS2))) (x_GVo (g_end (M := M2) hS2 a0 a1 a2 a3 s1 s2)) ?_
  rintro v h1 ⟨z3, P3, M3, hq, hK3⟩
  cases hq
  refine e_c_eq (k := 459) (xi181 459) (fun _ => l_tail ((hK3 _).trans ((hK _ _ (Or.inl (by omega))).trans hL))) (fun q => absurd rfl q)
set_option maxRecDepth 100000 in
theorem l_c16 {P M : Int → Int → Int} {B1 B2 : Nat} {s1 s2 s3 s4 : Int} (hS : x_Sh 170 P) (hI : ∀ k, P 155 k = -1) (hF : x_F0 M) (hN : M (3 + 7 * 0) 0 = 0) (hZ : x_TZ 1 M) (hA : ∀ i, M 163 i = a_F 144 i) (hM : ∀ k, M 162 k = 0) (hH : ∀ k, M 164 k = 0) (hL : M (-2) (-1) = 5) (h1 : M (-2) 1 = s1) (h2 : M (-2) 2 = s2) (h3 : M (-2) 3 = s3) (h4 : M (-2) 4 = s4) : x_Ev 181 462 [.inr (-2), .inr 0, .inr 162, .inl 0] [] (B1 + 154, B2 + 1831) (170, P, M) x_R1 := by
  refine e_aload (k := 462) (xi181 462) rfl (by omega) ?_
  refine e_callR (k := 463) (c1 := (B1 + 154)) (c2 := (B2 + 1831)) (rest := []) (as := [.inr 0]) (xi181 463) (by decide) xm94 rfl ⟨rfl, Nat.le_of_ble_eq_true rfl, by decide⟩ (Or.inr (x_okt (ok_WS hS))) (f_hour hS hF) ?_
  rintro v h1 ⟨z2, P2, M2, hq, hS2, hK⟩
  cases hq
  have a0 : M2 163 0 = 0 := ((hK 163 0 (by omega)).trans (hA 0)).trans (if_neg (by omega))
  have a1 : M2 163 1 = 0 := ((hK 163 1 (by omega)).trans (hA 1)).trans (if_neg (by omega))
  have a2 : M2 163 2 = 0 := ((hK 163 2 (by omega)).trans (hA 2)).trans (if_neg (by omega))
  have a3 : M2 163 3 = 0 := ((hK 163 3 (by omega)).trans (hA 3)).trans (if_neg (by omega))
  show x_Ev 181 464 [.inr (-2), .inr 0, .inr 162, .inl 0] [.inl 1] ((B1 + 154), (B2 + 1831)) (z2, P2, M2) _
  rw [x_row_self M2 163]
  refine e_aload (k := 464) (xi181 464) rfl (by omega) ?_
  refine e_callR (k := 465) (c1 := (B1 + 154)) (c2 := (B2 + 1831)) (rest := [.inl 1]) (as := [.inr 162]) (xi181 465) (by decide) xm155 rfl ⟨rfl, Nat.le_of_ble_eq_true rfl, by decide⟩ (Or.inr (x_okt (ok_mo hS2))) (g_hour (M := M2) hS2 a0 a1 a2 a3) ?_
  rintro v h1 ⟨z3, P3, M3, hq, hK3⟩
  cases hq
  refine e_c_eq (k := 466) (xi181 466) (fun _ => l_tail ((hK3 _).trans ((hK _ _ (Or.inl (by omega))).trans hL))) (fun q => absurd rfl q)
set_option maxRecDepth 100000 in
theorem l_c17 {P M : Int → Int → Int} {B1 B2 : Nat} {s1 s2 s3 s4 : Int} (hS : x_Sh 170 P) (hI : ∀ k, P 155 k = -1) (hF : x_F0 M) (hN : M (3 + 7 * 0) 0 = 0) (hZ : x_TZ 1 M) (hA : ∀ i, M 163 i = a_F 144 i) (hM : ∀ k, M 162 k = 0) (hH : ∀ k, M 164 k = 0) (hL : M (-2) (-1) = 5) (h1 : M (-2) 1 = s1) (h2 : M (-2) 2 = s2) (h3 : M (-2) 3 = s3) (h4 : M (-2) 4 = s4) : x_Ev 181 469 [.inr (-2), .inr 0, .inr 162, .inl 0] [] (B1 + 154, B2 + 1831) (170, P, M) x_R1 := by
  refine e_aload (k := 469) (xi181 469) rfl (by omega) ?_
  refine e_aload (k := 470) (xi181 470) rfl (by omega) ?_
  refine e_iload (k := 471) (xi181 471) rfl ?_
  refine e_iconst (k := 472) (xi181 472) ?_
  refine e_iadd (w := 1) (k := 473) (xi181 473) (by decide) ?_
  refine e_sld (w := s1) (k := 474) (xi181 474) ⟨by omega, by rw [hL]; omega⟩ h1 ?_
  refine e_aload (k := 475) (xi181 475) rfl (by omega) ?_
  refine e_iload (k := 476) (xi181 476) rfl ?_
  refine e_iconst (k := 477) (xi181 477) ?_
  refine e_iadd (w := 2) (k := 478) (xi181 478) (by decide) ?_
  refine e_sld (w := s2) (k := 479) (xi181 479) ⟨by omega, by rw [hL]; omega⟩ h2 ?_
  refine e_callR (k := 480) (c1 := (B1 + 154)) (c2 := (B2 + 1831)) (rest := []) (as := [.inr 0, .inl (s1), .inl (s2)]) (xi181 480) (by decide) xm95 rfl ⟨rfl, Nat.le_of_ble_eq_true rfl, by decide⟩ (Or.inr (x_okt (ok_WS hS))) (x_FKo hS (f_cart hS hF s1 s2)) ?_
  rintro v h1 ⟨z2, P2, M2, hq, hS2, hK⟩
  cases hq
  have a0 : M2 163 0 = 0 := ((hK 163 0 (by omega)).trans (hA 0)).trans (if_neg (by omega))
  have a1 : M2 163 1 = 0 := ((hK 163 1 (by omega)).trans (hA 1)).trans (if_neg (by omega))
  have a2 : M2 163 2 = 0 := ((hK 163 2 (by omega)).trans (hA 2)).trans (if_neg (by omega))
  have a3 : M2 163 3 = 0 := ((hK 163 3 (by omega)).trans (hA 3)).trans (if_neg (by omega))
  show x_Ev 181 481 [.inr (-2), .inr 0, .inr 162, .inl 0] [.inl ((-1))] ((B1 + 154), (B2 + 1831)) (z2, P2, M2) _
  rw [x_row_self M2 163]
  refine e_aload (k := 481) (xi181 481) rfl (by omega) ?_
  refine e_aload (k := 482) (xi181 482) rfl (by omega) ?_
  refine e_iload (k := 483) (xi181 483) rfl ?_
  refine e_iconst (k := 484) (xi181 484) ?_
  refine e_iadd (w := 1) (k := 485) (xi181 485) (by decide) ?_
  refine e_sld (w := s1) (k := 486) (xi181 486) ⟨by omega, by rw [(x_rown.trans ((hK _ _ (Or.inl (by omega))).trans hL))]; omega⟩ (x_rown.trans ((hK _ _ (Or.inl (by omega))).trans h1)) ?_
  refine e_aload (k := 487) (xi181 487) rfl (by omega) ?_
  refine e_iload (k := 488) (xi181 488) rfl ?_
  refine e_iconst (k := 489) (xi181 489) ?_
  refine e_iadd (w := 2) (k := 490) (xi181 490) (by decide) ?_
  refine e_sld (w := s2) (k := 491) (xi181 491) ⟨by omega, by rw [(x_rown.trans ((hK _ _ (Or.inl (by omega))).trans hL))]; omega⟩ (x_rown.trans ((hK _ _ (Or.inl (by omega))).trans h2)) ?_
  refine e_callR (k := 492) (c1 := (B1 + 154)) (c2 := (B2 + 1831)) (rest := [.inl ((-1))]) (as := [.inr 162, .inl (s1), .inl (s2)]) (xi181 492) (by decide) xm157 rfl ⟨rfl, Nat.le_of_ble_eq_true rfl, by decide⟩ (Or.inr (x_okt (ok_mo hS2))) (x_GVo (g_cart (M := M2) hS2 a0 a1 a2 a3 s1 s2)) ?_
  rintro v h1 ⟨z3, P3, M3, hq, hK3⟩
  cases hq
  refine e_c_eq (k := 493) (xi181 493) (fun _ => l_tail ((hK3 _).trans ((hK _ _ (Or.inl (by omega))).trans hL))) (fun q => absurd rfl q)
set_option maxRecDepth 100000 in
theorem l_c18 {P M : Int → Int → Int} {B1 B2 : Nat} {s1 s2 s3 s4 : Int} (hS : x_Sh 170 P) (hI : ∀ k, P 155 k = -1) (hF : x_F0 M) (hN : M (3 + 7 * 0) 0 = 0) (hZ : x_TZ 1 M) (hA : ∀ i, M 163 i = a_F 144 i) (hM : ∀ k, M 162 k = 0) (hH : ∀ k, M 164 k = 0) (hL : M (-2) (-1) = 5) (h1 : M (-2) 1 = s1) (h2 : M (-2) 2 = s2) (h3 : M (-2) 3 = s3) (h4 : M (-2) 4 = s4) : x_Ev 181 496 [.inr (-2), .inr 0, .inr 162, .inl 0] [] (B1 + 154, B2 + 1831) (170, P, M) x_R1 := by
  refine e_aload (k := 496) (xi181 496) rfl (by omega) ?_
  refine e_aload (k := 497) (xi181 497) rfl (by omega) ?_
  refine e_iload (k := 498) (xi181 498) rfl ?_
  refine e_iconst (k := 499) (xi181 499) ?_
  refine e_iadd (w := 1) (k := 500) (xi181 500) (by decide) ?_
  refine e_sld (w := s1) (k := 501) (xi181 501) ⟨by omega, by rw [hL]; omega⟩ h1 ?_
  refine e_aload (k := 502) (xi181 502) rfl (by omega) ?_
  refine e_iload (k := 503) (xi181 503) rfl ?_
  refine e_iconst (k := 504) (xi181 504) ?_
  refine e_iadd (w := 2) (k := 505) (xi181 505) (by decide) ?_
  refine e_sld (w := s2) (k := 506) (xi181 506) ⟨by omega, by rw [hL]; omega⟩ h2 ?_
  refine e_callR (k := 507) (c1 := (B1 + 154)) (c2 := (B2 + 1831)) (rest := []) (as := [.inr 0, .inl (s1), .inl (s2)]) (xi181 507) (by decide) xm96 rfl ⟨rfl, Nat.le_of_ble_eq_true rfl, by decide⟩ (Or.inr (x_okt (ok_WS hS))) (x_FKo hS (f_drive hS hF s1 s2)) ?_
  rintro v h1 ⟨z2, P2, M2, hq, hS2, hK⟩
  cases hq
  have a0 : M2 163 0 = 0 := ((hK 163 0 (by omega)).trans (hA 0)).trans (if_neg (by omega))
  have a1 : M2 163 1 = 0 := ((hK 163 1 (by omega)).trans (hA 1)).trans (if_neg (by omega))
  have a2 : M2 163 2 = 0 := ((hK 163 2 (by omega)).trans (hA 2)).trans (if_neg (by omega))
  have a3 : M2 163 3 = 0 := ((hK 163 3 (by omega)).trans (hA 3)).trans (if_neg (by omega))
  show x_Ev 181 508 [.inr (-2), .inr 0, .inr 162, .inl 0] [.inl ((-1))] ((B1 + 154), (B2 + 1831)) (z2, P2, M2) _
  rw [x_row_self M2 163]
  refine e_aload (k := 508) (xi181 508) rfl (by omega) ?_
  refine e_aload (k := 509) (xi181 509) rfl (by omega) ?_
  refine e_iload (k := 510) (xi181 510) rfl ?_
  refine e_iconst (k := 511) (xi181 511) ?_
  refine e_iadd (w := 1) (k := 512) (xi181 512) (by decide) ?_
  refine e_sld (w := s1) (k := 513) (xi181 513) ⟨by omega, by rw [(x_rown.trans ((hK _ _ (Or.inl (by omega))).trans hL))]; omega⟩ (x_rown.trans ((hK _ _ (Or.inl (by omega))).trans h1)) ?_
  refine e_aload (k := 514) (xi181 514) rfl (by omega) ?_
  refine e_iload (k := 515) (xi181 515) rfl ?_
  refine e_iconst (k := 516) (xi181 516) ?_
  refine e_iadd (w := 2) (k := 517) (xi181 517) (by decide) ?_
  refine e_sld (w := s2) (k := 518) (xi181 518) ⟨by omega, by rw [(x_rown.trans ((hK _ _ (Or.inl (by omega))).trans hL))]; omega⟩ (x_rown.trans ((hK _ _ (Or.inl (by omega))).trans h2)) ?_
  refine e_callR (k := 519) (c1 := (B1 + 154)) (c2 := (B2 + 1831)) (rest := [.inl ((-1))]) (as := [.inr 162, .inl (s1), .inl (s2)]) (xi181 519) (by decide) xm158 rfl ⟨rfl, Nat.le_of_ble_eq_true rfl, by decide⟩ (Or.inr (x_okt (ok_mo hS2))) (x_GVo (g_drive (M := M2) hS2 a0 a1 a2 a3 s1 s2)) ?_
  rintro v h1 ⟨z3, P3, M3, hq, hK3⟩
  cases hq
  refine e_c_eq (k := 520) (xi181 520) (fun _ => l_tail ((hK3 _).trans ((hK _ _ (Or.inl (by omega))).trans hL))) (fun q => absurd rfl q)
set_option maxRecDepth 100000 in
theorem l_c19 {P M : Int → Int → Int} {B1 B2 : Nat} {s1 s2 s3 s4 : Int} (hS : x_Sh 170 P) (hI : ∀ k, P 155 k = -1) (hF : x_F0 M) (hN : M (3 + 7 * 0) 0 = 0) (hZ : x_TZ 1 M) (hA : ∀ i, M 163 i = a_F 144 i) (hM : ∀ k, M 162 k = 0) (hH : ∀ k, M 164 k = 0) (hL : M (-2) (-1) = 5) (h1 : M (-2) 1 = s1) (h2 : M (-2) 2 = s2) (h3 : M (-2) 3 = s3) (h4 : M (-2) 4 = s4) : x_Ev 181 523 [.inr (-2), .inr 0, .inr 162, .inl 0] [] (B1 + 154, B2 + 1831) (170, P, M) x_R1 := by
  refine e_aload (k := 523) (xi181 523) rfl (by omega) ?_
  refine e_aload (k := 524) (xi181 524) rfl (by omega) ?_
  refine e_iload (k := 525) (xi181 525) rfl ?_
  refine e_iconst (k := 526) (xi181 526) ?_
  refine e_iadd (w := 1) (k := 527) (xi181 527) (by decide) ?_
  refine e_sld (w := s1) (k := 528) (xi181 528) ⟨by omega, by rw [hL]; omega⟩ h1 ?_
  refine e_aload (k := 529) (xi181 529) rfl (by omega) ?_
  refine e_iload (k := 530) (xi181 530) rfl ?_
  refine e_iconst (k := 531) (xi181 531) ?_
  refine e_iadd (w := 2) (k := 532) (xi181 532) (by decide) ?_
  refine e_sld (w := s2) (k := 533) (xi181 533) ⟨by omega, by rw [hL]; omega⟩ h2 ?_
  refine e_callR (k := 534) (c1 := (B1 + 154)) (c2 := (B2 + 1831)) (rest := []) (as := [.inr 0, .inl (s1), .inl (s2)]) (xi181 534) (by decide) xm97 rfl ⟨rfl, Nat.le_of_ble_eq_true rfl, by decide⟩ (Or.inr (x_okt (ok_WS hS))) (x_FKo hS (f_pick hS hF s1 s2)) ?_
  rintro v h1 ⟨z2, P2, M2, hq, hS2, hK⟩
  cases hq
  have a0 : M2 163 0 = 0 := ((hK 163 0 (by omega)).trans (hA 0)).trans (if_neg (by omega))
  have a1 : M2 163 1 = 0 := ((hK 163 1 (by omega)).trans (hA 1)).trans (if_neg (by omega))
  have a2 : M2 163 2 = 0 := ((hK 163 2 (by omega)).trans (hA 2)).trans (if_neg (by omega))
  have a3 : M2 163 3 = 0 := ((hK 163 3 (by omega)).trans (hA 3)).trans (if_neg (by omega))
  show x_Ev 181 535 [.inr (-2), .inr 0, .inr 162, .inl 0] [.inl ((-1))] ((B1 + 154), (B2 + 1831)) (z2, P2, M2) _
  rw [x_row_self M2 163]
  refine e_aload (k := 535) (xi181 535) rfl (by omega) ?_
  refine e_aload (k := 536) (xi181 536) rfl (by omega) ?_
  refine e_iload (k := 537) (xi181 537) rfl ?_
  refine e_iconst (k := 538) (xi181 538) ?_
  refine e_iadd (w := 1) (k := 539) (xi181 539) (by decide) ?_
  refine e_sld (w := s1) (k := 540) (xi181 540) ⟨by omega, by rw [(x_rown.trans ((hK _ _ (Or.inl (by omega))).trans hL))]; omega⟩ (x_rown.trans ((hK _ _ (Or.inl (by omega))).trans h1)) ?_
  refine e_aload (k := 541) (xi181 541) rfl (by omega) ?_
  refine e_iload (k := 542) (xi181 542) rfl ?_
  refine e_iconst (k := 543) (xi181 543) ?_
  refine e_iadd (w := 2) (k := 544) (xi181 544) (by decide) ?_
  refine e_sld (w := s2) (k := 545) (xi181 545) ⟨by omega, by rw [(x_rown.trans ((hK _ _ (Or.inl (by omega))).trans hL))]; omega⟩ (x_rown.trans ((hK _ _ (Or.inl (by omega))).trans h2)) ?_
  refine e_callR (k := 546) (c1 := (B1 + 154)) (c2 := (B2 + 1831)) (rest := [.inl ((-1))]) (as := [.inr 162, .inl (s1), .inl (s2)]) (xi181 546) (by decide) xm162 rfl ⟨rfl, Nat.le_of_ble_eq_true rfl, by decide⟩ (Or.inr (x_okt (ok_mo hS2))) (x_GVo (g_pick (M := M2) hS2 a0 a1 a2 a3 s1 s2)) ?_
  rintro v h1 ⟨z3, P3, M3, hq, hK3⟩
  cases hq
  refine e_c_eq (k := 547) (xi181 547) (fun _ => l_tail ((hK3 _).trans ((hK _ _ (Or.inl (by omega))).trans hL))) (fun q => absurd rfl q)
set_option maxRecDepth 100000 in
theorem l_c20 {P M : Int → Int → Int} {B1 B2 : Nat} {s1 s2 s3 s4 : Int} (hS : x_Sh 170 P) (hI : ∀ k, P 155 k = -1) (hF : x_F0 M) (hN : M (3 + 7 * 0) 0 = 0) (hZ : x_TZ 1 M) (hA : ∀ i, M 163 i = a_F 144 i) (hM : ∀ k, M 162 k = 0) (hH : ∀ k, M 164 k = 0) (hL : M (-2) (-1) = 5) (h1 : M (-2) 1 = s1) (h2 : M (-2) 2 = s2) (h3 : M (-2) 3 = s3) (h4 : M (-2) 4 = s4) : x_Ev 181 550 [.inr (-2), .inr 0, .inr 162, .inl 0] [] (B1 + 154, B2 + 1831) (170, P, M) x_R1 := by
  refine e_aload (k := 550) (xi181 550) rfl (by omega) ?_
  refine e_aload (k := 551) (xi181 551) rfl (by omega) ?_
  refine e_iload (k := 552) (xi181 552) rfl ?_
  refine e_iconst (k := 553) (xi181 553) ?_
  refine e_iadd (w := 1) (k := 554) (xi181 554) (by decide) ?_
  refine e_sld (w := s1) (k := 555) (xi181 555) ⟨by omega, by rw [hL]; omega⟩ h1 ?_
  refine e_aload (k := 556) (xi181 556) rfl (by omega) ?_
  refine e_iload (k := 557) (xi181 557) rfl ?_
  refine e_iconst (k := 558) (xi181 558) ?_
  refine e_iadd (w := 2) (k := 559) (xi181 559) (by decide) ?_
  refine e_sld (w := s2) (k := 560) (xi181 560) ⟨by omega, by rw [hL]; omega⟩ h2 ?_
  refine e_callR (k := 561) (c1 := (B1 + 154)) (c2 := (B2 + 1831)) (rest := []) (as := [.inr 0, .inl (s1), .inl (s2)]) (xi181 561) (by decide) xm98 rfl ⟨rfl, Nat.le_of_ble_eq_true rfl, by decide⟩ (Or.inr (x_okt (ok_WS hS))) (x_FKo hS (f_fetch hS hF s1 s2)) ?_
  rintro v h1 ⟨z2, P2, M2, hq, hS2, hK⟩
  cases hq
  have a0 : M2 163 0 = 0 := ((hK 163 0 (by omega)).trans (hA 0)).trans (if_neg (by omega))
  have a1 : M2 163 1 = 0 := ((hK 163 1 (by omega)).trans (hA 1)).trans (if_neg (by omega))
  have a2 : M2 163 2 = 0 := ((hK 163 2 (by omega)).trans (hA 2)).trans (if_neg (by omega))
  have a3 : M2 163 3 = 0 := ((hK 163 3 (by omega)).trans (hA 3)).trans (if_neg (by omega))
  show x_Ev 181 562 [.inr (-2), .inr 0, .inr 162, .inl 0] [.inl 0] ((B1 + 154), (B2 + 1831)) (z2, P2, M2) _
  rw [x_row_self M2 163]
  refine e_aload (k := 562) (xi181 562) rfl (by omega) ?_
  refine e_aload (k := 563) (xi181 563) rfl (by omega) ?_
  refine e_iload (k := 564) (xi181 564) rfl ?_
  refine e_iconst (k := 565) (xi181 565) ?_
  refine e_iadd (w := 1) (k := 566) (xi181 566) (by decide) ?_
  refine e_sld (w := s1) (k := 567) (xi181 567) ⟨by omega, by rw [(x_rown.trans ((hK _ _ (Or.inl (by omega))).trans hL))]; omega⟩ (x_rown.trans ((hK _ _ (Or.inl (by omega))).trans h1)) ?_
  refine e_aload (k := 568) (xi181 568) rfl (by omega) ?_
  refine e_iload (k := 569) (xi181 569) rfl ?_
  refine e_iconst (k := 570) (xi181 570) ?_
  refine e_iadd (w := 2) (k := 571) (xi181 571) (by decide) ?_
  refine e_sld (w := s2) (k := 572) (xi181 572) ⟨by omega, by rw [(x_rown.trans ((hK _ _ (Or.inl (by omega))).trans hL))]; omega⟩ (x_rown.trans ((hK _ _ (Or.inl (by omega))).trans h2)) ?_
  refine e_callR (k := 573) (c1 := (B1 + 154)) (c2 := (B2 + 1831)) (rest := [.inl 0]) (as := [.inr 162, .inl (s1), .inl (s2)]) (xi181 573) (by decide) xm163 rfl ⟨rfl, Nat.le_of_ble_eq_true rfl, by decide⟩ (Or.inr (x_okt (ok_mo hS2))) (x_GVo (g_fetch (M := M2) hS2 a0 a1 a2 a3 s1 s2)) ?_
  rintro v h1 ⟨z3, P3, M3, hq, hK3⟩
  cases hq
  refine e_c_eq (k := 574) (xi181 574) (fun _ => l_tail ((hK3 _).trans ((hK _ _ (Or.inl (by omega))).trans hL))) (fun q => absurd rfl q)
set_option maxRecDepth 100000 in
theorem l_c21 {P M : Int → Int → Int} {B1 B2 : Nat} {s1 s2 s3 s4 : Int} (hS : x_Sh 170 P) (hI : ∀ k, P 155 k = -1) (hF : x_F0 M) (hN : M (3 + 7 * 0) 0 = 0) (hZ : x_TZ 1 M) (hA : ∀ i, M 163 i = a_F 144 i) (hM : ∀ k, M 162 k = 0) (hH : ∀ k, M 164 k = 0) (hL : M (-2) (-1) = 5) (h1 : M (-2) 1 = s1) (h2 : M (-2) 2 = s2) (h3 : M (-2) 3 = s3) (h4 : M (-2) 4 = s4) : x_Ev 181 577 [.inr (-2), .inr 0, .inr 162, .inl 0] [] (B1 + 154, B2 + 1831) (170, P, M) x_R1 := by
  refine e_aload (k := 577) (xi181 577) rfl (by omega) ?_
  refine e_aload (k := 578) (xi181 578) rfl (by omega) ?_
  refine e_iload (k := 579) (xi181 579) rfl ?_
  refine e_iconst (k := 580) (xi181 580) ?_
  refine e_iadd (w := 1) (k := 581) (xi181 581) (by decide) ?_
  refine e_sld (w := s1) (k := 582) (xi181 582) ⟨by omega, by rw [hL]; omega⟩ h1 ?_
  refine e_callR (k := 583) (c1 := (B1 + 154)) (c2 := (B2 + 1831)) (rest := []) (as := [.inr 0, .inl (s1)]) (xi181 583) (by decide) xm99 rfl ⟨rfl, Nat.le_of_ble_eq_true rfl, by decide⟩ (Or.inr (x_okt (ok_WS hS))) (x_FKo hS (f_drop hS hF s1)) ?_
  rintro v h1 ⟨z2, P2, M2, hq, hS2, hK⟩
  cases hq
  have a0 : M2 163 0 = 0 := ((hK 163 0 (by omega)).trans (hA 0)).trans (if_neg (by omega))
  have a1 : M2 163 1 = 0 := ((hK 163 1 (by omega)).trans (hA 1)).trans (if_neg (by omega))
  have a2 : M2 163 2 = 0 := ((hK 163 2 (by omega)).trans (hA 2)).trans (if_neg (by omega))
  have a3 : M2 163 3 = 0 := ((hK 163 3 (by omega)).trans (hA 3)).trans (if_neg (by omega))
  show x_Ev 181 584 [.inr (-2), .inr 0, .inr 162, .inl 0] [.inl ((-1))] ((B1 + 154), (B2 + 1831)) (z2, P2, M2) _
  rw [x_row_self M2 163]
  refine e_aload (k := 584) (xi181 584) rfl (by omega) ?_
  refine e_aload (k := 585) (xi181 585) rfl (by omega) ?_
  refine e_iload (k := 586) (xi181 586) rfl ?_
  refine e_iconst (k := 587) (xi181 587) ?_
  refine e_iadd (w := 1) (k := 588) (xi181 588) (by decide) ?_
  refine e_sld (w := s1) (k := 589) (xi181 589) ⟨by omega, by rw [(x_rown.trans ((hK _ _ (Or.inl (by omega))).trans hL))]; omega⟩ (x_rown.trans ((hK _ _ (Or.inl (by omega))).trans h1)) ?_
  refine e_callR (k := 590) (c1 := (B1 + 154)) (c2 := (B2 + 1831)) (rest := [.inl ((-1))]) (as := [.inr 162, .inl (s1)]) (xi181 590) (by decide) xm164 rfl ⟨rfl, Nat.le_of_ble_eq_true rfl, by decide⟩ (Or.inr (x_okt (ok_mo hS2))) (x_GVo (g_drop (M := M2) hS2 a0 a1 a2 a3 s1)) ?_
  rintro v h1 ⟨z3, P3, M3, hq, hK3⟩
  cases hq
  refine e_c_eq (k := 591) (xi181 591) (fun _ => l_tail ((hK3 _).trans ((hK _ _ (Or.inl (by omega))).trans hL))) (fun q => absurd rfl q)
set_option maxRecDepth 100000 in
theorem l_c22 {P M : Int → Int → Int} {B1 B2 : Nat} {s1 s2 s3 s4 : Int} (hS : x_Sh 170 P) (hI : ∀ k, P 155 k = -1) (hF : x_F0 M) (hN : M (3 + 7 * 0) 0 = 0) (hZ : x_TZ 1 M) (hA : ∀ i, M 163 i = a_F 144 i) (hM : ∀ k, M 162 k = 0) (hH : ∀ k, M 164 k = 0) (hL : M (-2) (-1) = 5) (h1 : M (-2) 1 = s1) (h2 : M (-2) 2 = s2) (h3 : M (-2) 3 = s3) (h4 : M (-2) 4 = s4) : x_Ev 181 594 [.inr (-2), .inr 0, .inr 162, .inl 0] [] (B1 + 154, B2 + 1831) (170, P, M) x_R1 := by
  refine e_aload (k := 594) (xi181 594) rfl (by omega) ?_
  refine e_aload (k := 595) (xi181 595) rfl (by omega) ?_
  refine e_iload (k := 596) (xi181 596) rfl ?_
  refine e_iconst (k := 597) (xi181 597) ?_
  refine e_iadd (w := 1) (k := 598) (xi181 598) (by decide) ?_
  refine e_sld (w := s1) (k := 599) (xi181 599) ⟨by omega, by rw [hL]; omega⟩ h1 ?_
  refine e_aload (k := 600) (xi181 600) rfl (by omega) ?_
  refine e_iload (k := 601) (xi181 601) rfl ?_
  refine e_iconst (k := 602) (xi181 602) ?_
  refine e_iadd (w := 2) (k := 603) (xi181 603) (by decide) ?_
  refine e_sld (w := s2) (k := 604) (xi181 604) ⟨by omega, by rw [hL]; omega⟩ h2 ?_
  refine e_callR (k := 605) (c1 := (B1 + 154)) (c2 := (B2 + 1831)) (rest := []) (as := [.inr 0, .inl (s1), .inl (s2)]) (xi181 605) (by decide) xm100 rfl ⟨rfl, Nat.le_of_ble_eq_true rfl, by decide⟩ (Or.inr (x_okt (ok_WS hS))) (x_FKo hS (f_load hS hF s1 s2)) ?_
  rintro v h1 ⟨z2, P2, M2, hq, hS2, hK⟩
  cases hq
  have a0 : M2 163 0 = 0 := ((hK 163 0 (by omega)).trans (hA 0)).trans (if_neg (by omega))
  have a1 : M2 163 1 = 0 := ((hK 163 1 (by omega)).trans (hA 1)).trans (if_neg (by omega))
  have a2 : M2 163 2 = 0 := ((hK 163 2 (by omega)).trans (hA 2)).trans (if_neg (by omega))
  have a3 : M2 163 3 = 0 := ((hK 163 3 (by omega)).trans (hA 3)).trans (if_neg (by omega))
  show x_Ev 181 606 [.inr (-2), .inr 0, .inr 162, .inl 0] [.inl ((-3))] ((B1 + 154), (B2 + 1831)) (z2, P2, M2) _
  rw [x_row_self M2 163]
  refine e_aload (k := 606) (xi181 606) rfl (by omega) ?_
  refine e_aload (k := 607) (xi181 607) rfl (by omega) ?_
  refine e_iload (k := 608) (xi181 608) rfl ?_
  refine e_iconst (k := 609) (xi181 609) ?_
  refine e_iadd (w := 1) (k := 610) (xi181 610) (by decide) ?_
  refine e_sld (w := s1) (k := 611) (xi181 611) ⟨by omega, by rw [(x_rown.trans ((hK _ _ (Or.inl (by omega))).trans hL))]; omega⟩ (x_rown.trans ((hK _ _ (Or.inl (by omega))).trans h1)) ?_
  refine e_aload (k := 612) (xi181 612) rfl (by omega) ?_
  refine e_iload (k := 613) (xi181 613) rfl ?_
  refine e_iconst (k := 614) (xi181 614) ?_
  refine e_iadd (w := 2) (k := 615) (xi181 615) (by decide) ?_
  refine e_sld (w := s2) (k := 616) (xi181 616) ⟨by omega, by rw [(x_rown.trans ((hK _ _ (Or.inl (by omega))).trans hL))]; omega⟩ (x_rown.trans ((hK _ _ (Or.inl (by omega))).trans h2)) ?_
  refine e_callR (k := 617) (c1 := (B1 + 154)) (c2 := (B2 + 1831)) (rest := [.inl ((-3))]) (as := [.inr 162, .inl (s1), .inl (s2)]) (xi181 617) (by decide) xm165 rfl ⟨rfl, Nat.le_of_ble_eq_true rfl, by decide⟩ (Or.inr (x_okt (ok_mo hS2))) (x_GVo (g_load (M := M2) hS2 a0 a1 a2 a3 s1 s2)) ?_
  rintro v h1 ⟨z3, P3, M3, hq, hK3⟩
  cases hq
  refine e_c_eq (k := 618) (xi181 618) (fun _ => l_tail ((hK3 _).trans ((hK _ _ (Or.inl (by omega))).trans hL))) (fun q => absurd rfl q)
set_option maxRecDepth 100000 in
theorem l_c23 {P M : Int → Int → Int} {B1 B2 : Nat} {s1 s2 s3 s4 : Int} (hS : x_Sh 170 P) (hI : ∀ k, P 155 k = -1) (hF : x_F0 M) (hN : M (3 + 7 * 0) 0 = 0) (hZ : x_TZ 1 M) (hA : ∀ i, M 163 i = a_F 144 i) (hM : ∀ k, M 162 k = 0) (hH : ∀ k, M 164 k = 0) (hL : M (-2) (-1) = 5) (h1 : M (-2) 1 = s1) (h2 : M (-2) 2 = s2) (h3 : M (-2) 3 = s3) (h4 : M (-2) 4 = s4) : x_Ev 181 621 [.inr (-2), .inr 0, .inr 162, .inl 0] [] (B1 + 154, B2 + 1831) (170, P, M) x_R1 := by
  refine e_aload (k := 621) (xi181 621) rfl (by omega) ?_
  refine e_aload (k := 622) (xi181 622) rfl (by omega) ?_
  refine e_iload (k := 623) (xi181 623) rfl ?_
  refine e_iconst (k := 624) (xi181 624) ?_
  refine e_iadd (w := 1) (k := 625) (xi181 625) (by decide) ?_
  refine e_sld (w := s1) (k := 626) (xi181 626) ⟨by omega, by rw [hL]; omega⟩ h1 ?_
  refine e_aload (k := 627) (xi181 627) rfl (by omega) ?_
  refine e_iload (k := 628) (xi181 628) rfl ?_
  refine e_iconst (k := 629) (xi181 629) ?_
  refine e_iadd (w := 2) (k := 630) (xi181 630) (by decide) ?_
  refine e_sld (w := s2) (k := 631) (xi181 631) ⟨by omega, by rw [hL]; omega⟩ h2 ?_
  refine e_aload (k := 632) (xi181 632) rfl (by omega) ?_
  refine e_iload (k := 633) (xi181 633) rfl ?_
  refine e_iconst (k := 634) (xi181 634) ?_
  refine e_iadd (w := 3) (k := 635) (xi181 635) (by decide) ?_
  refine e_sld (w := s3) (k := 636) (xi181 636) ⟨by omega, by rw [hL]; omega⟩ h3 ?_
  refine e_aload (k := 637) (xi181 637) rfl (by omega) ?_
  refine e_iload (k := 638) (xi181 638) rfl ?_
  refine e_iconst (k := 639) (xi181 639) ?_
  refine e_iadd (w := 4) (k := 640) (xi181 640) (by decide) ?_
  refine e_sld (w := s4) (k := 641) (xi181 641) ⟨by omega, by rw [hL]; omega⟩ h4 ?_
  refine e_callR (k := 642) (c1 := (B1 + 154)) (c2 := (B2 + 1831)) (rest := []) (as := [.inr 0, .inl (s1), .inl (s2), .inl (s3), .inl (s4)]) (xi181 642) (by decide) xm101 rfl ⟨rfl, Nat.le_of_ble_eq_true rfl, by decide⟩ (Or.inr (x_okt (ok_WS hS))) (x_FKo hS (f_demand hS hF s1 s2 s3 s4)) ?_
  rintro v h1 ⟨z2, P2, M2, hq, hS2, hK⟩
  cases hq
  have a0 : M2 163 0 = 0 := ((hK 163 0 (by omega)).trans (hA 0)).trans (if_neg (by omega))
  have a1 : M2 163 1 = 0 := ((hK 163 1 (by omega)).trans (hA 1)).trans (if_neg (by omega))
  have a2 : M2 163 2 = 0 := ((hK 163 2 (by omega)).trans (hA 2)).trans (if_neg (by omega))
  have a3 : M2 163 3 = 0 := ((hK 163 3 (by omega)).trans (hA 3)).trans (if_neg (by omega))
  show x_Ev 181 643 [.inr (-2), .inr 0, .inr 162, .inl 0] [.inl 0] ((B1 + 154), (B2 + 1831)) (z2, P2, M2) _
  rw [x_row_self M2 163]
  refine e_aload (k := 643) (xi181 643) rfl (by omega) ?_
  refine e_aload (k := 644) (xi181 644) rfl (by omega) ?_
  refine e_iload (k := 645) (xi181 645) rfl ?_
  refine e_iconst (k := 646) (xi181 646) ?_
  refine e_iadd (w := 1) (k := 647) (xi181 647) (by decide) ?_
  refine e_sld (w := s1) (k := 648) (xi181 648) ⟨by omega, by rw [(x_rown.trans ((hK _ _ (Or.inl (by omega))).trans hL))]; omega⟩ (x_rown.trans ((hK _ _ (Or.inl (by omega))).trans h1)) ?_
  refine e_aload (k := 649) (xi181 649) rfl (by omega) ?_
  refine e_iload (k := 650) (xi181 650) rfl ?_
  refine e_iconst (k := 651) (xi181 651) ?_
  refine e_iadd (w := 2) (k := 652) (xi181 652) (by decide) ?_
  refine e_sld (w := s2) (k := 653) (xi181 653) ⟨by omega, by rw [(x_rown.trans ((hK _ _ (Or.inl (by omega))).trans hL))]; omega⟩ (x_rown.trans ((hK _ _ (Or.inl (by omega))).trans h2)) ?_
  refine e_aload (k := 654) (xi181 654) rfl (by omega) ?_
  refine e_iload (k := 655) (xi181 655) rfl ?_
  refine e_iconst (k := 656) (xi181 656) ?_
  refine e_iadd (w := 3) (k := 657) (xi181 657) (by decide) ?_
  refine e_sld (w := s3) (k := 658) (xi181 658) ⟨by omega, by rw [(x_rown.trans ((hK _ _ (Or.inl (by omega))).trans hL))]; omega⟩ (x_rown.trans ((hK _ _ (Or.inl (by omega))).trans h3)) ?_
  refine e_aload (k := 659) (xi181 659) rfl (by omega) ?_
  refine e_iload (k := 660) (xi181 660) rfl ?_
  refine e_iconst (k := 661) (xi181 661) ?_
  refine e_iadd (w := 4) (k := 662) (xi181 662) (by decide) ?_
  refine e_sld (w := s4) (k := 663) (xi181 663) ⟨by omega, by rw [(x_rown.trans ((hK _ _ (Or.inl (by omega))).trans hL))]; omega⟩ (x_rown.trans ((hK _ _ (Or.inl (by omega))).trans h4)) ?_
  refine e_callR (k := 664) (c1 := (B1 + 154)) (c2 := (B2 + 1831)) (rest := [.inl 0]) (as := [.inr 162, .inl (s1), .inl (s2), .inl (s3), .inl (s4)]) (xi181 664) (by decide) xm166 rfl ⟨rfl, Nat.le_of_ble_eq_true rfl, by decide⟩ (Or.inr (x_okt (ok_mo hS2))) (x_GVo (g_demand (M := M2) hS2 a0 a1 a2 a3 s1 s2 s3 s4)) ?_
  rintro v h1 ⟨z3, P3, M3, hq, hK3⟩
  cases hq
  refine e_c_eq (k := 665) (xi181 665) (fun _ => l_tail ((hK3 _).trans ((hK _ _ (Or.inl (by omega))).trans hL))) (fun q => absurd rfl q)
set_option maxRecDepth 100000 in
theorem l_c24 {P M : Int → Int → Int} {B1 B2 : Nat} {s1 s2 s3 s4 : Int} (hS : x_Sh 170 P) (hI : ∀ k, P 155 k = -1) (hF : x_F0 M) (hN : M (3 + 7 * 0) 0 = 0) (hZ : x_TZ 1 M) (hA : ∀ i, M 163 i = a_F 144 i) (hM : ∀ k, M 162 k = 0) (hH : ∀ k, M 164 k = 0) (hL : M (-2) (-1) = 5) (h1 : M (-2) 1 = s1) (h2 : M (-2) 2 = s2) (h3 : M (-2) 3 = s3) (h4 : M (-2) 4 = s4) : x_Ev 181 668 [.inr (-2), .inr 0, .inr 162, .inl 0] [] (B1 + 154, B2 + 1831) (170, P, M) x_R1 := by
  refine e_aload (k := 668) (xi181 668) rfl (by omega) ?_
  refine e_aload (k := 669) (xi181 669) rfl (by omega) ?_
  refine e_iload (k := 670) (xi181 670) rfl ?_
  refine e_iconst (k := 671) (xi181 671) ?_
  refine e_iadd (w := 1) (k := 672) (xi181 672) (by decide) ?_
  refine e_sld (w := s1) (k := 673) (xi181 673) ⟨by omega, by rw [hL]; omega⟩ h1 ?_
  refine e_aload (k := 674) (xi181 674) rfl (by omega) ?_
  refine e_iload (k := 675) (xi181 675) rfl ?_
  refine e_iconst (k := 676) (xi181 676) ?_
  refine e_iadd (w := 2) (k := 677) (xi181 677) (by decide) ?_
  refine e_sld (w := s2) (k := 678) (xi181 678) ⟨by omega, by rw [hL]; omega⟩ h2 ?_
  refine e_aload (k := 679) (xi181 679) rfl (by omega) ?_
  refine e_iload (k := 680) (xi181 680) rfl ?_
  refine e_iconst (k := 681) (xi181 681) ?_
  refine e_iadd (w := 3) (k := 682) (xi181 682) (by decide) ?_
  refine e_sld (w := s3) (k := 683) (xi181 683) ⟨by omega, by rw [hL]; omega⟩ h3 ?_
  refine e_callR (k := 684) (c1 := (B1 + 154)) (c2 := (B2 + 1831)) (rest := []) (as := [.inr 0, .inl (s1), .inl (s2), .inl (s3)]) (xi181 684) (by decide) xm102 rfl ⟨rfl, Nat.le_of_ble_eq_true rfl, by decide⟩ (Or.inr (x_okt (ok_WS hS))) (x_FKo hS (f_runs hS hF s1 s2 s3)) ?_
  rintro v h1 ⟨z2, P2, M2, hq, hS2, hK⟩
  cases hq
  have a0 : M2 163 0 = 0 := ((hK 163 0 (by omega)).trans (hA 0)).trans (if_neg (by omega))
  have a1 : M2 163 1 = 0 := ((hK 163 1 (by omega)).trans (hA 1)).trans (if_neg (by omega))
  have a2 : M2 163 2 = 0 := ((hK 163 2 (by omega)).trans (hA 2)).trans (if_neg (by omega))
  have a3 : M2 163 3 = 0 := ((hK 163 3 (by omega)).trans (hA 3)).trans (if_neg (by omega))
  show x_Ev 181 685 [.inr (-2), .inr 0, .inr 162, .inl 0] [.inl ((-3))] ((B1 + 154), (B2 + 1831)) (z2, P2, M2) _
  rw [x_row_self M2 163]
  refine e_aload (k := 685) (xi181 685) rfl (by omega) ?_
  refine e_aload (k := 686) (xi181 686) rfl (by omega) ?_
  refine e_iload (k := 687) (xi181 687) rfl ?_
  refine e_iconst (k := 688) (xi181 688) ?_
  refine e_iadd (w := 1) (k := 689) (xi181 689) (by decide) ?_
  refine e_sld (w := s1) (k := 690) (xi181 690) ⟨by omega, by rw [(x_rown.trans ((hK _ _ (Or.inl (by omega))).trans hL))]; omega⟩ (x_rown.trans ((hK _ _ (Or.inl (by omega))).trans h1)) ?_
  refine e_aload (k := 691) (xi181 691) rfl (by omega) ?_
  refine e_iload (k := 692) (xi181 692) rfl ?_
  refine e_iconst (k := 693) (xi181 693) ?_
  refine e_iadd (w := 2) (k := 694) (xi181 694) (by decide) ?_
  refine e_sld (w := s2) (k := 695) (xi181 695) ⟨by omega, by rw [(x_rown.trans ((hK _ _ (Or.inl (by omega))).trans hL))]; omega⟩ (x_rown.trans ((hK _ _ (Or.inl (by omega))).trans h2)) ?_
  refine e_aload (k := 696) (xi181 696) rfl (by omega) ?_
  refine e_iload (k := 697) (xi181 697) rfl ?_
  refine e_iconst (k := 698) (xi181 698) ?_
  refine e_iadd (w := 3) (k := 699) (xi181 699) (by decide) ?_
  refine e_sld (w := s3) (k := 700) (xi181 700) ⟨by omega, by rw [(x_rown.trans ((hK _ _ (Or.inl (by omega))).trans hL))]; omega⟩ (x_rown.trans ((hK _ _ (Or.inl (by omega))).trans h3)) ?_
  refine e_callR (k := 701) (c1 := (B1 + 154)) (c2 := (B2 + 1831)) (rest := [.inl ((-3))]) (as := [.inr 162, .inl (s1), .inl (s2), .inl (s3)]) (xi181 701) (by decide) xm168 rfl ⟨rfl, Nat.le_of_ble_eq_true rfl, by decide⟩ (Or.inr (x_okt (ok_mo hS2))) (x_GVo (g_runs (M := M2) hS2 a0 a1 a2 a3 s1 s2 s3)) ?_
  rintro v h1 ⟨z3, P3, M3, hq, hK3⟩
  cases hq
  refine e_c_eq (k := 702) (xi181 702) (fun _ => l_tail ((hK3 _).trans ((hK _ _ (Or.inl (by omega))).trans hL))) (fun q => absurd rfl q)
set_option maxRecDepth 100000 in
theorem l_c25 {P M : Int → Int → Int} {B1 B2 : Nat} {s1 s2 s3 s4 : Int} (hS : x_Sh 170 P) (hI : ∀ k, P 155 k = -1) (hF : x_F0 M) (hN : M (3 + 7 * 0) 0 = 0) (hZ : x_TZ 1 M) (hA : ∀ i, M 163 i = a_F 144 i) (hM : ∀ k, M 162 k = 0) (hH : ∀ k, M 164 k = 0) (hL : M (-2) (-1) = 5) (h1 : M (-2) 1 = s1) (h2 : M (-2) 2 = s2) (h3 : M (-2) 3 = s3) (h4 : M (-2) 4 = s4) : x_Ev 181 705 [.inr (-2), .inr 0, .inr 162, .inl 0] [] (B1 + 154, B2 + 1831) (170, P, M) x_R1 := by
  refine e_aload (k := 705) (xi181 705) rfl (by omega) ?_
  refine e_aload (k := 706) (xi181 706) rfl (by omega) ?_
  refine e_iload (k := 707) (xi181 707) rfl ?_
  refine e_iconst (k := 708) (xi181 708) ?_
  refine e_iadd (w := 1) (k := 709) (xi181 709) (by decide) ?_
  refine e_sld (w := s1) (k := 710) (xi181 710) ⟨by omega, by rw [hL]; omega⟩ h1 ?_
  refine e_callR (k := 711) (c1 := (B1 + 154)) (c2 := (B2 + 1831)) (rest := []) (as := [.inr 0, .inl (s1)]) (xi181 711) (by decide) xm103 rfl ⟨rfl, Nat.le_of_ble_eq_true rfl, by decide⟩ (Or.inr (x_okt (ok_WS hS))) (x_FKo hS (f_shortage hS hF s1)) ?_
  rintro v h1 ⟨z2, P2, M2, hq, hS2, hK⟩
  cases hq
  have a0 : M2 163 0 = 0 := ((hK 163 0 (by omega)).trans (hA 0)).trans (if_neg (by omega))
  have a1 : M2 163 1 = 0 := ((hK 163 1 (by omega)).trans (hA 1)).trans (if_neg (by omega))
  have a2 : M2 163 2 = 0 := ((hK 163 2 (by omega)).trans (hA 2)).trans (if_neg (by omega))
  have a3 : M2 163 3 = 0 := ((hK 163 3 (by omega)).trans (hA 3)).trans (if_neg (by omega))
  show x_Ev 181 712 [.inr (-2), .inr 0, .inr 162, .inl 0] [.inl ((-1000))] ((B1 + 154), (B2 + 1831)) (z2, P2, M2) _
  rw [x_row_self M2 163]
  refine e_aload (k := 712) (xi181 712) rfl (by omega) ?_
  refine e_aload (k := 713) (xi181 713) rfl (by omega) ?_
  refine e_iload (k := 714) (xi181 714) rfl ?_
  refine e_iconst (k := 715) (xi181 715) ?_
  refine e_iadd (w := 1) (k := 716) (xi181 716) (by decide) ?_
  refine e_sld (w := s1) (k := 717) (xi181 717) ⟨by omega, by rw [(x_rown.trans ((hK _ _ (Or.inl (by omega))).trans hL))]; omega⟩ (x_rown.trans ((hK _ _ (Or.inl (by omega))).trans h1)) ?_
  refine e_callR (k := 718) (c1 := (B1 + 154)) (c2 := (B2 + 1831)) (rest := [.inl ((-1000))]) (as := [.inr 162, .inl (s1)]) (xi181 718) (by decide) xm169 rfl ⟨rfl, Nat.le_of_ble_eq_true rfl, by decide⟩ (Or.inr (x_okt (ok_mo hS2))) (x_GVo (g_shortage (M := M2) hS2 a0 a1 a2 a3 s1)) ?_
  rintro v h1 ⟨z3, P3, M3, hq, hK3⟩
  cases hq
  refine e_c_eq (k := 719) (xi181 719) (fun _ => l_tail ((hK3 _).trans ((hK _ _ (Or.inl (by omega))).trans hL))) (fun q => absurd rfl q)
set_option maxRecDepth 100000 in
theorem l_c26 {P M : Int → Int → Int} {B1 B2 : Nat} {s1 s2 s3 s4 : Int} (hS : x_Sh 170 P) (hI : ∀ k, P 155 k = -1) (hF : x_F0 M) (hN : M (3 + 7 * 0) 0 = 0) (hZ : x_TZ 1 M) (hA : ∀ i, M 163 i = a_F 144 i) (hM : ∀ k, M 162 k = 0) (hH : ∀ k, M 164 k = 0) (hL : M (-2) (-1) = 5) (h1 : M (-2) 1 = s1) (h2 : M (-2) 2 = s2) (h3 : M (-2) 3 = s3) (h4 : M (-2) 4 = s4) : x_Ev 181 722 [.inr (-2), .inr 0, .inr 162, .inl 0] [] (B1 + 154, B2 + 1831) (170, P, M) x_R1 := by
  refine e_aload (k := 722) (xi181 722) rfl (by omega) ?_
  refine e_aload (k := 723) (xi181 723) rfl (by omega) ?_
  refine e_iload (k := 724) (xi181 724) rfl ?_
  refine e_iconst (k := 725) (xi181 725) ?_
  refine e_iadd (w := 1) (k := 726) (xi181 726) (by decide) ?_
  refine e_sld (w := s1) (k := 727) (xi181 727) ⟨by omega, by rw [hL]; omega⟩ h1 ?_
  refine e_aload (k := 728) (xi181 728) rfl (by omega) ?_
  refine e_iload (k := 729) (xi181 729) rfl ?_
  refine e_iconst (k := 730) (xi181 730) ?_
  refine e_iadd (w := 2) (k := 731) (xi181 731) (by decide) ?_
  refine e_sld (w := s2) (k := 732) (xi181 732) ⟨by omega, by rw [hL]; omega⟩ h2 ?_
  refine e_callR (k := 733) (c1 := (B1 + 154)) (c2 := (B2 + 1831)) (rest := []) (as := [.inr 0, .inl (s1), .inl (s2)]) (xi181 733) (by decide) xm104 rfl ⟨rfl, Nat.le_of_ble_eq_true rfl, by decide⟩ (Or.inr (x_okt (ok_WS hS))) (x_FKo hS (f_want hS hF s1 s2)) ?_
  rintro v h1 ⟨z2, P2, M2, hq, hS2, hK⟩
  cases hq
  have a0 : M2 163 0 = 0 := ((hK 163 0 (by omega)).trans (hA 0)).trans (if_neg (by omega))
  have a1 : M2 163 1 = 0 := ((hK 163 1 (by omega)).trans (hA 1)).trans (if_neg (by omega))
  have a2 : M2 163 2 = 0 := ((hK 163 2 (by omega)).trans (hA 2)).trans (if_neg (by omega))
  have a3 : M2 163 3 = 0 := ((hK 163 3 (by omega)).trans (hA 3)).trans (if_neg (by omega))
  show x_Ev 181 734 [.inr (-2), .inr 0, .inr 162, .inl 0] [.inl 0] ((B1 + 154), (B2 + 1831)) (z2, P2, M2) _
  rw [x_row_self M2 163]
  refine e_aload (k := 734) (xi181 734) rfl (by omega) ?_
  refine e_aload (k := 735) (xi181 735) rfl (by omega) ?_
  refine e_iload (k := 736) (xi181 736) rfl ?_
  refine e_iconst (k := 737) (xi181 737) ?_
  refine e_iadd (w := 1) (k := 738) (xi181 738) (by decide) ?_
  refine e_sld (w := s1) (k := 739) (xi181 739) ⟨by omega, by rw [(x_rown.trans ((hK _ _ (Or.inl (by omega))).trans hL))]; omega⟩ (x_rown.trans ((hK _ _ (Or.inl (by omega))).trans h1)) ?_
  refine e_aload (k := 740) (xi181 740) rfl (by omega) ?_
  refine e_iload (k := 741) (xi181 741) rfl ?_
  refine e_iconst (k := 742) (xi181 742) ?_
  refine e_iadd (w := 2) (k := 743) (xi181 743) (by decide) ?_
  refine e_sld (w := s2) (k := 744) (xi181 744) ⟨by omega, by rw [(x_rown.trans ((hK _ _ (Or.inl (by omega))).trans hL))]; omega⟩ (x_rown.trans ((hK _ _ (Or.inl (by omega))).trans h2)) ?_
  refine e_callR (k := 745) (c1 := (B1 + 154)) (c2 := (B2 + 1831)) (rest := [.inl 0]) (as := [.inr 162, .inl (s1), .inl (s2)]) (xi181 745) (by decide) xm170 rfl ⟨rfl, Nat.le_of_ble_eq_true rfl, by decide⟩ (Or.inr (x_okt (ok_mo hS2))) (x_GVo (g_want (M := M2) hS2 a0 a1 a2 a3 s1 s2)) ?_
  rintro v h1 ⟨z3, P3, M3, hq, hK3⟩
  cases hq
  refine e_c_eq (k := 746) (xi181 746) (fun _ => l_tail ((hK3 _).trans ((hK _ _ (Or.inl (by omega))).trans hL))) (fun q => absurd rfl q)
set_option maxRecDepth 100000 in
theorem l_c27 {P M : Int → Int → Int} {B1 B2 : Nat} {s1 s2 s3 s4 : Int} (hS : x_Sh 170 P) (hI : ∀ k, P 155 k = -1) (hF : x_F0 M) (hN : M (3 + 7 * 0) 0 = 0) (hZ : x_TZ 1 M) (hA : ∀ i, M 163 i = a_F 144 i) (hM : ∀ k, M 162 k = 0) (hH : ∀ k, M 164 k = 0) (hL : M (-2) (-1) = 5) (h1 : M (-2) 1 = s1) (h2 : M (-2) 2 = s2) (h3 : M (-2) 3 = s3) (h4 : M (-2) 4 = s4) : x_Ev 181 749 [.inr (-2), .inr 0, .inr 162, .inl 0] [] (B1 + 154, B2 + 1831) (170, P, M) x_R1 := by
  refine e_aload (k := 749) (xi181 749) rfl (by omega) ?_
  refine e_aload (k := 750) (xi181 750) rfl (by omega) ?_
  refine e_iload (k := 751) (xi181 751) rfl ?_
  refine e_iconst (k := 752) (xi181 752) ?_
  refine e_iadd (w := 1) (k := 753) (xi181 753) (by decide) ?_
  refine e_sld (w := s1) (k := 754) (xi181 754) ⟨by omega, by rw [hL]; omega⟩ h1 ?_
  refine e_callR (k := 755) (c1 := (B1 + 154)) (c2 := (B2 + 1831)) (rest := []) (as := [.inr 0, .inl (s1)]) (xi181 755) (by decide) xm105 rfl ⟨rfl, Nat.le_of_ble_eq_true rfl, by decide⟩ (Or.inr (x_okt (ok_WS hS))) (x_FKo hS (f_plan hS hF s1)) ?_
  rintro v h1 ⟨z2, P2, M2, hq, hS2, hK⟩
  cases hq
  have a0 : M2 163 0 = 0 := ((hK 163 0 (by omega)).trans (hA 0)).trans (if_neg (by omega))
  have a1 : M2 163 1 = 0 := ((hK 163 1 (by omega)).trans (hA 1)).trans (if_neg (by omega))
  have a2 : M2 163 2 = 0 := ((hK 163 2 (by omega)).trans (hA 2)).trans (if_neg (by omega))
  have a3 : M2 163 3 = 0 := ((hK 163 3 (by omega)).trans (hA 3)).trans (if_neg (by omega))
  show x_Ev 181 756 [.inr (-2), .inr 0, .inr 162, .inl 0] [.inl ((-1))] ((B1 + 154), (B2 + 1831)) (z2, P2, M2) _
  rw [x_row_self M2 163]
  refine e_aload (k := 756) (xi181 756) rfl (by omega) ?_
  refine e_aload (k := 757) (xi181 757) rfl (by omega) ?_
  refine e_iload (k := 758) (xi181 758) rfl ?_
  refine e_iconst (k := 759) (xi181 759) ?_
  refine e_iadd (w := 1) (k := 760) (xi181 760) (by decide) ?_
  refine e_sld (w := s1) (k := 761) (xi181 761) ⟨by omega, by rw [(x_rown.trans ((hK _ _ (Or.inl (by omega))).trans hL))]; omega⟩ (x_rown.trans ((hK _ _ (Or.inl (by omega))).trans h1)) ?_
  refine e_callR (k := 762) (c1 := (B1 + 154)) (c2 := (B2 + 1831)) (rest := [.inl ((-1))]) (as := [.inr 162, .inl (s1)]) (xi181 762) (by decide) xm174 rfl ⟨rfl, Nat.le_of_ble_eq_true rfl, by decide⟩ (Or.inr (x_okt (ok_mo hS2))) (x_GVo (g_plan (M := M2) hS2 a0 a1 a2 a3 s1)) ?_
  rintro v h1 ⟨z3, P3, M3, hq, hK3⟩
  cases hq
  refine e_c_eq (k := 763) (xi181 763) (fun _ => l_tail ((hK3 _).trans ((hK _ _ (Or.inl (by omega))).trans hL))) (fun q => absurd rfl q)
set_option maxRecDepth 100000 in
theorem l_c28 {P M : Int → Int → Int} {B1 B2 : Nat} {s1 s2 s3 s4 : Int} (hS : x_Sh 170 P) (hI : ∀ k, P 155 k = -1) (hF : x_F0 M) (hN : M (3 + 7 * 0) 0 = 0) (hZ : x_TZ 1 M) (hA : ∀ i, M 163 i = a_F 144 i) (hM : ∀ k, M 162 k = 0) (hH : ∀ k, M 164 k = 0) (hL : M (-2) (-1) = 5) (h1 : M (-2) 1 = s1) (h2 : M (-2) 2 = s2) (h3 : M (-2) 3 = s3) (h4 : M (-2) 4 = s4) : x_Ev 181 766 [.inr (-2), .inr 0, .inr 162, .inl 0] [] (B1 + 154, B2 + 1831) (170, P, M) x_R1 := by
  refine e_aload (k := 766) (xi181 766) rfl (by omega) ?_
  refine e_aload (k := 767) (xi181 767) rfl (by omega) ?_
  refine e_iload (k := 768) (xi181 768) rfl ?_
  refine e_iconst (k := 769) (xi181 769) ?_
  refine e_iadd (w := 1) (k := 770) (xi181 770) (by decide) ?_
  refine e_sld (w := s1) (k := 771) (xi181 771) ⟨by omega, by rw [hL]; omega⟩ h1 ?_
  refine e_callR (k := 772) (c1 := (B1 + 154)) (c2 := (B2 + 1831)) (rest := []) (as := [.inr 0, .inl (s1)]) (xi181 772) (by decide) xm106 rfl ⟨rfl, Nat.le_of_ble_eq_true rfl, by decide⟩ (Or.inr (x_okt (ok_WS hS))) (x_FKo hS (f_round hS hF s1)) ?_
  rintro v h1 ⟨z2, P2, M2, hq, hS2, hK⟩
  cases hq
  have a0 : M2 163 0 = 0 := ((hK 163 0 (by omega)).trans (hA 0)).trans (if_neg (by omega))
  have a1 : M2 163 1 = 0 := ((hK 163 1 (by omega)).trans (hA 1)).trans (if_neg (by omega))
  have a2 : M2 163 2 = 0 := ((hK 163 2 (by omega)).trans (hA 2)).trans (if_neg (by omega))
  have a3 : M2 163 3 = 0 := ((hK 163 3 (by omega)).trans (hA 3)).trans (if_neg (by omega))
  show x_Ev 181 773 [.inr (-2), .inr 0, .inr 162, .inl 0] [.inl ((-1))] ((B1 + 154), (B2 + 1831)) (z2, P2, M2) _
  rw [x_row_self M2 163]
  refine e_aload (k := 773) (xi181 773) rfl (by omega) ?_
  refine e_aload (k := 774) (xi181 774) rfl (by omega) ?_
  refine e_iload (k := 775) (xi181 775) rfl ?_
  refine e_iconst (k := 776) (xi181 776) ?_
  refine e_iadd (w := 1) (k := 777) (xi181 777) (by decide) ?_
  refine e_sld (w := s1) (k := 778) (xi181 778) ⟨by omega, by rw [(x_rown.trans ((hK _ _ (Or.inl (by omega))).trans hL))]; omega⟩ (x_rown.trans ((hK _ _ (Or.inl (by omega))).trans h1)) ?_
  refine e_callR (k := 779) (c1 := (B1 + 154)) (c2 := (B2 + 1831)) (rest := [.inl ((-1))]) (as := [.inr 162, .inl (s1)]) (xi181 779) (by decide) xm175 rfl ⟨rfl, Nat.le_of_ble_eq_true rfl, by decide⟩ (Or.inr (x_okt (ok_mo hS2))) (x_GVo (g_round (M := M2) hS2 a0 a1 a2 a3 (fun k => (hK 162 k (by omega)).trans (hM k)) s1)) ?_
  rintro v h1 ⟨z3, P3, M3, hq, hK3⟩
  cases hq
  refine e_c_eq (k := 780) (xi181 780) (fun _ => l_tail ((hK3 _).trans ((hK _ _ (Or.inl (by omega))).trans hL))) (fun q => absurd rfl q)
set_option maxRecDepth 100000 in
theorem l_c29 {P M : Int → Int → Int} {B1 B2 : Nat} {s1 s2 s3 s4 : Int} (hS : x_Sh 170 P) (hI : ∀ k, P 155 k = -1) (hF : x_F0 M) (hN : M (3 + 7 * 0) 0 = 0) (hZ : x_TZ 1 M) (hA : ∀ i, M 163 i = a_F 144 i) (hM : ∀ k, M 162 k = 0) (hH : ∀ k, M 164 k = 0) (hL : M (-2) (-1) = 5) (h1 : M (-2) 1 = s1) (h2 : M (-2) 2 = s2) (h3 : M (-2) 3 = s3) (h4 : M (-2) 4 = s4) : x_Ev 181 783 [.inr (-2), .inr 0, .inr 162, .inl 0] [] (B1 + 154, B2 + 1831) (170, P, M) x_R1 := by
  refine e_aload (k := 783) (xi181 783) rfl (by omega) ?_
  refine e_aload (k := 784) (xi181 784) rfl (by omega) ?_
  refine e_iload (k := 785) (xi181 785) rfl ?_
  refine e_iconst (k := 786) (xi181 786) ?_
  refine e_iadd (w := 1) (k := 787) (xi181 787) (by decide) ?_
  refine e_sld (w := s1) (k := 788) (xi181 788) ⟨by omega, by rw [hL]; omega⟩ h1 ?_
  refine e_callR (k := 789) (c1 := (B1 + 154)) (c2 := (B2 + 1831)) (rest := []) (as := [.inr 0, .inl (s1)]) (xi181 789) (by decide) xm107 rfl ⟨rfl, Nat.le_of_ble_eq_true rfl, by decide⟩ (Or.inr (x_okt (ok_WS hS))) (x_FKo hS (f_carry hS hF s1)) ?_
  rintro v h1 ⟨z2, P2, M2, hq, hS2, hK⟩
  cases hq
  have a0 : M2 163 0 = 0 := ((hK 163 0 (by omega)).trans (hA 0)).trans (if_neg (by omega))
  have a1 : M2 163 1 = 0 := ((hK 163 1 (by omega)).trans (hA 1)).trans (if_neg (by omega))
  have a2 : M2 163 2 = 0 := ((hK 163 2 (by omega)).trans (hA 2)).trans (if_neg (by omega))
  have a3 : M2 163 3 = 0 := ((hK 163 3 (by omega)).trans (hA 3)).trans (if_neg (by omega))
  show x_Ev 181 790 [.inr (-2), .inr 0, .inr 162, .inl 0] [.inl ((-1))] ((B1 + 154), (B2 + 1831)) (z2, P2, M2) _
  rw [x_row_self M2 163]
  refine e_aload (k := 790) (xi181 790) rfl (by omega) ?_
  refine e_aload (k := 791) (xi181 791) rfl (by omega) ?_
  refine e_iload (k := 792) (xi181 792) rfl ?_
  refine e_iconst (k := 793) (xi181 793) ?_
  refine e_iadd (w := 1) (k := 794) (xi181 794) (by decide) ?_
  refine e_sld (w := s1) (k := 795) (xi181 795) ⟨by omega, by rw [(x_rown.trans ((hK _ _ (Or.inl (by omega))).trans hL))]; omega⟩ (x_rown.trans ((hK _ _ (Or.inl (by omega))).trans h1)) ?_
  refine e_callR (k := 796) (c1 := (B1 + 154)) (c2 := (B2 + 1831)) (rest := [.inl ((-1))]) (as := [.inr 162, .inl (s1)]) (xi181 796) (by decide) xm177 rfl ⟨rfl, Nat.le_of_ble_eq_true rfl, by decide⟩ (Or.inr (x_okt (ok_mo hS2))) (x_GVo (g_carry (M := M2) hS2 a0 a1 a2 a3 s1)) ?_
  rintro v h1 ⟨z3, P3, M3, hq, hK3⟩
  cases hq
  refine e_c_eq (k := 797) (xi181 797) (fun _ => l_tail ((hK3 _).trans ((hK _ _ (Or.inl (by omega))).trans hL))) (fun q => absurd rfl q)
set_option maxRecDepth 100000 in
theorem l_c30 {P M : Int → Int → Int} {B1 B2 : Nat} {s1 s2 s3 s4 : Int} (hS : x_Sh 170 P) (hI : ∀ k, P 155 k = -1) (hF : x_F0 M) (hN : M (3 + 7 * 0) 0 = 0) (hZ : x_TZ 1 M) (hA : ∀ i, M 163 i = a_F 144 i) (hM : ∀ k, M 162 k = 0) (hH : ∀ k, M 164 k = 0) (hL : M (-2) (-1) = 5) (h1 : M (-2) 1 = s1) (h2 : M (-2) 2 = s2) (h3 : M (-2) 3 = s3) (h4 : M (-2) 4 = s4) : x_Ev 181 800 [.inr (-2), .inr 0, .inr 162, .inl 0] [] (B1 + 154, B2 + 1831) (170, P, M) x_R1 := by
  refine e_aload (k := 800) (xi181 800) rfl (by omega) ?_
  refine e_aload (k := 801) (xi181 801) rfl (by omega) ?_
  refine e_iload (k := 802) (xi181 802) rfl ?_
  refine e_iconst (k := 803) (xi181 803) ?_
  refine e_iadd (w := 1) (k := 804) (xi181 804) (by decide) ?_
  refine e_sld (w := s1) (k := 805) (xi181 805) ⟨by omega, by rw [hL]; omega⟩ h1 ?_
  refine e_callR (k := 806) (c1 := B1) (c2 := B2) (rest := []) (as := [.inr 0, .inl (s1)]) (xi181 806) (by decide) xm108 rfl ⟨rfl, Nat.le_of_ble_eq_true rfl, by decide⟩ (Or.inr (x_okt (ok_WS hS))) (f_image hS hI hZ s1) ?_
  rintro v h1 ⟨z2, P2, M2, hq, hS2, hK⟩
  cases hq
  have a0 : M2 163 0 = 0 := ((hK 163 0 (by omega)).trans (hA 0)).trans (if_neg (by omega))
  have a1 : M2 163 1 = 0 := ((hK 163 1 (by omega)).trans (hA 1)).trans (if_neg (by omega))
  have a2 : M2 163 2 = 0 := ((hK 163 2 (by omega)).trans (hA 2)).trans (if_neg (by omega))
  have a3 : M2 163 3 = 0 := ((hK 163 3 (by omega)).trans (hA 3)).trans (if_neg (by omega))
  show x_Ev 181 807 [.inr (-2), .inr 0, .inr 162, .inl 0] [.inl (if 0 ≤ s1 ∧ s1 < 4 then 1 else 0)] (B1, B2) (z2, P2, M2) _
  rw [x_row_self M2 163]
  refine e_aload (k := 807) (xi181 807) rfl (by omega) ?_
  refine e_aload (k := 808) (xi181 808) rfl (by omega) ?_
  refine e_iload (k := 809) (xi181 809) rfl ?_
  refine e_iconst (k := 810) (xi181 810) ?_
  refine e_iadd (w := 1) (k := 811) (xi181 811) (by decide) ?_
  refine e_sld (w := s1) (k := 812) (xi181 812) ⟨by omega, by rw [(x_rown.trans ((hK _ _ (Or.inl (by omega))).trans hL))]; omega⟩ (x_rown.trans ((hK _ _ (Or.inl (by omega))).trans h1)) ?_
  refine e_callR (k := 813) (c1 := B1) (c2 := B2) (rest := [.inl (if 0 ≤ s1 ∧ s1 < 4 then 1 else 0)]) (as := [.inr 162, .inl (s1)]) (xi181 813) (by decide) xm178 rfl ⟨rfl, Nat.le_of_ble_eq_true rfl, by decide⟩ (Or.inr (x_okt (ok_mo hS2))) (g_image (M := M2) hS2 a0 a1 a2 a3 s1) ?_
  rintro v h1 ⟨z3, P3, M3, hq, hK3⟩
  cases hq
  refine e_c_eq (k := 814) (xi181 814) (fun _ => l_tail ((hK3 _).trans ((hK _ _ (Or.inl (by omega))).trans hL))) (fun q => absurd rfl q)
set_option maxRecDepth 100000 in
theorem l_c31 {P M : Int → Int → Int} {B1 B2 : Nat} {s1 s2 s3 s4 : Int} (hS : x_Sh 170 P) (hI : ∀ k, P 155 k = -1) (hF : x_F0 M) (hN : M (3 + 7 * 0) 0 = 0) (hZ : x_TZ 1 M) (hA : ∀ i, M 163 i = a_F 144 i) (hM : ∀ k, M 162 k = 0) (hH : ∀ k, M 164 k = 0) (hL : M (-2) (-1) = 5) (h1 : M (-2) 1 = s1) (h2 : M (-2) 2 = s2) (h3 : M (-2) 3 = s3) (h4 : M (-2) 4 = s4) : x_Ev 181 817 [.inr (-2), .inr 0, .inr 162, .inl 0] [] (B1 + 154, B2 + 1831) (170, P, M) x_R1 := by
  refine e_aload (k := 817) (xi181 817) rfl (by omega) ?_
  refine e_aload (k := 818) (xi181 818) rfl (by omega) ?_
  refine e_iload (k := 819) (xi181 819) rfl ?_
  refine e_iconst (k := 820) (xi181 820) ?_
  refine e_iadd (w := 1) (k := 821) (xi181 821) (by decide) ?_
  refine e_sld (w := s1) (k := 822) (xi181 822) ⟨by omega, by rw [hL]; omega⟩ h1 ?_
  refine e_callR (k := 823) (c1 := (B1 + 154)) (c2 := (B2 + 1831)) (rest := []) (as := [.inr 0, .inl (s1)]) (xi181 823) (by decide) xm109 rfl ⟨rfl, Nat.le_of_ble_eq_true rfl, by decide⟩ (Or.inr (x_okt (ok_WS hS))) (f_again hS hF hI s1) ?_
  rintro v h1 ⟨z2, P2, M2, hq, hS2, hK⟩
  cases hq
  have a0 : M2 163 0 = 0 := ((hK 163 0 (by omega)).trans (hA 0)).trans (if_neg (by omega))
  have a1 : M2 163 1 = 0 := ((hK 163 1 (by omega)).trans (hA 1)).trans (if_neg (by omega))
  have a2 : M2 163 2 = 0 := ((hK 163 2 (by omega)).trans (hA 2)).trans (if_neg (by omega))
  have a3 : M2 163 3 = 0 := ((hK 163 3 (by omega)).trans (hA 3)).trans (if_neg (by omega))
  show x_Ev 181 824 [.inr (-2), .inr 0, .inr 162, .inl 0] [.inl 0] ((B1 + 154), (B2 + 1831)) (z2, P2, M2) _
  rw [x_row_self M2 163]
  refine e_aload (k := 824) (xi181 824) rfl (by omega) ?_
  refine e_aload (k := 825) (xi181 825) rfl (by omega) ?_
  refine e_iload (k := 826) (xi181 826) rfl ?_
  refine e_iconst (k := 827) (xi181 827) ?_
  refine e_iadd (w := 1) (k := 828) (xi181 828) (by decide) ?_
  refine e_sld (w := s1) (k := 829) (xi181 829) ⟨by omega, by rw [(x_rown.trans ((hK _ _ (Or.inl (by omega))).trans hL))]; omega⟩ (x_rown.trans ((hK _ _ (Or.inl (by omega))).trans h1)) ?_
  refine e_callR (k := 830) (c1 := (B1 + 154)) (c2 := (B2 + 1831)) (rest := [.inl 0]) (as := [.inr 162, .inl (s1)]) (xi181 830) (by decide) xm179 rfl ⟨rfl, Nat.le_of_ble_eq_true rfl, by decide⟩ (Or.inr (x_okt (ok_mo hS2))) (g_again (M := M2) hS2 a0 a1 a2 a3 (fun k => (hK 164 k (by omega)).trans (hH k)) s1) ?_
  rintro v h1 ⟨z3, P3, M3, hq, hK3⟩
  cases hq
  refine e_c_eq (k := 831) (xi181 831) (fun _ => l_tail ((hK3 _).trans ((hK _ _ (Or.inl (by omega))).trans hL))) (fun q => absurd rfl q)
set_option maxRecDepth 100000 in
theorem l_c32 {P M : Int → Int → Int} {B1 B2 : Nat} {s1 s2 s3 s4 : Int} (hS : x_Sh 170 P) (hI : ∀ k, P 155 k = -1) (hF : x_F0 M) (hN : M (3 + 7 * 0) 0 = 0) (hZ : x_TZ 1 M) (hA : ∀ i, M 163 i = a_F 144 i) (hM : ∀ k, M 162 k = 0) (hH : ∀ k, M 164 k = 0) (hL : M (-2) (-1) = 5) (h1 : M (-2) 1 = s1) (h2 : M (-2) 2 = s2) (h3 : M (-2) 3 = s3) (h4 : M (-2) 4 = s4) : x_Ev 181 834 [.inr (-2), .inr 0, .inr 162, .inl 0] [] (B1 + 154, B2 + 1831) (170, P, M) x_R1 := by
  refine e_aload (k := 834) (xi181 834) rfl (by omega) ?_
  refine e_aload (k := 835) (xi181 835) rfl (by omega) ?_
  refine e_iload (k := 836) (xi181 836) rfl ?_
  refine e_iconst (k := 837) (xi181 837) ?_
  refine e_iadd (w := 1) (k := 838) (xi181 838) (by decide) ?_
  refine e_sld (w := s1) (k := 839) (xi181 839) ⟨by omega, by rw [hL]; omega⟩ h1 ?_
  refine e_callR (k := 840) (c1 := (B1 + 154)) (c2 := (B2 + 1831)) (rest := []) (as := [.inr 0, .inl (s1)]) (xi181 840) (by decide) xm110 rfl ⟨rfl, Nat.le_of_ble_eq_true rfl, by decide⟩ (Or.inr (x_okt (ok_WS hS))) (f_count hS hF s1) ?_
  rintro v h1 ⟨z2, P2, M2, hq, hS2, hK⟩
  cases hq
  have a0 : M2 163 0 = 0 := ((hK 163 0 (by omega)).trans (hA 0)).trans (if_neg (by omega))
  have a1 : M2 163 1 = 0 := ((hK 163 1 (by omega)).trans (hA 1)).trans (if_neg (by omega))
  have a2 : M2 163 2 = 0 := ((hK 163 2 (by omega)).trans (hA 2)).trans (if_neg (by omega))
  have a3 : M2 163 3 = 0 := ((hK 163 3 (by omega)).trans (hA 3)).trans (if_neg (by omega))
  show x_Ev 181 841 [.inr (-2), .inr 0, .inr 162, .inl 0] [.inl (if 0 ≤ s1 ∧ s1 ≤ 8 then 0 else -1)] ((B1 + 154), (B2 + 1831)) (z2, P2, M2) _
  rw [x_row_self M2 163]
  refine e_aload (k := 841) (xi181 841) rfl (by omega) ?_
  refine e_aload (k := 842) (xi181 842) rfl (by omega) ?_
  refine e_iload (k := 843) (xi181 843) rfl ?_
  refine e_iconst (k := 844) (xi181 844) ?_
  refine e_iadd (w := 1) (k := 845) (xi181 845) (by decide) ?_
  refine e_sld (w := s1) (k := 846) (xi181 846) ⟨by omega, by rw [(x_rown.trans ((hK _ _ (Or.inl (by omega))).trans hL))]; omega⟩ (x_rown.trans ((hK _ _ (Or.inl (by omega))).trans h1)) ?_
  refine e_callR (k := 847) (c1 := (B1 + 154)) (c2 := (B2 + 1831)) (rest := [.inl (if 0 ≤ s1 ∧ s1 ≤ 8 then 0 else -1)]) (as := [.inr 162, .inl (s1)]) (xi181 847) (by decide) xm180 rfl ⟨rfl, Nat.le_of_ble_eq_true rfl, by decide⟩ (Or.inr (x_okt (ok_mo hS2))) (g_count (M := M2) hS2 a0 a1 a2 a3 s1) ?_
  rintro v h1 ⟨z3, P3, M3, hq, hK3⟩
  cases hq
  refine e_c_eq (k := 848) (xi181 848) (fun _ => l_tail ((hK3 _).trans ((hK _ _ (Or.inl (by omega))).trans hL))) (fun q => absurd rfl q)
set_option maxRecDepth 100000 in
theorem l_iter {P M : Int → Int → Int} {B1 B2 : Nat} (hS : x_Sh 170 P) (hI : ∀ k, P 155 k = -1) (hF : x_F0 M) (hN : M (3 + 7 * 0) 0 = 0) (hZ : x_TZ 1 M) (hA : ∀ i, M 163 i = a_F 144 i) (hM : ∀ k, M 162 k = 0) (hH : ∀ k, M 164 k = 0) (hL : M (-2) (-1) = 5) : x_Ev 181 16 [.inr (-2), .inr 0, .inr 162, .inl 0] [] (B1 + 154, B2 + 1831) (170, P, M) x_R1 := by
  refine e_aload (k := 16) (xi181 16) rfl (by omega) ?_
  refine e_iload (k := 17) (xi181 17) rfl ?_
  refine e_sld (w := M (-2) 0) (k := 18) (xi181 18) ⟨by omega, by rw [hL]; omega⟩ rfl ?_
  refine e_iconst (k := 19) (xi181 19) ?_
  refine e_iand (k := 20) (xi181 20) rfl ?_
  generalize (Int32.ofInt (M (-2) 0) &&& Int32.ofInt 63).toInt = s
  by_cases e0 : s = 0
  · subst e0
    exact e_sw (t2 := 22) (k := 21) (xi181 21) (by decide +kernel) (l_c0 hS hI hF hN hZ hA hM hH hL rfl rfl rfl rfl)
  by_cases e1 : s = 1
  · subst e1
    exact e_sw (t2 := 39) (k := 21) (xi181 21) (by decide +kernel) (l_c1 hS hI hF hN hZ hA hM hH hL rfl rfl rfl rfl)
  by_cases e2 : s = 2
  · subst e2
    exact e_sw (t2 := 76) (k := 21) (xi181 21) (by decide +kernel) (l_c2 hS hI hF hN hZ hA hM hH hL rfl rfl rfl rfl)
  by_cases e3 : s = 3
  · subst e3
    exact e_sw (t2 := 103) (k := 21) (xi181 21) (by decide +kernel) (l_c3 hS hI hF hN hZ hA hM hH hL rfl rfl rfl rfl)
  by_cases e4 : s = 4
  · subst e4
    exact e_sw (t2 := 130) (k := 21) (xi181 21) (by decide +kernel) (l_c4 hS hI hF hN hZ hA hM hH hL rfl rfl rfl rfl)
  by_cases e5 : s = 5
  · subst e5
    exact e_sw (t2 := 175) (k := 21) (xi181 21) (by decide +kernel) (l_c5 hS hI hF hN hZ hA hM hH hL rfl rfl rfl rfl)
  by_cases e6 : s = 6
  · subst e6
    exact e_sw (t2 := 202) (k := 21) (xi181 21) (by decide +kernel) (l_c6 hS hI hF hN hZ hA hM hH hL rfl rfl rfl rfl)
  by_cases e7 : s = 7
  · subst e7
    exact e_sw (t2 := 229) (k := 21) (xi181 21) (by decide +kernel) (l_c7 hS hI hF hN hZ hA hM hH hL rfl rfl rfl rfl)
  by_cases e8 : s = 8
  · subst e8
    exact e_sw (t2 := 266) (k := 21) (xi181 21) (by decide +kernel) (l_c8 hS hI hF hN hZ hA hM hH hL rfl rfl rfl rfl)
  by_cases e9 : s = 9
  · subst e9
    exact e_sw (t2 := 293) (k := 21) (xi181 21) (by decide +kernel) (l_c9 hS hI hF hN hZ hA hM hH hL rfl rfl rfl rfl)
  by_cases e10 : s = 10
  · subst e10
    exact e_sw (t2 := 320) (k := 21) (xi181 21) (by decide +kernel) (l_c10 hS hI hF hN hZ hA hM hH hL rfl rfl rfl rfl)
  by_cases e11 : s = 11
  · subst e11
    exact e_sw (t2 := 337) (k := 21) (xi181 21) (by decide +kernel) (l_c11 hS hI hF hN hZ hA hM hH hL rfl rfl rfl rfl)
  by_cases e12 : s = 12
  · subst e12
    exact e_sw (t2 := 354) (k := 21) (xi181 21) (by decide +kernel) (l_c12 hS hI hF hN hZ hA hM hH hL rfl rfl rfl rfl)
  by_cases e13 : s = 13
  · subst e13
    exact e_sw (t2 := 371) (k := 21) (xi181 21) (by decide +kernel) (l_c13 hS hI hF hN hZ hA hM hH hL rfl rfl rfl rfl)
  by_cases e14 : s = 14
  · subst e14
    exact e_sw (t2 := 398) (k := 21) (xi181 21) (by decide +kernel) (l_c14 hS hI hF hN hZ hA hM hH hL rfl rfl rfl rfl)
  by_cases e15 : s = 15
  · subst e15
    exact e_sw (t2 := 435) (k := 21) (xi181 21) (by decide +kernel) (l_c15 hS hI hF hN hZ hA hM hH hL rfl rfl rfl rfl)
  by_cases e16 : s = 16
  · subst e16
    exact e_sw (t2 := 462) (k := 21) (xi181 21) (by decide +kernel) (l_c16 hS hI hF hN hZ hA hM hH hL rfl rfl rfl rfl)
  by_cases e17 : s = 17
  · subst e17
    exact e_sw (t2 := 469) (k := 21) (xi181 21) (by decide +kernel) (l_c17 hS hI hF hN hZ hA hM hH hL rfl rfl rfl rfl)
  by_cases e18 : s = 18
  · subst e18
    exact e_sw (t2 := 496) (k := 21) (xi181 21) (by decide +kernel) (l_c18 hS hI hF hN hZ hA hM hH hL rfl rfl rfl rfl)
  by_cases e19 : s = 19
  · subst e19
    exact e_sw (t2 := 523) (k := 21) (xi181 21) (by decide +kernel) (l_c19 hS hI hF hN hZ hA hM hH hL rfl rfl rfl rfl)
  by_cases e20 : s = 20
  · subst e20
    exact e_sw (t2 := 550) (k := 21) (xi181 21) (by decide +kernel) (l_c20 hS hI hF hN hZ hA hM hH hL rfl rfl rfl rfl)
  by_cases e21 : s = 21
  · subst e21
    exact e_sw (t2 := 577) (k := 21) (xi181 21) (by decide +kernel) (l_c21 hS hI hF hN hZ hA hM hH hL rfl rfl rfl rfl)
  by_cases e22 : s = 22
  · subst e22
    exact e_sw (t2 := 594) (k := 21) (xi181 21) (by decide +kernel) (l_c22 hS hI hF hN hZ hA hM hH hL rfl rfl rfl rfl)
  by_cases e23 : s = 23
  · subst e23
    exact e_sw (t2 := 621) (k := 21) (xi181 21) (by decide +kernel) (l_c23 hS hI hF hN hZ hA hM hH hL rfl rfl rfl rfl)
  by_cases e24 : s = 24
  · subst e24
    exact e_sw (t2 := 668) (k := 21) (xi181 21) (by decide +kernel) (l_c24 hS hI hF hN hZ hA hM hH hL rfl rfl rfl rfl)
  by_cases e25 : s = 25
  · subst e25
    exact e_sw (t2 := 705) (k := 21) (xi181 21) (by decide +kernel) (l_c25 hS hI hF hN hZ hA hM hH hL rfl rfl rfl rfl)
  by_cases e26 : s = 26
  · subst e26
    exact e_sw (t2 := 722) (k := 21) (xi181 21) (by decide +kernel) (l_c26 hS hI hF hN hZ hA hM hH hL rfl rfl rfl rfl)
  by_cases e27 : s = 27
  · subst e27
    exact e_sw (t2 := 749) (k := 21) (xi181 21) (by decide +kernel) (l_c27 hS hI hF hN hZ hA hM hH hL rfl rfl rfl rfl)
  by_cases e28 : s = 28
  · subst e28
    exact e_sw (t2 := 766) (k := 21) (xi181 21) (by decide +kernel) (l_c28 hS hI hF hN hZ hA hM hH hL rfl rfl rfl rfl)
  by_cases e29 : s = 29
  · subst e29
    exact e_sw (t2 := 783) (k := 21) (xi181 21) (by decide +kernel) (l_c29 hS hI hF hN hZ hA hM hH hL rfl rfl rfl rfl)
  by_cases e30 : s = 30
  · subst e30
    exact e_sw (t2 := 800) (k := 21) (xi181 21) (by decide +kernel) (l_c30 hS hI hF hN hZ hA hM hH hL rfl rfl rfl rfl)
  by_cases e31 : s = 31
  · subst e31
    exact e_sw (t2 := 817) (k := 21) (xi181 21) (by decide +kernel) (l_c31 hS hI hF hN hZ hA hM hH hL rfl rfl rfl rfl)
  by_cases e32 : s = 32
  · subst e32
    exact e_sw (t2 := 834) (k := 21) (xi181 21) (by decide +kernel) (l_c32 hS hI hF hN hZ hA hM hH hL rfl rfl rfl rfl)
  refine e_sw (k := 21) (t2 := 851) (xi181 21) (if_pos (by omega)) ?_
  exact l_tail hL
set_option maxRecDepth 100000 in
theorem x_law (L : Nat) (xs : Nat → Int32) (hL : L ≤ 5) : x_Ev xlaw 0 [.inr (-2), x_un, x_un, x_un] [] (600000, 7302250) (0, fun _ _ => -1, fun a j => if a = -2 then (if j = -1 then (L : Int) else if 0 ≤ j then (xs j.toNat).toInt else 0) else 0) (fun q => q.1 = some (.inl 1)) := by
  generalize hM0 : (fun a j => if a = -2 then (if j = -1 then (L : Int) else if 0 ≤ j then (xs j.toNat).toInt else 0) else 0 : Int → Int → Int) = M0
  have hs : M0 (-2) (-1) = L := by rw [← hM0]; rfl
  generalize (fun _ _ => -1 : Int → Int → Int) = P0
  clear hM0
  show x_Ev 181 0 [.inr (-2), x_un, x_un, x_un] [] (600000, 7302250) (0, P0, M0) x_R1
  refine e_new (b1 := 599999) (b2 := 7302247) (u0 := 3) (k := 0) (xi181 0) ⟨by decide, by decide, rfl⟩ ?_
  refine e_dup (k := 1) (xi181 1) ?_
  show x_Ev 181 2 [.inr (-2), x_un, x_un, x_un] [.inr 0, .inr 0] (599999, 7302247) (1, x_clr P0 0 (-1), x_clr M0 0 0) _
  refine e_callR (k := 2) (c1 := 599838) (c2 := 7299360) (rest := [.inr 0]) (as := [.inr 0]) (xi181 2) (by decide) xm77 rfl ⟨rfl, Nat.le_of_ble_eq_true rfl, by decide⟩ (Or.inr (x_okt ⟨by omega, by omega, by decide⟩)) c_WS ?_
  rintro v h1 ⟨P1, M1, hq, w0, wP, wM, wZ, wT, wc, wI, wt, wf⟩
  cases hq
  refine e_astore (k := 3) (xi181 3) (Nat.le_of_ble_eq_true rfl) (by omega) ?_
  show x_Ev 181 4 [.inr (-2), .inr 0, x_un, x_un] [] (599838, 7299360) (162, P1, M1) _
  refine e_new (b1 := 599837) (b2 := 7299348) (u0 := 12) (k := 4) (xi181 4) ⟨by decide, by decide, rfl⟩ ?_
  refine e_dup (k := 5) (xi181 5) ?_
  show x_Ev 181 6 [.inr (-2), .inr 0, x_un, x_un] [.inr 162, .inr 162] (599837, 7299348) (163, x_clr P1 162 (-1), x_clr M1 162 0) _
  refine e_callR (k := 6) (c1 := 599830) (c2 := 7291099) (rest := [.inr 162]) (as := [.inr 162]) (xi181 6) (by decide) xm112 rfl ⟨rfl, Nat.le_of_ble_eq_true rfl, by decide⟩ (Or.inr (x_okt ⟨by omega, by omega, by decide⟩)) (c_model ⟨⟨(x_clr_ne (by omega)).trans w0.1, (x_clr_ne (by omega)).trans w0.2.1, (x_clr_ne (by omega)).trans w0.2.2⟩, tp_fr wP (fun b j h1 h2 => x_clr_ne (by omega)), (x_clr_ne (by omega)).trans wT.1, (x_clr_ne (by omega)).trans wT.2.1, (x_clr_ne (by omega)).trans wT.2.2.1, (x_clr_ne (by omega)).trans wT.2.2.2.1, (x_clr_ne (by omega)).trans wT.2.2.2.2⟩ (fun k => x_clr_self)) ?_
  rintro v h1 ⟨P2, M2, A, hq, hS, fP, fM, hA, m1, m2⟩
  cases hq
  refine e_astore (k := 7) (xi181 7) (Nat.le_of_ble_eq_true rfl) (by omega) ?_
  show x_Ev 181 8 [.inr (-2), .inr 0, .inr 162, x_un] [] (599830, 7291099) (170, P2, x_row M2 163 A) _
  refine e_iconst (k := 8) (xi181 8) ?_
  refine e_istore (k := 9) (xi181 9) (Nat.le_of_ble_eq_true rfl) ?_
  show x_Ev 181 10 [.inr (-2), .inr 0, .inr 162, .inl 0] [] (599830, 7291099) (170, P2, x_row M2 163 A) _
  have g : ∀ b j, b < 162 → x_row M2 163 A b j = M1 b j := fun b j h => ((if_neg (by omega)).trans (fM b j h)).trans (x_clr_ne (by omega))
  have hlen : x_row M2 163 A (-2) (-1) = L := (g _ _ (by omega)).trans ((wf _ _ (by omega)).trans ((x_clr_ne (by omega)).trans hs))
  refine e_iload (k := 10) (xi181 10) rfl ?_
  refine e_aload (k := 11) (xi181 11) rfl (by omega) ?_
  refine e_slen (w := (L : Int)) (k := 12) (xi181 12) hlen ?_
  refine e_iconst (k := 13) (xi181 13) ?_
  refine e_isub (w := (L : Int) - 5) (k := 14) (xi181 14) (x_wn (by omega)) ?_
  refine e_c_gt (k := 15) (xi181 15) (fun _ => ?_) (fun c => ?_)
  · refine e_iconst (k := 853) (xi181 853) ?_
    exact e_zret (k := 854) (xi181 854) (by decide) rfl
  · have hL5 : (L : Int) = 5 := by omega
    refine l_iter (B1 := 599676) (B2 := 7289268) hS (fun k => (fP _ _ (by omega)).trans ((x_clr_ne (by omega)).trans (wI k))) ⟨⟨(g _ _ (by omega)).trans wc.1, (g _ _ (by omega)).trans wc.2.1, (g _ _ (by omega)).trans wc.2.2.1, (g _ _ (by omega)).trans wc.2.2.2⟩, (g _ _ (by omega)).trans wt⟩ ((g _ _ (by omega)).trans (x_Pe (wM.1 0 (by omega)) (by omega) rfl)) (tz_fr wZ (fun b j h1 h2 => g b j (by omega))) (fun i => (if_pos rfl).trans (hA i)) (fun k => (if_neg (by decide)).trans (m1 k)) (fun k => (if_neg (by decide)).trans (m2 k)) (hlen.trans hL5)
