/-! of every method its instructions and its numbers -/
theorem xr0 : xmt.drop 0 = xmt0 ++ (xmt1 ++ (xmt2 ++ (xmt3 ++ (xmt4 ++ (xmt5 ++ (xmt6)))))) := rfl
theorem xr1 : xmt.drop 26 = xmt1 ++ (xmt2 ++ (xmt3 ++ (xmt4 ++ (xmt5 ++ (xmt6))))) := by
  have h : xmt.drop 26 = (xmt.drop 0).drop 26 := by rw [List.drop_drop]
  rw [h, xr0]
  exact List.drop_left' rfl
theorem xr2 : xmt.drop 52 = xmt2 ++ (xmt3 ++ (xmt4 ++ (xmt5 ++ (xmt6)))) := by
  have h : xmt.drop 52 = (xmt.drop 26).drop 26 := by rw [List.drop_drop]
  rw [h, xr1]
  exact List.drop_left' rfl
theorem xr3 : xmt.drop 78 = xmt3 ++ (xmt4 ++ (xmt5 ++ (xmt6))) := by
  have h : xmt.drop 78 = (xmt.drop 52).drop 26 := by rw [List.drop_drop]
  rw [h, xr2]
  exact List.drop_left' rfl
theorem xr4 : xmt.drop 104 = xmt4 ++ (xmt5 ++ (xmt6)) := by
  have h : xmt.drop 104 = (xmt.drop 78).drop 26 := by rw [List.drop_drop]
  rw [h, xr3]
  exact List.drop_left' rfl
theorem xr5 : xmt.drop 130 = xmt5 ++ (xmt6) := by
  have h : xmt.drop 130 = (xmt.drop 104).drop 26 := by rw [List.drop_drop]
  rw [h, xr4]
  exact List.drop_left' rfl
theorem xr6 : xmt.drop 156 = xmt6 := by
  have h : xmt.drop 156 = (xmt.drop 130).drop 26 := by rw [List.drop_drop]
  rw [h, xr5]
  exact List.drop_left' rfl
theorem xg {y n j : Nat} {l : List XM} (h : xmt.drop n = l) (hy : y = n + j) : x_mi y = (l.drop j).headD (⟨"", "", ""⟩, 0, 0, (0, 0, 0, 0), (0, 0, 0), (0, 0, 0, 0), []) := by
  subst hy
  subst h
  unfold x_mi
  rw [x_mdr, List.drop_drop]
theorem xh {y : Nat} {me : XM} (h : x_mi y = me) : (∀ k, x_in y k = me.2.2.2.2.2.2.getD k x_63) ∧ x_Mi y me.2.2.2.2.1.1 me.2.1 me.2.2.2.1.2.2.1 me.2.2.2.1.2.2.2 me.2.2.2.2.1.2.1 me.2.2.2.2.1.2.2 := by
  subst h
  exact ⟨fun k => rfl, rfl, rfl, rfl, rfl, rfl, rfl⟩
theorem xi0 (k : Nat) : x_in 0 k = xc0.getD k x_63 := (xh (xg (n := 0) (j := 0) xr0 rfl)).1 k
theorem xm0 : x_Mi 0 2 2 1 8 2 0 := (xh (xg (n := 0) (j := 0) xr0 rfl)).2
theorem xi1 (k : Nat) : x_in 1 k = xc1.getD k x_63 := (xh (xg (n := 0) (j := 1) xr0 rfl)).1 k
theorem xm1 : x_Mi 1 3 3 0 0 0 0 := (xh (xg (n := 0) (j := 1) xr0 rfl)).2
theorem xi2 (k : Nat) : x_in 2 k = xc2.getD k x_63 := (xh (xg (n := 0) (j := 2) xr0 rfl)).1 k
theorem xm2 : x_Mi 2 2 2 0 0 0 0 := (xh (xg (n := 0) (j := 2) xr0 rfl)).2
theorem xi3 (k : Nat) : x_in 3 k = xc3.getD k x_63 := (xh (xg (n := 0) (j := 3) xr0 rfl)).1 k
theorem xm3 : x_Mi 3 2 2 0 0 0 0 := (xh (xg (n := 0) (j := 3) xr0 rfl)).2
theorem xi4 (k : Nat) : x_in 4 k = xc4.getD k x_63 := (xh (xg (n := 0) (j := 4) xr0 rfl)).1 k
theorem xm4 : x_Mi 4 2 2 0 0 0 0 := (xh (xg (n := 0) (j := 4) xr0 rfl)).2
theorem xi5 (k : Nat) : x_in 5 k = xc5.getD k x_63 := (xh (xg (n := 0) (j := 5) xr0 rfl)).1 k
theorem xm5 : x_Mi 5 2 2 0 0 0 0 := (xh (xg (n := 0) (j := 5) xr0 rfl)).2
theorem xi6 (k : Nat) : x_in 6 k = xc6.getD k x_63 := (xh (xg (n := 0) (j := 6) xr0 rfl)).1 k
theorem xm6 : x_Mi 6 2 3 0 0 0 0 := (xh (xg (n := 0) (j := 6) xr0 rfl)).2
theorem xi7 (k : Nat) : x_in 7 k = xc7.getD k x_63 := (xh (xg (n := 0) (j := 7) xr0 rfl)).1 k
theorem xm7 : x_Mi 7 1 1 2 48 2 1 := (xh (xg (n := 0) (j := 7) xr0 rfl)).2
theorem xi8 (k : Nat) : x_in 8 k = xc8.getD k x_63 := (xh (xg (n := 0) (j := 8) xr0 rfl)).1 k
theorem xm8 : x_Mi 8 1 1 0 0 1 1 := (xh (xg (n := 0) (j := 8) xr0 rfl)).2
theorem xi9 (k : Nat) : x_in 9 k = xc9.getD k x_63 := (xh (xg (n := 0) (j := 9) xr0 rfl)).1 k
theorem xm9 : x_Mi 9 1 2 0 0 0 1 := (xh (xg (n := 0) (j := 9) xr0 rfl)).2
theorem xi10 (k : Nat) : x_in 10 k = xc10.getD k x_63 := (xh (xg (n := 0) (j := 10) xr0 rfl)).1 k
theorem xm10 : x_Mi 10 2 2 0 0 0 1 := (xh (xg (n := 0) (j := 10) xr0 rfl)).2
theorem xi11 (k : Nat) : x_in 11 k = xc11.getD k x_63 := (xh (xg (n := 0) (j := 11) xr0 rfl)).1 k
theorem xm11 : x_Mi 11 4 4 0 0 0 1 := (xh (xg (n := 0) (j := 11) xr0 rfl)).2
theorem xi12 (k : Nat) : x_in 12 k = xc12.getD k x_63 := (xh (xg (n := 0) (j := 12) xr0 rfl)).1 k
theorem xm12 : x_Mi 12 4 10 0 0 0 1 := (xh (xg (n := 0) (j := 12) xr0 rfl)).2
theorem xi13 (k : Nat) : x_in 13 k = xc13.getD k x_63 := (xh (xg (n := 0) (j := 13) xr0 rfl)).1 k
theorem xm13 : x_Mi 13 2 6 0 0 0 1 := (xh (xg (n := 0) (j := 13) xr0 rfl)).2
theorem xi14 (k : Nat) : x_in 14 k = xc14.getD k x_63 := (xh (xg (n := 0) (j := 14) xr0 rfl)).1 k
theorem xm14 : x_Mi 14 2 2 6 83 2 2 := (xh (xg (n := 0) (j := 14) xr0 rfl)).2
theorem xi15 (k : Nat) : x_in 15 k = xc15.getD k x_63 := (xh (xg (n := 0) (j := 15) xr0 rfl)).1 k
theorem xm15 : x_Mi 15 2 3 0 0 0 2 := (xh (xg (n := 0) (j := 15) xr0 rfl)).2
theorem xi16 (k : Nat) : x_in 16 k = xc16.getD k x_63 := (xh (xg (n := 0) (j := 16) xr0 rfl)).1 k
theorem xm16 : x_Mi 16 2 2 0 0 0 2 := (xh (xg (n := 0) (j := 16) xr0 rfl)).2
theorem xi17 (k : Nat) : x_in 17 k = xc17.getD k x_63 := (xh (xg (n := 0) (j := 17) xr0 rfl)).1 k
theorem xm17 : x_Mi 17 2 2 0 0 0 2 := (xh (xg (n := 0) (j := 17) xr0 rfl)).2
theorem xi18 (k : Nat) : x_in 18 k = xc18.getD k x_63 := (xh (xg (n := 0) (j := 18) xr0 rfl)).1 k
theorem xm18 : x_Mi 18 2 3 0 0 0 2 := (xh (xg (n := 0) (j := 18) xr0 rfl)).2
theorem xi19 (k : Nat) : x_in 19 k = xc19.getD k x_63 := (xh (xg (n := 0) (j := 19) xr0 rfl)).1 k
theorem xm19 : x_Mi 19 2 2 0 0 0 2 := (xh (xg (n := 0) (j := 19) xr0 rfl)).2
theorem xi20 (k : Nat) : x_in 20 k = xc20.getD k x_63 := (xh (xg (n := 0) (j := 20) xr0 rfl)).1 k
theorem xm20 : x_Mi 20 2 2 0 0 0 2 := (xh (xg (n := 0) (j := 20) xr0 rfl)).2
theorem xi21 (k : Nat) : x_in 21 k = xc21.getD k x_63 := (xh (xg (n := 0) (j := 21) xr0 rfl)).1 k
theorem xm21 : x_Mi 21 2 4 0 0 0 2 := (xh (xg (n := 0) (j := 21) xr0 rfl)).2
theorem xi22 (k : Nat) : x_in 22 k = xc22.getD k x_63 := (xh (xg (n := 0) (j := 22) xr0 rfl)).1 k
theorem xm22 : x_Mi 22 1 1 0 0 0 2 := (xh (xg (n := 0) (j := 22) xr0 rfl)).2
theorem xi23 (k : Nat) : x_in 23 k = xc23.getD k x_63 := (xh (xg (n := 0) (j := 23) xr0 rfl)).1 k
theorem xm23 : x_Mi 23 1 1 0 0 0 2 := (xh (xg (n := 0) (j := 23) xr0 rfl)).2
theorem xi24 (k : Nat) : x_in 24 k = xc24.getD k x_63 := (xh (xg (n := 0) (j := 24) xr0 rfl)).1 k
theorem xm24 : x_Mi 24 3 3 0 0 0 2 := (xh (xg (n := 0) (j := 24) xr0 rfl)).2
theorem xi25 (k : Nat) : x_in 25 k = xc25.getD k x_63 := (xh (xg (n := 0) (j := 25) xr0 rfl)).1 k
theorem xm25 : x_Mi 25 2 3 0 0 0 2 := (xh (xg (n := 0) (j := 25) xr0 rfl)).2
theorem xi26 (k : Nat) : x_in 26 k = xc26.getD k x_63 := (xh (xg (n := 26) (j := 0) xr1 rfl)).1 k
theorem xm26 : x_Mi 26 4 5 0 0 0 2 := (xh (xg (n := 26) (j := 0) xr1 rfl)).2
theorem xi27 (k : Nat) : x_in 27 k = xc27.getD k x_63 := (xh (xg (n := 26) (j := 1) xr1 rfl)).1 k
theorem xm27 : x_Mi 27 1 1 5 1045 2 3 := (xh (xg (n := 26) (j := 1) xr1 rfl)).2
theorem xi28 (k : Nat) : x_in 28 k = xc28.getD k x_63 := (xh (xg (n := 26) (j := 2) xr1 rfl)).1 k
theorem xm28 : x_Mi 28 2 2 0 0 0 3 := (xh (xg (n := 26) (j := 2) xr1 rfl)).2
theorem xi29 (k : Nat) : x_in 29 k = xc29.getD k x_63 := (xh (xg (n := 26) (j := 3) xr1 rfl)).1 k
theorem xm29 : x_Mi 29 3 4 0 0 0 3 := (xh (xg (n := 26) (j := 3) xr1 rfl)).2
theorem xi30 (k : Nat) : x_in 30 k = xc30.getD k x_63 := (xh (xg (n := 26) (j := 4) xr1 rfl)).1 k
theorem xm30 : x_Mi 30 2 5 0 0 0 3 := (xh (xg (n := 26) (j := 4) xr1 rfl)).2
theorem xi31 (k : Nat) : x_in 31 k = xc31.getD k x_63 := (xh (xg (n := 26) (j := 5) xr1 rfl)).1 k
theorem xm31 : x_Mi 31 1 1 0 0 0 3 := (xh (xg (n := 26) (j := 5) xr1 rfl)).2
theorem xi32 (k : Nat) : x_in 32 k = xc32.getD k x_63 := (xh (xg (n := 26) (j := 6) xr1 rfl)).1 k
theorem xm32 : x_Mi 32 1 3 0 0 0 3 := (xh (xg (n := 26) (j := 6) xr1 rfl)).2
theorem xi33 (k : Nat) : x_in 33 k = xc33.getD k x_63 := (xh (xg (n := 26) (j := 7) xr1 rfl)).1 k
theorem xm33 : x_Mi 33 3 6 0 0 0 3 := (xh (xg (n := 26) (j := 7) xr1 rfl)).2
theorem xi34 (k : Nat) : x_in 34 k = xc34.getD k x_63 := (xh (xg (n := 26) (j := 8) xr1 rfl)).1 k
theorem xm34 : x_Mi 34 4 6 0 0 0 3 := (xh (xg (n := 26) (j := 8) xr1 rfl)).2
theorem xi35 (k : Nat) : x_in 35 k = xc35.getD k x_63 := (xh (xg (n := 26) (j := 9) xr1 rfl)).1 k
theorem xm35 : x_Mi 35 5 5 0 0 0 3 := (xh (xg (n := 26) (j := 9) xr1 rfl)).2
theorem xi36 (k : Nat) : x_in 36 k = xc36.getD k x_63 := (xh (xg (n := 26) (j := 10) xr1 rfl)).1 k
theorem xm36 : x_Mi 36 3 8 0 0 0 3 := (xh (xg (n := 26) (j := 10) xr1 rfl)).2
theorem xi37 (k : Nat) : x_in 37 k = xc37.getD k x_63 := (xh (xg (n := 26) (j := 11) xr1 rfl)).1 k
theorem xm37 : x_Mi 37 6 6 0 0 0 3 := (xh (xg (n := 26) (j := 11) xr1 rfl)).2
theorem xi38 (k : Nat) : x_in 38 k = xc38.getD k x_63 := (xh (xg (n := 26) (j := 12) xr1 rfl)).1 k
theorem xm38 : x_Mi 38 1 2 153 1824 2 4 := (xh (xg (n := 26) (j := 12) xr1 rfl)).2
theorem xi39 (k : Nat) : x_in 39 k = xc39.getD k x_63 := (xh (xg (n := 26) (j := 13) xr1 rfl)).1 k
theorem xm39 : x_Mi 39 2 3 0 0 0 4 := (xh (xg (n := 26) (j := 13) xr1 rfl)).2
theorem xi40 (k : Nat) : x_in 40 k = xc40.getD k x_63 := (xh (xg (n := 26) (j := 14) xr1 rfl)).1 k
theorem xm40 : x_Mi 40 2 2 0 0 0 4 := (xh (xg (n := 26) (j := 14) xr1 rfl)).2
theorem xi41 (k : Nat) : x_in 41 k = xc41.getD k x_63 := (xh (xg (n := 26) (j := 15) xr1 rfl)).1 k
theorem xm41 : x_Mi 41 2 2 0 0 0 4 := (xh (xg (n := 26) (j := 15) xr1 rfl)).2
theorem xi42 (k : Nat) : x_in 42 k = xc42.getD k x_63 := (xh (xg (n := 26) (j := 16) xr1 rfl)).1 k
theorem xm42 : x_Mi 42 2 2 0 0 0 4 := (xh (xg (n := 26) (j := 16) xr1 rfl)).2
theorem xi43 (k : Nat) : x_in 43 k = xc43.getD k x_63 := (xh (xg (n := 26) (j := 17) xr1 rfl)).1 k
theorem xm43 : x_Mi 43 3 4 0 0 0 4 := (xh (xg (n := 26) (j := 17) xr1 rfl)).2
theorem xi44 (k : Nat) : x_in 44 k = xc44.getD k x_63 := (xh (xg (n := 26) (j := 18) xr1 rfl)).1 k
theorem xm44 : x_Mi 44 2 2 0 0 0 4 := (xh (xg (n := 26) (j := 18) xr1 rfl)).2
theorem xi45 (k : Nat) : x_in 45 k = xc45.getD k x_63 := (xh (xg (n := 26) (j := 19) xr1 rfl)).1 k
theorem xm45 : x_Mi 45 4 5 0 0 0 4 := (xh (xg (n := 26) (j := 19) xr1 rfl)).2
theorem xi46 (k : Nat) : x_in 46 k = xc46.getD k x_63 := (xh (xg (n := 26) (j := 20) xr1 rfl)).1 k
theorem xm46 : x_Mi 46 3 3 0 0 0 4 := (xh (xg (n := 26) (j := 20) xr1 rfl)).2
theorem xi47 (k : Nat) : x_in 47 k = xc47.getD k x_63 := (xh (xg (n := 26) (j := 21) xr1 rfl)).1 k
theorem xm47 : x_Mi 47 2 4 0 0 0 4 := (xh (xg (n := 26) (j := 21) xr1 rfl)).2
theorem xi48 (k : Nat) : x_in 48 k = xc48.getD k x_63 := (xh (xg (n := 26) (j := 22) xr1 rfl)).1 k
theorem xm48 : x_Mi 48 1 3 0 0 0 4 := (xh (xg (n := 26) (j := 22) xr1 rfl)).2
theorem xi49 (k : Nat) : x_in 49 k = xc49.getD k x_63 := (xh (xg (n := 26) (j := 23) xr1 rfl)).1 k
theorem xm49 : x_Mi 49 3 5 0 0 0 4 := (xh (xg (n := 26) (j := 23) xr1 rfl)).2
theorem xi50 (k : Nat) : x_in 50 k = xc50.getD k x_63 := (xh (xg (n := 26) (j := 24) xr1 rfl)).1 k
theorem xm50 : x_Mi 50 2 4 0 0 0 4 := (xh (xg (n := 26) (j := 24) xr1 rfl)).2
theorem xi51 (k : Nat) : x_in 51 k = xc51.getD k x_63 := (xh (xg (n := 26) (j := 25) xr1 rfl)).1 k
theorem xm51 : x_Mi 51 2 2 0 0 0 4 := (xh (xg (n := 26) (j := 25) xr1 rfl)).2
theorem xi52 (k : Nat) : x_in 52 k = xc52.getD k x_63 := (xh (xg (n := 52) (j := 0) xr2 rfl)).1 k
theorem xm52 : x_Mi 52 3 4 0 0 0 4 := (xh (xg (n := 52) (j := 0) xr2 rfl)).2
theorem xi53 (k : Nat) : x_in 53 k = xc53.getD k x_63 := (xh (xg (n := 52) (j := 1) xr2 rfl)).1 k
theorem xm53 : x_Mi 53 2 4 0 0 0 4 := (xh (xg (n := 52) (j := 1) xr2 rfl)).2
theorem xi54 (k : Nat) : x_in 54 k = xc54.getD k x_63 := (xh (xg (n := 52) (j := 2) xr2 rfl)).1 k
theorem xm54 : x_Mi 54 4 4 0 0 0 4 := (xh (xg (n := 52) (j := 2) xr2 rfl)).2
theorem xi55 (k : Nat) : x_in 55 k = xc55.getD k x_63 := (xh (xg (n := 52) (j := 3) xr2 rfl)).1 k
theorem xm55 : x_Mi 55 2 3 0 0 0 4 := (xh (xg (n := 52) (j := 3) xr2 rfl)).2
theorem xi56 (k : Nat) : x_in 56 k = xc56.getD k x_63 := (xh (xg (n := 52) (j := 4) xr2 rfl)).1 k
theorem xm56 : x_Mi 56 3 5 0 0 0 4 := (xh (xg (n := 52) (j := 4) xr2 rfl)).2
theorem xi57 (k : Nat) : x_in 57 k = xc57.getD k x_63 := (xh (xg (n := 52) (j := 5) xr2 rfl)).1 k
theorem xm57 : x_Mi 57 3 3 0 0 0 4 := (xh (xg (n := 52) (j := 5) xr2 rfl)).2
theorem xi58 (k : Nat) : x_in 58 k = xc58.getD k x_63 := (xh (xg (n := 52) (j := 6) xr2 rfl)).1 k
theorem xm58 : x_Mi 58 3 9 0 0 0 4 := (xh (xg (n := 52) (j := 6) xr2 rfl)).2
theorem xi59 (k : Nat) : x_in 59 k = xc59.getD k x_63 := (xh (xg (n := 52) (j := 7) xr2 rfl)).1 k
theorem xm59 : x_Mi 59 4 6 0 0 0 4 := (xh (xg (n := 52) (j := 7) xr2 rfl)).2
theorem xi60 (k : Nat) : x_in 60 k = xc60.getD k x_63 := (xh (xg (n := 52) (j := 8) xr2 rfl)).1 k
theorem xm60 : x_Mi 60 4 4 0 0 0 4 := (xh (xg (n := 52) (j := 8) xr2 rfl)).2
theorem xi61 (k : Nat) : x_in 61 k = xc61.getD k x_63 := (xh (xg (n := 52) (j := 9) xr2 rfl)).1 k
theorem xm61 : x_Mi 61 3 3 0 0 0 4 := (xh (xg (n := 52) (j := 9) xr2 rfl)).2
theorem xi62 (k : Nat) : x_in 62 k = xc62.getD k x_63 := (xh (xg (n := 52) (j := 10) xr2 rfl)).1 k
theorem xm62 : x_Mi 62 3 3 0 0 0 4 := (xh (xg (n := 52) (j := 10) xr2 rfl)).2
theorem xi63 (k : Nat) : x_in 63 k = xc63.getD k x_63 := (xh (xg (n := 52) (j := 11) xr2 rfl)).1 k
theorem xm63 : x_Mi 63 3 5 0 0 0 4 := (xh (xg (n := 52) (j := 11) xr2 rfl)).2
theorem xi64 (k : Nat) : x_in 64 k = xc64.getD k x_63 := (xh (xg (n := 52) (j := 12) xr2 rfl)).1 k
theorem xm64 : x_Mi 64 3 7 0 0 0 4 := (xh (xg (n := 52) (j := 12) xr2 rfl)).2
theorem xi65 (k : Nat) : x_in 65 k = xc65.getD k x_63 := (xh (xg (n := 52) (j := 13) xr2 rfl)).1 k
theorem xm65 : x_Mi 65 2 2 0 0 2 5 := (xh (xg (n := 52) (j := 13) xr2 rfl)).2
theorem xi66 (k : Nat) : x_in 66 k = xc66.getD k x_63 := (xh (xg (n := 52) (j := 14) xr2 rfl)).1 k
theorem xm66 : x_Mi 66 2 2 0 0 0 5 := (xh (xg (n := 52) (j := 14) xr2 rfl)).2
theorem xi67 (k : Nat) : x_in 67 k = xc67.getD k x_63 := (xh (xg (n := 52) (j := 15) xr2 rfl)).1 k
theorem xm67 : x_Mi 67 2 2 0 0 0 5 := (xh (xg (n := 52) (j := 15) xr2 rfl)).2
theorem xi68 (k : Nat) : x_in 68 k = xc68.getD k x_63 := (xh (xg (n := 52) (j := 16) xr2 rfl)).1 k
theorem xm68 : x_Mi 68 4 4 0 0 0 5 := (xh (xg (n := 52) (j := 16) xr2 rfl)).2
theorem xi69 (k : Nat) : x_in 69 k = xc69.getD k x_63 := (xh (xg (n := 52) (j := 17) xr2 rfl)).1 k
theorem xm69 : x_Mi 69 1 1 0 0 1 5 := (xh (xg (n := 52) (j := 17) xr2 rfl)).2
theorem xi70 (k : Nat) : x_in 70 k = xc70.getD k x_63 := (xh (xg (n := 52) (j := 18) xr2 rfl)).1 k
theorem xm70 : x_Mi 70 1 1 0 0 0 5 := (xh (xg (n := 52) (j := 18) xr2 rfl)).2
theorem xi71 (k : Nat) : x_in 71 k = xc71.getD k x_63 := (xh (xg (n := 52) (j := 19) xr2 rfl)).1 k
theorem xm71 : x_Mi 71 1 1 0 0 0 5 := (xh (xg (n := 52) (j := 19) xr2 rfl)).2
theorem xi72 (k : Nat) : x_in 72 k = xc72.getD k x_63 := (xh (xg (n := 52) (j := 20) xr2 rfl)).1 k
theorem xm72 : x_Mi 72 2 2 0 0 0 5 := (xh (xg (n := 52) (j := 20) xr2 rfl)).2
theorem xi73 (k : Nat) : x_in 73 k = xc73.getD k x_63 := (xh (xg (n := 52) (j := 21) xr2 rfl)).1 k
theorem xm73 : x_Mi 73 2 2 0 0 0 5 := (xh (xg (n := 52) (j := 21) xr2 rfl)).2
theorem xi74 (k : Nat) : x_in 74 k = xc74.getD k x_63 := (xh (xg (n := 52) (j := 22) xr2 rfl)).1 k
theorem xm74 : x_Mi 74 2 2 0 0 0 5 := (xh (xg (n := 52) (j := 22) xr2 rfl)).2
theorem xi75 (k : Nat) : x_in 75 k = xc75.getD k x_63 := (xh (xg (n := 52) (j := 23) xr2 rfl)).1 k
theorem xm75 : x_Mi 75 1 1 0 0 0 5 := (xh (xg (n := 52) (j := 23) xr2 rfl)).2
theorem xi76 (k : Nat) : x_in 76 k = xc76.getD k x_63 := (xh (xg (n := 52) (j := 24) xr2 rfl)).1 k
theorem xm76 : x_Mi 76 3 3 0 0 0 5 := (xh (xg (n := 52) (j := 24) xr2 rfl)).2
theorem xi77 (k : Nat) : x_in 77 k = xc77.getD k x_63 := (xh (xg (n := 52) (j := 25) xr2 rfl)).1 k
theorem xm77 : x_Mi 77 1 1 161 2887 2 6 := (xh (xg (n := 52) (j := 25) xr2 rfl)).2
theorem xi78 (k : Nat) : x_in 78 k = xc78.getD k x_63 := (xh (xg (n := 78) (j := 0) xr3 rfl)).1 k
theorem xm78 : x_Mi 78 2 2 0 0 0 6 := (xh (xg (n := 78) (j := 0) xr3 rfl)).2
theorem xi79 (k : Nat) : x_in 79 k = xc79.getD k x_63 := (xh (xg (n := 78) (j := 1) xr3 rfl)).1 k
theorem xm79 : x_Mi 79 4 6 0 0 0 6 := (xh (xg (n := 78) (j := 1) xr3 rfl)).2
theorem xi80 (k : Nat) : x_in 80 k = xc80.getD k x_63 := (xh (xg (n := 78) (j := 2) xr3 rfl)).1 k
theorem xm80 : x_Mi 80 3 4 0 0 0 6 := (xh (xg (n := 78) (j := 2) xr3 rfl)).2
theorem xi81 (k : Nat) : x_in 81 k = xc81.getD k x_63 := (xh (xg (n := 78) (j := 3) xr3 rfl)).1 k
theorem xm81 : x_Mi 81 3 4 0 0 0 6 := (xh (xg (n := 78) (j := 3) xr3 rfl)).2
theorem xi82 (k : Nat) : x_in 82 k = xc82.getD k x_63 := (xh (xg (n := 78) (j := 4) xr3 rfl)).1 k
theorem xm82 : x_Mi 82 4 5 0 0 0 6 := (xh (xg (n := 78) (j := 4) xr3 rfl)).2
theorem xi83 (k : Nat) : x_in 83 k = xc83.getD k x_63 := (xh (xg (n := 78) (j := 5) xr3 rfl)).1 k
theorem xm83 : x_Mi 83 3 4 0 0 0 6 := (xh (xg (n := 78) (j := 5) xr3 rfl)).2
theorem xi84 (k : Nat) : x_in 84 k = xc84.getD k x_63 := (xh (xg (n := 78) (j := 6) xr3 rfl)).1 k
theorem xm84 : x_Mi 84 3 4 0 0 0 6 := (xh (xg (n := 78) (j := 6) xr3 rfl)).2
theorem xi85 (k : Nat) : x_in 85 k = xc85.getD k x_63 := (xh (xg (n := 78) (j := 7) xr3 rfl)).1 k
theorem xm85 : x_Mi 85 4 5 0 0 0 6 := (xh (xg (n := 78) (j := 7) xr3 rfl)).2
theorem xi86 (k : Nat) : x_in 86 k = xc86.getD k x_63 := (xh (xg (n := 78) (j := 8) xr3 rfl)).1 k
theorem xm86 : x_Mi 86 3 5 0 0 0 6 := (xh (xg (n := 78) (j := 8) xr3 rfl)).2
theorem xi87 (k : Nat) : x_in 87 k = xc87.getD k x_63 := (xh (xg (n := 78) (j := 9) xr3 rfl)).1 k
theorem xm87 : x_Mi 87 3 4 0 0 0 6 := (xh (xg (n := 78) (j := 9) xr3 rfl)).2
theorem xi88 (k : Nat) : x_in 88 k = xc88.getD k x_63 := (xh (xg (n := 78) (j := 10) xr3 rfl)).1 k
theorem xm88 : x_Mi 88 2 3 0 0 0 6 := (xh (xg (n := 78) (j := 10) xr3 rfl)).2
theorem xi89 (k : Nat) : x_in 89 k = xc89.getD k x_63 := (xh (xg (n := 78) (j := 11) xr3 rfl)).1 k
theorem xm89 : x_Mi 89 2 3 0 0 0 6 := (xh (xg (n := 78) (j := 11) xr3 rfl)).2
theorem xi90 (k : Nat) : x_in 90 k = xc90.getD k x_63 := (xh (xg (n := 78) (j := 12) xr3 rfl)).1 k
theorem xm90 : x_Mi 90 2 3 0 0 0 6 := (xh (xg (n := 78) (j := 12) xr3 rfl)).2
theorem xi91 (k : Nat) : x_in 91 k = xc91.getD k x_63 := (xh (xg (n := 78) (j := 13) xr3 rfl)).1 k
theorem xm91 : x_Mi 91 3 6 0 0 0 6 := (xh (xg (n := 78) (j := 13) xr3 rfl)).2
theorem xi92 (k : Nat) : x_in 92 k = xc92.getD k x_63 := (xh (xg (n := 78) (j := 14) xr3 rfl)).1 k
theorem xm92 : x_Mi 92 4 6 0 0 0 6 := (xh (xg (n := 78) (j := 14) xr3 rfl)).2
theorem xi93 (k : Nat) : x_in 93 k = xc93.getD k x_63 := (xh (xg (n := 78) (j := 15) xr3 rfl)).1 k
theorem xm93 : x_Mi 93 3 5 0 0 0 6 := (xh (xg (n := 78) (j := 15) xr3 rfl)).2
theorem xi94 (k : Nat) : x_in 94 k = xc94.getD k x_63 := (xh (xg (n := 78) (j := 16) xr3 rfl)).1 k
theorem xm94 : x_Mi 94 1 2 0 0 0 6 := (xh (xg (n := 78) (j := 16) xr3 rfl)).2
theorem xi95 (k : Nat) : x_in 95 k = xc95.getD k x_63 := (xh (xg (n := 78) (j := 17) xr3 rfl)).1 k
theorem xm95 : x_Mi 95 3 3 0 0 0 6 := (xh (xg (n := 78) (j := 17) xr3 rfl)).2
theorem xi96 (k : Nat) : x_in 96 k = xc96.getD k x_63 := (xh (xg (n := 78) (j := 18) xr3 rfl)).1 k
theorem xm96 : x_Mi 96 3 4 0 0 0 6 := (xh (xg (n := 78) (j := 18) xr3 rfl)).2
theorem xi97 (k : Nat) : x_in 97 k = xc97.getD k x_63 := (xh (xg (n := 78) (j := 19) xr3 rfl)).1 k
theorem xm97 : x_Mi 97 3 5 0 0 0 6 := (xh (xg (n := 78) (j := 19) xr3 rfl)).2
theorem xi98 (k : Nat) : x_in 98 k = xc98.getD k x_63 := (xh (xg (n := 78) (j := 20) xr3 rfl)).1 k
theorem xm98 : x_Mi 98 3 5 0 0 0 6 := (xh (xg (n := 78) (j := 20) xr3 rfl)).2
theorem xi99 (k : Nat) : x_in 99 k = xc99.getD k x_63 := (xh (xg (n := 78) (j := 21) xr3 rfl)).1 k
theorem xm99 : x_Mi 99 2 4 0 0 0 6 := (xh (xg (n := 78) (j := 21) xr3 rfl)).2
theorem xi100 (k : Nat) : x_in 100 k = xc100.getD k x_63 := (xh (xg (n := 78) (j := 22) xr3 rfl)).1 k
theorem xm100 : x_Mi 100 3 4 0 0 0 6 := (xh (xg (n := 78) (j := 22) xr3 rfl)).2
theorem xi101 (k : Nat) : x_in 101 k = xc101.getD k x_63 := (xh (xg (n := 78) (j := 23) xr3 rfl)).1 k
theorem xm101 : x_Mi 101 5 6 0 0 0 6 := (xh (xg (n := 78) (j := 23) xr3 rfl)).2
theorem xi102 (k : Nat) : x_in 102 k = xc102.getD k x_63 := (xh (xg (n := 78) (j := 24) xr3 rfl)).1 k
theorem xm102 : x_Mi 102 4 5 0 0 0 6 := (xh (xg (n := 78) (j := 24) xr3 rfl)).2
theorem xi103 (k : Nat) : x_in 103 k = xc103.getD k x_63 := (xh (xg (n := 78) (j := 25) xr3 rfl)).1 k
theorem xm103 : x_Mi 103 2 3 0 0 0 6 := (xh (xg (n := 78) (j := 25) xr3 rfl)).2
theorem xi104 (k : Nat) : x_in 104 k = xc104.getD k x_63 := (xh (xg (n := 104) (j := 0) xr4 rfl)).1 k
theorem xm104 : x_Mi 104 3 4 0 0 0 6 := (xh (xg (n := 104) (j := 0) xr4 rfl)).2
theorem xi105 (k : Nat) : x_in 105 k = xc105.getD k x_63 := (xh (xg (n := 104) (j := 1) xr4 rfl)).1 k
theorem xm105 : x_Mi 105 2 2 0 0 0 6 := (xh (xg (n := 104) (j := 1) xr4 rfl)).2
theorem xi106 (k : Nat) : x_in 106 k = xc106.getD k x_63 := (xh (xg (n := 104) (j := 2) xr4 rfl)).1 k
theorem xm106 : x_Mi 106 2 2 0 0 0 6 := (xh (xg (n := 104) (j := 2) xr4 rfl)).2
theorem xi107 (k : Nat) : x_in 107 k = xc107.getD k x_63 := (xh (xg (n := 104) (j := 3) xr4 rfl)).1 k
theorem xm107 : x_Mi 107 2 5 0 0 0 6 := (xh (xg (n := 104) (j := 3) xr4 rfl)).2
theorem xi108 (k : Nat) : x_in 108 k = xc108.getD k x_63 := (xh (xg (n := 104) (j := 4) xr4 rfl)).1 k
theorem xm108 : x_Mi 108 2 2 154 1831 0 6 := (xh (xg (n := 104) (j := 4) xr4 rfl)).2
theorem xi109 (k : Nat) : x_in 109 k = xc109.getD k x_63 := (xh (xg (n := 104) (j := 5) xr4 rfl)).1 k
theorem xm109 : x_Mi 109 2 2 0 0 0 6 := (xh (xg (n := 104) (j := 5) xr4 rfl)).2
theorem xi110 (k : Nat) : x_in 110 k = xc110.getD k x_63 := (xh (xg (n := 104) (j := 6) xr4 rfl)).1 k
theorem xm110 : x_Mi 110 2 2 0 0 0 6 := (xh (xg (n := 104) (j := 6) xr4 rfl)).2
theorem xi111 (k : Nat) : x_in 111 k = xc111.getD k x_63 := (xh (xg (n := 104) (j := 7) xr4 rfl)).1 k
theorem xm111 : x_Mi 111 1 4 0 0 1 6 := (xh (xg (n := 104) (j := 7) xr4 rfl)).2
theorem xi112 (k : Nat) : x_in 112 k = xc112.getD k x_63 := (xh (xg (n := 104) (j := 8) xr4 rfl)).1 k
theorem xm112 : x_Mi 112 1 3 7 8249 2 7 := (xh (xg (n := 104) (j := 8) xr4 rfl)).2
theorem xi113 (k : Nat) : x_in 113 k = xc113.getD k x_63 := (xh (xg (n := 104) (j := 9) xr4 rfl)).1 k
theorem xm113 : x_Mi 113 2 2 0 0 1 7 := (xh (xg (n := 104) (j := 9) xr4 rfl)).2
theorem xi114 (k : Nat) : x_in 114 k = xc114.getD k x_63 := (xh (xg (n := 104) (j := 10) xr4 rfl)).1 k
theorem xm114 : x_Mi 114 2 2 0 0 0 7 := (xh (xg (n := 104) (j := 10) xr4 rfl)).2
theorem xi115 (k : Nat) : x_in 115 k = xc115.getD k x_63 := (xh (xg (n := 104) (j := 11) xr4 rfl)).1 k
theorem xm115 : x_Mi 115 2 2 0 0 0 7 := (xh (xg (n := 104) (j := 11) xr4 rfl)).2
theorem xi116 (k : Nat) : x_in 116 k = xc116.getD k x_63 := (xh (xg (n := 104) (j := 12) xr4 rfl)).1 k
theorem xm116 : x_Mi 116 2 2 0 0 0 7 := (xh (xg (n := 104) (j := 12) xr4 rfl)).2
theorem xi117 (k : Nat) : x_in 117 k = xc117.getD k x_63 := (xh (xg (n := 104) (j := 13) xr4 rfl)).1 k
theorem xm117 : x_Mi 117 2 2 0 0 0 7 := (xh (xg (n := 104) (j := 13) xr4 rfl)).2
theorem xi118 (k : Nat) : x_in 118 k = xc118.getD k x_63 := (xh (xg (n := 104) (j := 14) xr4 rfl)).1 k
theorem xm118 : x_Mi 118 2 2 0 0 0 7 := (xh (xg (n := 104) (j := 14) xr4 rfl)).2
theorem xi119 (k : Nat) : x_in 119 k = xc119.getD k x_63 := (xh (xg (n := 104) (j := 15) xr4 rfl)).1 k
theorem xm119 : x_Mi 119 3 3 0 0 0 7 := (xh (xg (n := 104) (j := 15) xr4 rfl)).2
theorem xi120 (k : Nat) : x_in 120 k = xc120.getD k x_63 := (xh (xg (n := 104) (j := 16) xr4 rfl)).1 k
theorem xm120 : x_Mi 120 3 3 0 0 0 7 := (xh (xg (n := 104) (j := 16) xr4 rfl)).2
theorem xi121 (k : Nat) : x_in 121 k = xc121.getD k x_63 := (xh (xg (n := 104) (j := 17) xr4 rfl)).1 k
theorem xm121 : x_Mi 121 2 4 0 0 0 7 := (xh (xg (n := 104) (j := 17) xr4 rfl)).2
theorem xi122 (k : Nat) : x_in 122 k = xc122.getD k x_63 := (xh (xg (n := 104) (j := 18) xr4 rfl)).1 k
theorem xm122 : x_Mi 122 4 4 0 0 0 7 := (xh (xg (n := 104) (j := 18) xr4 rfl)).2
theorem xi123 (k : Nat) : x_in 123 k = xc123.getD k x_63 := (xh (xg (n := 104) (j := 19) xr4 rfl)).1 k
theorem xm123 : x_Mi 123 3 4 0 0 0 7 := (xh (xg (n := 104) (j := 19) xr4 rfl)).2
theorem xi124 (k : Nat) : x_in 124 k = xc124.getD k x_63 := (xh (xg (n := 104) (j := 20) xr4 rfl)).1 k
theorem xm124 : x_Mi 124 3 4 0 0 0 7 := (xh (xg (n := 104) (j := 20) xr4 rfl)).2
theorem xi125 (k : Nat) : x_in 125 k = xc125.getD k x_63 := (xh (xg (n := 104) (j := 21) xr4 rfl)).1 k
theorem xm125 : x_Mi 125 3 3 0 0 0 7 := (xh (xg (n := 104) (j := 21) xr4 rfl)).2
theorem xi126 (k : Nat) : x_in 126 k = xc126.getD k x_63 := (xh (xg (n := 104) (j := 22) xr4 rfl)).1 k
theorem xm126 : x_Mi 126 4 5 0 0 0 7 := (xh (xg (n := 104) (j := 22) xr4 rfl)).2
theorem xi127 (k : Nat) : x_in 127 k = xc127.getD k x_63 := (xh (xg (n := 104) (j := 23) xr4 rfl)).1 k
theorem xm127 : x_Mi 127 3 3 0 0 0 7 := (xh (xg (n := 104) (j := 23) xr4 rfl)).2
theorem xi128 (k : Nat) : x_in 128 k = xc128.getD k x_63 := (xh (xg (n := 104) (j := 24) xr4 rfl)).1 k
theorem xm128 : x_Mi 128 3 6 0 0 0 7 := (xh (xg (n := 104) (j := 24) xr4 rfl)).2
theorem xi129 (k : Nat) : x_in 129 k = xc129.getD k x_63 := (xh (xg (n := 104) (j := 25) xr4 rfl)).1 k
theorem xm129 : x_Mi 129 3 3 0 0 0 7 := (xh (xg (n := 104) (j := 25) xr4 rfl)).2
theorem xi130 (k : Nat) : x_in 130 k = xc130.getD k x_63 := (xh (xg (n := 130) (j := 0) xr5 rfl)).1 k
theorem xm130 : x_Mi 130 4 4 0 0 0 7 := (xh (xg (n := 130) (j := 0) xr5 rfl)).2
theorem xi131 (k : Nat) : x_in 131 k = xc131.getD k x_63 := (xh (xg (n := 130) (j := 1) xr5 rfl)).1 k
theorem xm131 : x_Mi 131 4 6 0 0 0 7 := (xh (xg (n := 130) (j := 1) xr5 rfl)).2
theorem xi132 (k : Nat) : x_in 132 k = xc132.getD k x_63 := (xh (xg (n := 130) (j := 2) xr5 rfl)).1 k
theorem xm132 : x_Mi 132 3 3 0 0 0 7 := (xh (xg (n := 130) (j := 2) xr5 rfl)).2
theorem xi133 (k : Nat) : x_in 133 k = xc133.getD k x_63 := (xh (xg (n := 130) (j := 3) xr5 rfl)).1 k
theorem xm133 : x_Mi 133 3 3 0 0 0 7 := (xh (xg (n := 130) (j := 3) xr5 rfl)).2
theorem xi134 (k : Nat) : x_in 134 k = xc134.getD k x_63 := (xh (xg (n := 130) (j := 4) xr5 rfl)).1 k
theorem xm134 : x_Mi 134 4 4 0 0 0 7 := (xh (xg (n := 130) (j := 4) xr5 rfl)).2
theorem xi135 (k : Nat) : x_in 135 k = xc135.getD k x_63 := (xh (xg (n := 130) (j := 5) xr5 rfl)).1 k
theorem xm135 : x_Mi 135 3 4 0 0 0 7 := (xh (xg (n := 130) (j := 5) xr5 rfl)).2
theorem xi136 (k : Nat) : x_in 136 k = xc136.getD k x_63 := (xh (xg (n := 130) (j := 6) xr5 rfl)).1 k
theorem xm136 : x_Mi 136 4 4 0 0 0 7 := (xh (xg (n := 130) (j := 6) xr5 rfl)).2
theorem xi137 (k : Nat) : x_in 137 k = xc137.getD k x_63 := (xh (xg (n := 130) (j := 7) xr5 rfl)).1 k
theorem xm137 : x_Mi 137 2 2 0 0 0 7 := (xh (xg (n := 130) (j := 7) xr5 rfl)).2
theorem xi138 (k : Nat) : x_in 138 k = xc138.getD k x_63 := (xh (xg (n := 130) (j := 8) xr5 rfl)).1 k
theorem xm138 : x_Mi 138 1 1 0 0 1 7 := (xh (xg (n := 130) (j := 8) xr5 rfl)).2
theorem xi139 (k : Nat) : x_in 139 k = xc139.getD k x_63 := (xh (xg (n := 130) (j := 9) xr5 rfl)).1 k
theorem xm139 : x_Mi 139 4 5 0 0 0 7 := (xh (xg (n := 130) (j := 9) xr5 rfl)).2
theorem xi140 (k : Nat) : x_in 140 k = xc140.getD k x_63 := (xh (xg (n := 130) (j := 10) xr5 rfl)).1 k
theorem xm140 : x_Mi 140 1 13 0 0 1 7 := (xh (xg (n := 130) (j := 10) xr5 rfl)).2
theorem xi141 (k : Nat) : x_in 141 k = xc141.getD k x_63 := (xh (xg (n := 130) (j := 11) xr5 rfl)).1 k
theorem xm141 : x_Mi 141 3 4 0 0 0 7 := (xh (xg (n := 130) (j := 11) xr5 rfl)).2
theorem xi142 (k : Nat) : x_in 142 k = xc142.getD k x_63 := (xh (xg (n := 130) (j := 12) xr5 rfl)).1 k
theorem xm142 : x_Mi 142 3 4 0 0 0 7 := (xh (xg (n := 130) (j := 12) xr5 rfl)).2
theorem xi143 (k : Nat) : x_in 143 k = xc143.getD k x_63 := (xh (xg (n := 130) (j := 13) xr5 rfl)).1 k
theorem xm143 : x_Mi 143 2 2 0 0 0 7 := (xh (xg (n := 130) (j := 13) xr5 rfl)).2
theorem xi144 (k : Nat) : x_in 144 k = xc144.getD k x_63 := (xh (xg (n := 130) (j := 14) xr5 rfl)).1 k
theorem xm144 : x_Mi 144 2 2 0 0 0 7 := (xh (xg (n := 130) (j := 14) xr5 rfl)).2
theorem xi145 (k : Nat) : x_in 145 k = xc145.getD k x_63 := (xh (xg (n := 130) (j := 15) xr5 rfl)).1 k
theorem xm145 : x_Mi 145 2 2 0 0 0 7 := (xh (xg (n := 130) (j := 15) xr5 rfl)).2
theorem xi146 (k : Nat) : x_in 146 k = xc146.getD k x_63 := (xh (xg (n := 130) (j := 16) xr5 rfl)).1 k
theorem xm146 : x_Mi 146 3 6 0 0 0 7 := (xh (xg (n := 130) (j := 16) xr5 rfl)).2
theorem xi147 (k : Nat) : x_in 147 k = xc147.getD k x_63 := (xh (xg (n := 130) (j := 17) xr5 rfl)).1 k
theorem xm147 : x_Mi 147 2 2 0 0 0 7 := (xh (xg (n := 130) (j := 17) xr5 rfl)).2
theorem xi148 (k : Nat) : x_in 148 k = xc148.getD k x_63 := (xh (xg (n := 130) (j := 18) xr5 rfl)).1 k
theorem xm148 : x_Mi 148 3 5 0 0 0 7 := (xh (xg (n := 130) (j := 18) xr5 rfl)).2
theorem xi149 (k : Nat) : x_in 149 k = xc149.getD k x_63 := (xh (xg (n := 130) (j := 19) xr5 rfl)).1 k
theorem xm149 : x_Mi 149 3 3 0 0 0 7 := (xh (xg (n := 130) (j := 19) xr5 rfl)).2
theorem xi150 (k : Nat) : x_in 150 k = xc150.getD k x_63 := (xh (xg (n := 130) (j := 20) xr5 rfl)).1 k
theorem xm150 : x_Mi 150 4 7 0 0 0 7 := (xh (xg (n := 130) (j := 20) xr5 rfl)).2
theorem xi151 (k : Nat) : x_in 151 k = xc151.getD k x_63 := (xh (xg (n := 130) (j := 21) xr5 rfl)).1 k
theorem xm151 : x_Mi 151 3 4 0 0 0 7 := (xh (xg (n := 130) (j := 21) xr5 rfl)).2
theorem xi152 (k : Nat) : x_in 152 k = xc152.getD k x_63 := (xh (xg (n := 130) (j := 22) xr5 rfl)).1 k
theorem xm152 : x_Mi 152 4 7 0 0 0 7 := (xh (xg (n := 130) (j := 22) xr5 rfl)).2
theorem xi153 (k : Nat) : x_in 153 k = xc153.getD k x_63 := (xh (xg (n := 130) (j := 23) xr5 rfl)).1 k
theorem xm153 : x_Mi 153 3 3 0 0 0 7 := (xh (xg (n := 130) (j := 23) xr5 rfl)).2
theorem xi154 (k : Nat) : x_in 154 k = xc154.getD k x_63 := (xh (xg (n := 130) (j := 24) xr5 rfl)).1 k
theorem xm154 : x_Mi 154 3 10 0 0 0 7 := (xh (xg (n := 130) (j := 24) xr5 rfl)).2
theorem xi155 (k : Nat) : x_in 155 k = xc155.getD k x_63 := (xh (xg (n := 130) (j := 25) xr5 rfl)).1 k
theorem xm155 : x_Mi 155 1 3 0 0 0 7 := (xh (xg (n := 130) (j := 25) xr5 rfl)).2
theorem xi156 (k : Nat) : x_in 156 k = xc156.getD k x_63 := (xh (xg (n := 156) (j := 0) xr6 rfl)).1 k
theorem xm156 : x_Mi 156 2 2 0 0 0 7 := (xh (xg (n := 156) (j := 0) xr6 rfl)).2
theorem xi157 (k : Nat) : x_in 157 k = xc157.getD k x_63 := (xh (xg (n := 156) (j := 1) xr6 rfl)).1 k
theorem xm157 : x_Mi 157 3 4 0 0 0 7 := (xh (xg (n := 156) (j := 1) xr6 rfl)).2
theorem xi158 (k : Nat) : x_in 158 k = xc158.getD k x_63 := (xh (xg (n := 156) (j := 2) xr6 rfl)).1 k
theorem xm158 : x_Mi 158 3 4 0 0 0 7 := (xh (xg (n := 156) (j := 2) xr6 rfl)).2
theorem xi159 (k : Nat) : x_in 159 k = xc159.getD k x_63 := (xh (xg (n := 156) (j := 3) xr6 rfl)).1 k
theorem xm159 : x_Mi 159 2 5 0 0 0 7 := (xh (xg (n := 156) (j := 3) xr6 rfl)).2
theorem xi160 (k : Nat) : x_in 160 k = xc160.getD k x_63 := (xh (xg (n := 156) (j := 4) xr6 rfl)).1 k
theorem xm160 : x_Mi 160 3 3 0 0 0 7 := (xh (xg (n := 156) (j := 4) xr6 rfl)).2
theorem xi161 (k : Nat) : x_in 161 k = xc161.getD k x_63 := (xh (xg (n := 156) (j := 5) xr6 rfl)).1 k
theorem xm161 : x_Mi 161 3 4 0 0 0 7 := (xh (xg (n := 156) (j := 5) xr6 rfl)).2
theorem xi162 (k : Nat) : x_in 162 k = xc162.getD k x_63 := (xh (xg (n := 156) (j := 6) xr6 rfl)).1 k
theorem xm162 : x_Mi 162 3 5 0 0 0 7 := (xh (xg (n := 156) (j := 6) xr6 rfl)).2
theorem xi163 (k : Nat) : x_in 163 k = xc163.getD k x_63 := (xh (xg (n := 156) (j := 7) xr6 rfl)).1 k
theorem xm163 : x_Mi 163 3 3 0 0 0 7 := (xh (xg (n := 156) (j := 7) xr6 rfl)).2
theorem xi164 (k : Nat) : x_in 164 k = xc164.getD k x_63 := (xh (xg (n := 156) (j := 8) xr6 rfl)).1 k
theorem xm164 : x_Mi 164 2 6 0 0 0 7 := (xh (xg (n := 156) (j := 8) xr6 rfl)).2
theorem xi165 (k : Nat) : x_in 165 k = xc165.getD k x_63 := (xh (xg (n := 156) (j := 9) xr6 rfl)).1 k
theorem xm165 : x_Mi 165 3 4 0 0 0 7 := (xh (xg (n := 156) (j := 9) xr6 rfl)).2
theorem xi166 (k : Nat) : x_in 166 k = xc166.getD k x_63 := (xh (xg (n := 156) (j := 10) xr6 rfl)).1 k
theorem xm166 : x_Mi 166 5 7 0 0 0 7 := (xh (xg (n := 156) (j := 10) xr6 rfl)).2
theorem xi167 (k : Nat) : x_in 167 k = xc167.getD k x_63 := (xh (xg (n := 156) (j := 11) xr6 rfl)).1 k
theorem xm167 : x_Mi 167 3 9 0 0 0 7 := (xh (xg (n := 156) (j := 11) xr6 rfl)).2
theorem xi168 (k : Nat) : x_in 168 k = xc168.getD k x_63 := (xh (xg (n := 156) (j := 12) xr6 rfl)).1 k
theorem xm168 : x_Mi 168 4 4 0 0 0 7 := (xh (xg (n := 156) (j := 12) xr6 rfl)).2
theorem xi169 (k : Nat) : x_in 169 k = xc169.getD k x_63 := (xh (xg (n := 156) (j := 13) xr6 rfl)).1 k
theorem xm169 : x_Mi 169 2 5 0 0 0 7 := (xh (xg (n := 156) (j := 13) xr6 rfl)).2
theorem xi170 (k : Nat) : x_in 170 k = xc170.getD k x_63 := (xh (xg (n := 156) (j := 14) xr6 rfl)).1 k
theorem xm170 : x_Mi 170 3 3 0 0 0 7 := (xh (xg (n := 156) (j := 14) xr6 rfl)).2
theorem xi171 (k : Nat) : x_in 171 k = xc171.getD k x_63 := (xh (xg (n := 156) (j := 15) xr6 rfl)).1 k
theorem xm171 : x_Mi 171 1 4 0 0 0 7 := (xh (xg (n := 156) (j := 15) xr6 rfl)).2
theorem xi172 (k : Nat) : x_in 172 k = xc172.getD k x_63 := (xh (xg (n := 156) (j := 16) xr6 rfl)).1 k
theorem xm172 : x_Mi 172 2 8 0 0 0 7 := (xh (xg (n := 156) (j := 16) xr6 rfl)).2
theorem xi173 (k : Nat) : x_in 173 k = xc173.getD k x_63 := (xh (xg (n := 156) (j := 17) xr6 rfl)).1 k
theorem xm173 : x_Mi 173 1 7 0 0 0 7 := (xh (xg (n := 156) (j := 17) xr6 rfl)).2
theorem xi174 (k : Nat) : x_in 174 k = xc174.getD k x_63 := (xh (xg (n := 156) (j := 18) xr6 rfl)).1 k
theorem xm174 : x_Mi 174 2 6 0 0 0 7 := (xh (xg (n := 156) (j := 18) xr6 rfl)).2
theorem xi175 (k : Nat) : x_in 175 k = xc175.getD k x_63 := (xh (xg (n := 156) (j := 19) xr6 rfl)).1 k
theorem xm175 : x_Mi 175 2 2 0 0 0 7 := (xh (xg (n := 156) (j := 19) xr6 rfl)).2
theorem xi176 (k : Nat) : x_in 176 k = xc176.getD k x_63 := (xh (xg (n := 156) (j := 20) xr6 rfl)).1 k
theorem xm176 : x_Mi 176 2 4 0 0 0 7 := (xh (xg (n := 156) (j := 20) xr6 rfl)).2
theorem xi177 (k : Nat) : x_in 177 k = xc177.getD k x_63 := (xh (xg (n := 156) (j := 21) xr6 rfl)).1 k
theorem xm177 : x_Mi 177 2 9 0 0 0 7 := (xh (xg (n := 156) (j := 21) xr6 rfl)).2
theorem xi178 (k : Nat) : x_in 178 k = xc178.getD k x_63 := (xh (xg (n := 156) (j := 22) xr6 rfl)).1 k
theorem xm178 : x_Mi 178 2 3 0 0 0 7 := (xh (xg (n := 156) (j := 22) xr6 rfl)).2
theorem xi179 (k : Nat) : x_in 179 k = xc179.getD k x_63 := (xh (xg (n := 156) (j := 23) xr6 rfl)).1 k
theorem xm179 : x_Mi 179 2 3 0 0 0 7 := (xh (xg (n := 156) (j := 23) xr6 rfl)).2
theorem xi180 (k : Nat) : x_in 180 k = xc180.getD k x_63 := (xh (xg (n := 156) (j := 24) xr6 rfl)).1 k
theorem xm180 : x_Mi 180 2 4 0 0 0 7 := (xh (xg (n := 156) (j := 24) xr6 rfl)).2
theorem xi181 (k : Nat) : x_in 181 k = xc181.getD k x_63 := (xh (xg (n := 156) (j := 25) xr6 rfl)).1 k
theorem xm181 : x_Mi 181 1 4 0 0 1 8 := (xh (xg (n := 156) (j := 25) xr6 rfl)).2
