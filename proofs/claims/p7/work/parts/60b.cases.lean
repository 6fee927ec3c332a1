/-! the law's cases over its states -/
section LAWC
variable {l : Launch} {xs : Nat → Int32} {kr : KR} {i n : Nat} {M : Mm}
set_option maxRecDepth 20000 in
theorem lawc_8 (hi : i + 6 ≤ n) (hn : n ≤ 3072) (hL0 : LX M) (h : ∀ M', LX M' → mC M' ≤ mC M + 1 → mS M' ≤ mS M + 6 → Wf l (n, xs) uL 20 false (1000, 10000) 1885 [(0, .ref 4999), (1, .ref 1), (2, .ref 150), (3, .ref 167), (4, .int (nI i))] [] M' kr) : Wf l (n, xs) uL 20 false (1000, 10000) 520 [(0, .ref 4999), (1, .ref 1), (2, .ref 150), (3, .ref 167), (4, .int (nI i))] [] M kr := by
  have c00 : mC M ≤ mC M + 1 := Nat.le_succ _
  have s00 : mS M ≤ mS M + 6 := Nat.le_add_right _ _
  refine Wf.sAl (tkL_8 (d := 19)) rfl rfl rfl ?_
  refine Wf.sAl (tkL_8 (d := 19)) rfl rfl rfl ?_
  refine Wf.sIl (tkL_8 (d := 19)) rfl rfl ?_
  refine Wf.sIc (tkL_8 (d := 19)) rfl ?_
  refine Wf.s2 (tkL_8 (d := 19)) rfl ?_
  refine Wf.sScd (tkL_8 (d := 19)) rfl (vi1 hi hn) ?_
  show Wf l (n, xs) uL 20 false (1000, 10000) 527 [(0, .ref 4999), (1, .ref 1), (2, .ref 150), (3, .ref 167), (4, .int (nI i))] [.int (xs (nI i + 1 : Int32).toNatClampNeg), .ref 1] M kr
  refine Wf.sAl (tkL_8 (d := 19)) rfl rfl rfl ?_
  refine Wf.sIl (tkL_8 (d := 19)) rfl rfl ?_
  refine Wf.sIc (tkL_8 (d := 19)) rfl ?_
  refine Wf.s2 (tkL_8 (d := 19)) rfl ?_
  refine Wf.sScd (tkL_8 (d := 19)) rfl (vi2 hi hn) ?_
  show Wf l (n, xs) uL 20 false (1000, 10000) 533 [(0, .ref 4999), (1, .ref 1), (2, .ref 150), (3, .ref 167), (4, .int (nI i))] [.int (xs (nI i + 2 : Int32).toNatClampNeg), .int (xs (nI i + 1 : Int32).toNatClampNeg), .ref 1] M kr
  refine Wf.sCv (as := [.int (xs (nI i + 1 : Int32).toNatClampNeg), .int (xs (nI i + 2 : Int32).toNatClampNeg)]) (rest := []) (tkL_8 (d := 19)) rfl rfl (kk_ok hL0.iv rfl) rfl ?_
  refine p6_bears 7 hL0.li (fun x4 M1 hl9 e3 k5 => ?_)
  have hq8 := LX_k hL0 hl9 e3 k5 (by decide +kernel)
  have c6 : mC M1 ≤ mC M + 1 := by rw [mC_1 e3]; exact c00
  have s7 : mS M1 ≤ mS M + 6 := by rw [mS_1 e3]; exact s00
  show Wf l (n, xs) uL 20 false (1000, 10000) 536 [(0, .ref 4999), (1, .ref 1), (2, .ref 150), (3, .ref 167), (4, .int (nI i))] [.int x4] M1 kr
  refine Wf.sPop (tkL_8 (d := 19)) rfl rfl ?_
  refine Wf.sAl (tkL_8 (d := 19)) rfl rfl rfl ?_
  refine Wf.sAl (tkL_8 (d := 19)) rfl rfl rfl ?_
  refine Wf.sIl (tkL_8 (d := 19)) rfl rfl ?_
  refine Wf.sIc (tkL_8 (d := 19)) rfl ?_
  refine Wf.s2 (tkL_8 (d := 19)) rfl ?_
  refine Wf.sScd (tkL_8 (d := 19)) rfl (vi1 hi hn) ?_
  show Wf l (n, xs) uL 20 false (1000, 10000) 544 [(0, .ref 4999), (1, .ref 1), (2, .ref 150), (3, .ref 167), (4, .int (nI i))] [.int (xs (nI i + 1 : Int32).toNatClampNeg), .ref 150] M1 kr
  refine Wf.sAl (tkL_8 (d := 19)) rfl rfl rfl ?_
  refine Wf.sIl (tkL_8 (d := 19)) rfl rfl ?_
  refine Wf.sIc (tkL_8 (d := 19)) rfl ?_
  refine Wf.s2 (tkL_8 (d := 19)) rfl ?_
  refine Wf.sScd (tkL_8 (d := 19)) rfl (vi2 hi hn) ?_
  show Wf l (n, xs) uL 20 false (1000, 10000) 550 [(0, .ref 4999), (1, .ref 1), (2, .ref 150), (3, .ref 167), (4, .int (nI i))] [.int (xs (nI i + 2 : Int32).toNatClampNeg), .int (xs (nI i + 1 : Int32).toNatClampNeg), .ref 150] M1 kr
  refine Wf.sCv (as := [.int (xs (nI i + 1 : Int32).toNatClampNeg), .int (xs (nI i + 2 : Int32).toNatClampNeg)]) (rest := []) (tkL_8 (d := 19)) rfl rfl (kk_ok hq8.iv rfl) rfl ?_
  refine p7_bears 7 hq8.li (fun x13 M10 hl18 e12 k14 => ?_)
  have hq17 := LX_k hq8 hl18 e12 k14 (by decide +kernel)
  have c15 : mC M10 ≤ mC M + 1 := by rw [mC_1 e12]; exact c6
  have s16 : mS M10 ≤ mS M + 6 := by rw [mS_1 e12]; exact s7
  show Wf l (n, xs) uL 20 false (1000, 10000) 553 [(0, .ref 4999), (1, .ref 1), (2, .ref 150), (3, .ref 167), (4, .int (nI i))] [.int x13] M10 kr
  refine Wf.sPop (tkL_8 (d := 19)) rfl rfl ?_
  refine Wf.sGo (tkL_8 (d := 19)) rfl ?_
  show Wf l (n, xs) uL 20 false (1000, 10000) 1885 [(0, .ref 4999), (1, .ref 1), (2, .ref 150), (3, .ref 167), (4, .int (nI i))] [] M10 kr
  exact h M10 hq17 c15 s16
set_option maxRecDepth 20000 in
theorem lawc_9 (hi : i + 6 ≤ n) (hn : n ≤ 3072) (hL0 : LX M) (h : ∀ M', LX M' → mC M' ≤ mC M + 1 → mS M' ≤ mS M + 6 → Wf l (n, xs) uL 20 false (1000, 10000) 1885 [(0, .ref 4999), (1, .ref 1), (2, .ref 150), (3, .ref 167), (4, .int (nI i))] [] M' kr) : Wf l (n, xs) uL 20 false (1000, 10000) 557 [(0, .ref 4999), (1, .ref 1), (2, .ref 150), (3, .ref 167), (4, .int (nI i))] [] M kr := by
  have c00 : mC M ≤ mC M + 1 := Nat.le_succ _
  have s00 : mS M ≤ mS M + 6 := Nat.le_add_right _ _
  refine Wf.sAl (tkL_9 (d := 19)) rfl rfl rfl ?_
  refine Wf.sAl (tkL_9 (d := 19)) rfl rfl rfl ?_
  refine Wf.sIl (tkL_9 (d := 19)) rfl rfl ?_
  refine Wf.sIc (tkL_9 (d := 19)) rfl ?_
  refine Wf.s2 (tkL_9 (d := 19)) rfl ?_
  refine Wf.sScd (tkL_9 (d := 19)) rfl (vi1 hi hn) ?_
  show Wf l (n, xs) uL 20 false (1000, 10000) 564 [(0, .ref 4999), (1, .ref 1), (2, .ref 150), (3, .ref 167), (4, .int (nI i))] [.int (xs (nI i + 1 : Int32).toNatClampNeg), .ref 1] M kr
  refine Wf.sAl (tkL_9 (d := 19)) rfl rfl rfl ?_
  refine Wf.sIl (tkL_9 (d := 19)) rfl rfl ?_
  refine Wf.sIc (tkL_9 (d := 19)) rfl ?_
  refine Wf.s2 (tkL_9 (d := 19)) rfl ?_
  refine Wf.sScd (tkL_9 (d := 19)) rfl (vi2 hi hn) ?_
  show Wf l (n, xs) uL 20 false (1000, 10000) 570 [(0, .ref 4999), (1, .ref 1), (2, .ref 150), (3, .ref 167), (4, .int (nI i))] [.int (xs (nI i + 2 : Int32).toNatClampNeg), .int (xs (nI i + 1 : Int32).toNatClampNeg), .ref 1] M kr
  refine Wf.sCv (as := [.int (xs (nI i + 1 : Int32).toNatClampNeg), .int (xs (nI i + 2 : Int32).toNatClampNeg)]) (rest := []) (tkL_9 (d := 19)) rfl rfl (kk_ok hL0.iv rfl) rfl ?_
  refine p6_holds 7 hL0.li (fun x4 M1 hl9 e3 k5 => ?_)
  have hq8 := LX_k hL0 hl9 e3 k5 (by decide +kernel)
  have c6 : mC M1 ≤ mC M + 1 := by rw [mC_1 e3]; exact c00
  have s7 : mS M1 ≤ mS M + 6 := by rw [mS_1 e3]; exact s00
  show Wf l (n, xs) uL 20 false (1000, 10000) 573 [(0, .ref 4999), (1, .ref 1), (2, .ref 150), (3, .ref 167), (4, .int (nI i))] [.int x4] M1 kr
  refine Wf.sPop (tkL_9 (d := 19)) rfl rfl ?_
  refine Wf.sAl (tkL_9 (d := 19)) rfl rfl rfl ?_
  refine Wf.sAl (tkL_9 (d := 19)) rfl rfl rfl ?_
  refine Wf.sIl (tkL_9 (d := 19)) rfl rfl ?_
  refine Wf.sIc (tkL_9 (d := 19)) rfl ?_
  refine Wf.s2 (tkL_9 (d := 19)) rfl ?_
  refine Wf.sScd (tkL_9 (d := 19)) rfl (vi1 hi hn) ?_
  show Wf l (n, xs) uL 20 false (1000, 10000) 581 [(0, .ref 4999), (1, .ref 1), (2, .ref 150), (3, .ref 167), (4, .int (nI i))] [.int (xs (nI i + 1 : Int32).toNatClampNeg), .ref 150] M1 kr
  refine Wf.sAl (tkL_9 (d := 19)) rfl rfl rfl ?_
  refine Wf.sIl (tkL_9 (d := 19)) rfl rfl ?_
  refine Wf.sIc (tkL_9 (d := 19)) rfl ?_
  refine Wf.s2 (tkL_9 (d := 19)) rfl ?_
  refine Wf.sScd (tkL_9 (d := 19)) rfl (vi2 hi hn) ?_
  show Wf l (n, xs) uL 20 false (1000, 10000) 587 [(0, .ref 4999), (1, .ref 1), (2, .ref 150), (3, .ref 167), (4, .int (nI i))] [.int (xs (nI i + 2 : Int32).toNatClampNeg), .int (xs (nI i + 1 : Int32).toNatClampNeg), .ref 150] M1 kr
  refine Wf.sCv (as := [.int (xs (nI i + 1 : Int32).toNatClampNeg), .int (xs (nI i + 2 : Int32).toNatClampNeg)]) (rest := []) (tkL_9 (d := 19)) rfl rfl (kk_ok hq8.iv rfl) rfl ?_
  refine p7_holds 7 hq8.li (fun x13 M10 hl18 e12 k14 => ?_)
  have hq17 := LX_k hq8 hl18 e12 k14 (by decide +kernel)
  have c15 : mC M10 ≤ mC M + 1 := by rw [mC_1 e12]; exact c6
  have s16 : mS M10 ≤ mS M + 6 := by rw [mS_1 e12]; exact s7
  show Wf l (n, xs) uL 20 false (1000, 10000) 590 [(0, .ref 4999), (1, .ref 1), (2, .ref 150), (3, .ref 167), (4, .int (nI i))] [.int x13] M10 kr
  refine Wf.sPop (tkL_9 (d := 19)) rfl rfl ?_
  refine Wf.sGo (tkL_9 (d := 19)) rfl ?_
  show Wf l (n, xs) uL 20 false (1000, 10000) 1885 [(0, .ref 4999), (1, .ref 1), (2, .ref 150), (3, .ref 167), (4, .int (nI i))] [] M10 kr
  exact h M10 hq17 c15 s16
set_option maxRecDepth 20000 in
theorem lawc_10 (hi : i + 6 ≤ n) (hn : n ≤ 3072) (hL0 : LX M) (h : ∀ M', LX M' → mC M' ≤ mC M + 1 → mS M' ≤ mS M + 6 → Wf l (n, xs) uL 20 false (1000, 10000) 1885 [(0, .ref 4999), (1, .ref 1), (2, .ref 150), (3, .ref 167), (4, .int (nI i))] [] M' kr) : Wf l (n, xs) uL 20 false (1000, 10000) 594 [(0, .ref 4999), (1, .ref 1), (2, .ref 150), (3, .ref 167), (4, .int (nI i))] [] M kr := by
  have c00 : mC M ≤ mC M + 1 := Nat.le_succ _
  have s00 : mS M ≤ mS M + 6 := Nat.le_add_right _ _
  refine Wf.sAl (tkL_10 (d := 19)) rfl rfl rfl ?_
  refine Wf.sAl (tkL_10 (d := 19)) rfl rfl rfl ?_
  refine Wf.sIl (tkL_10 (d := 19)) rfl rfl ?_
  refine Wf.sIc (tkL_10 (d := 19)) rfl ?_
  refine Wf.s2 (tkL_10 (d := 19)) rfl ?_
  refine Wf.sScd (tkL_10 (d := 19)) rfl (vi1 hi hn) ?_
  show Wf l (n, xs) uL 20 false (1000, 10000) 601 [(0, .ref 4999), (1, .ref 1), (2, .ref 150), (3, .ref 167), (4, .int (nI i))] [.int (xs (nI i + 1 : Int32).toNatClampNeg), .ref 1] M kr
  refine Wf.sAl (tkL_10 (d := 19)) rfl rfl rfl ?_
  refine Wf.sIl (tkL_10 (d := 19)) rfl rfl ?_
  refine Wf.sIc (tkL_10 (d := 19)) rfl ?_
  refine Wf.s2 (tkL_10 (d := 19)) rfl ?_
  refine Wf.sScd (tkL_10 (d := 19)) rfl (vi2 hi hn) ?_
  show Wf l (n, xs) uL 20 false (1000, 10000) 607 [(0, .ref 4999), (1, .ref 1), (2, .ref 150), (3, .ref 167), (4, .int (nI i))] [.int (xs (nI i + 2 : Int32).toNatClampNeg), .int (xs (nI i + 1 : Int32).toNatClampNeg), .ref 1] M kr
  refine Wf.sCv (as := [.int (xs (nI i + 1 : Int32).toNatClampNeg), .int (xs (nI i + 2 : Int32).toNatClampNeg)]) (rest := []) (tkL_10 (d := 19)) rfl rfl (kk_ok hL0.iv rfl) rfl ?_
  refine p6_drops 7 hL0.li (fun x4 M1 hl9 e3 k5 => ?_)
  have hq8 := LX_k hL0 hl9 e3 k5 (by decide +kernel)
  have c6 : mC M1 ≤ mC M + 1 := by rw [mC_1 e3]; exact c00
  have s7 : mS M1 ≤ mS M + 6 := by rw [mS_1 e3]; exact s00
  show Wf l (n, xs) uL 20 false (1000, 10000) 610 [(0, .ref 4999), (1, .ref 1), (2, .ref 150), (3, .ref 167), (4, .int (nI i))] [.int x4] M1 kr
  refine Wf.sPop (tkL_10 (d := 19)) rfl rfl ?_
  refine Wf.sAl (tkL_10 (d := 19)) rfl rfl rfl ?_
  refine Wf.sAl (tkL_10 (d := 19)) rfl rfl rfl ?_
  refine Wf.sIl (tkL_10 (d := 19)) rfl rfl ?_
  refine Wf.sIc (tkL_10 (d := 19)) rfl ?_
  refine Wf.s2 (tkL_10 (d := 19)) rfl ?_
  refine Wf.sScd (tkL_10 (d := 19)) rfl (vi1 hi hn) ?_
  show Wf l (n, xs) uL 20 false (1000, 10000) 618 [(0, .ref 4999), (1, .ref 1), (2, .ref 150), (3, .ref 167), (4, .int (nI i))] [.int (xs (nI i + 1 : Int32).toNatClampNeg), .ref 150] M1 kr
  refine Wf.sAl (tkL_10 (d := 19)) rfl rfl rfl ?_
  refine Wf.sIl (tkL_10 (d := 19)) rfl rfl ?_
  refine Wf.sIc (tkL_10 (d := 19)) rfl ?_
  refine Wf.s2 (tkL_10 (d := 19)) rfl ?_
  refine Wf.sScd (tkL_10 (d := 19)) rfl (vi2 hi hn) ?_
  show Wf l (n, xs) uL 20 false (1000, 10000) 624 [(0, .ref 4999), (1, .ref 1), (2, .ref 150), (3, .ref 167), (4, .int (nI i))] [.int (xs (nI i + 2 : Int32).toNatClampNeg), .int (xs (nI i + 1 : Int32).toNatClampNeg), .ref 150] M1 kr
  refine Wf.sCv (as := [.int (xs (nI i + 1 : Int32).toNatClampNeg), .int (xs (nI i + 2 : Int32).toNatClampNeg)]) (rest := []) (tkL_10 (d := 19)) rfl rfl (kk_ok hq8.iv rfl) rfl ?_
  refine p7_drops 7 hq8.li (fun x13 M10 hl18 e12 k14 => ?_)
  have hq17 := LX_k hq8 hl18 e12 k14 (by decide +kernel)
  have c15 : mC M10 ≤ mC M + 1 := by rw [mC_1 e12]; exact c6
  have s16 : mS M10 ≤ mS M + 6 := by rw [mS_1 e12]; exact s7
  show Wf l (n, xs) uL 20 false (1000, 10000) 627 [(0, .ref 4999), (1, .ref 1), (2, .ref 150), (3, .ref 167), (4, .int (nI i))] [.int x13] M10 kr
  refine Wf.sPop (tkL_10 (d := 19)) rfl rfl ?_
  refine Wf.sGo (tkL_10 (d := 19)) rfl ?_
  show Wf l (n, xs) uL 20 false (1000, 10000) 1885 [(0, .ref 4999), (1, .ref 1), (2, .ref 150), (3, .ref 167), (4, .int (nI i))] [] M10 kr
  exact h M10 hq17 c15 s16
set_option maxRecDepth 20000 in
theorem lawc_11 (hi : i + 6 ≤ n) (hn : n ≤ 3072) (hL0 : LX M) (h : ∀ M', LX M' → mC M' ≤ mC M + 1 → mS M' ≤ mS M + 6 → Wf l (n, xs) uL 20 false (1000, 10000) 1885 [(0, .ref 4999), (1, .ref 1), (2, .ref 150), (3, .ref 167), (4, .int (nI i))] [] M' kr) : Wf l (n, xs) uL 20 false (1000, 10000) 631 [(0, .ref 4999), (1, .ref 1), (2, .ref 150), (3, .ref 167), (4, .int (nI i))] [] M kr := by
  have c00 : mC M ≤ mC M + 1 := Nat.le_succ _
  have s00 : mS M ≤ mS M + 6 := Nat.le_add_right _ _
  refine Wf.sAl (tkL_11 (d := 19)) rfl rfl rfl ?_
  refine Wf.sAl (tkL_11 (d := 19)) rfl rfl rfl ?_
  refine Wf.sIl (tkL_11 (d := 19)) rfl rfl ?_
  refine Wf.sIc (tkL_11 (d := 19)) rfl ?_
  refine Wf.s2 (tkL_11 (d := 19)) rfl ?_
  refine Wf.sScd (tkL_11 (d := 19)) rfl (vi1 hi hn) ?_
  show Wf l (n, xs) uL 20 false (1000, 10000) 638 [(0, .ref 4999), (1, .ref 1), (2, .ref 150), (3, .ref 167), (4, .int (nI i))] [.int (xs (nI i + 1 : Int32).toNatClampNeg), .ref 1] M kr
  refine Wf.sCv (as := [.int (xs (nI i + 1 : Int32).toNatClampNeg)]) (rest := []) (tkL_11 (d := 19)) rfl rfl (kk_ok hL0.iv rfl) rfl ?_
  refine p6_dropsIn 7 hL0.li (fun x4 M1 hl9 e3 k5 => ?_)
  have hq8 := LX_k hL0 hl9 e3 k5 (by decide +kernel)
  have c6 : mC M1 ≤ mC M + 1 := by rw [mC_1 e3]; exact c00
  have s7 : mS M1 ≤ mS M + 6 := by rw [mS_1 e3]; exact s00
  show Wf l (n, xs) uL 20 false (1000, 10000) 641 [(0, .ref 4999), (1, .ref 1), (2, .ref 150), (3, .ref 167), (4, .int (nI i))] [.int x4] M1 kr
  refine Wf.sPop (tkL_11 (d := 19)) rfl rfl ?_
  refine Wf.sAl (tkL_11 (d := 19)) rfl rfl rfl ?_
  refine Wf.sAl (tkL_11 (d := 19)) rfl rfl rfl ?_
  refine Wf.sIl (tkL_11 (d := 19)) rfl rfl ?_
  refine Wf.sIc (tkL_11 (d := 19)) rfl ?_
  refine Wf.s2 (tkL_11 (d := 19)) rfl ?_
  refine Wf.sScd (tkL_11 (d := 19)) rfl (vi1 hi hn) ?_
  show Wf l (n, xs) uL 20 false (1000, 10000) 649 [(0, .ref 4999), (1, .ref 1), (2, .ref 150), (3, .ref 167), (4, .int (nI i))] [.int (xs (nI i + 1 : Int32).toNatClampNeg), .ref 150] M1 kr
  refine Wf.sCv (as := [.int (xs (nI i + 1 : Int32).toNatClampNeg)]) (rest := []) (tkL_11 (d := 19)) rfl rfl (kk_ok hq8.iv rfl) rfl ?_
  refine p7_dropsIn 7 hq8.li (fun x13 M10 hl18 e12 k14 => ?_)
  have hq17 := LX_k hq8 hl18 e12 k14 (by decide +kernel)
  have c15 : mC M10 ≤ mC M + 1 := by rw [mC_1 e12]; exact c6
  have s16 : mS M10 ≤ mS M + 6 := by rw [mS_1 e12]; exact s7
  show Wf l (n, xs) uL 20 false (1000, 10000) 652 [(0, .ref 4999), (1, .ref 1), (2, .ref 150), (3, .ref 167), (4, .int (nI i))] [.int x13] M10 kr
  refine Wf.sPop (tkL_11 (d := 19)) rfl rfl ?_
  refine Wf.sGo (tkL_11 (d := 19)) rfl ?_
  show Wf l (n, xs) uL 20 false (1000, 10000) 1885 [(0, .ref 4999), (1, .ref 1), (2, .ref 150), (3, .ref 167), (4, .int (nI i))] [] M10 kr
  exact h M10 hq17 c15 s16
set_option maxRecDepth 20000 in
theorem lawc_12 (hi : i + 6 ≤ n) (hn : n ≤ 3072) (hL0 : LX M) (h : ∀ M', LX M' → mC M' ≤ mC M + 1 → mS M' ≤ mS M + 6 → Wf l (n, xs) uL 20 false (1000, 10000) 1885 [(0, .ref 4999), (1, .ref 1), (2, .ref 150), (3, .ref 167), (4, .int (nI i))] [] M' kr) : Wf l (n, xs) uL 20 false (1000, 10000) 656 [(0, .ref 4999), (1, .ref 1), (2, .ref 150), (3, .ref 167), (4, .int (nI i))] [] M kr := by
  have c00 : mC M ≤ mC M + 1 := Nat.le_succ _
  have s00 : mS M ≤ mS M + 6 := Nat.le_add_right _ _
  refine Wf.sAl (tkL_12 (d := 19)) rfl rfl rfl ?_
  refine Wf.sAl (tkL_12 (d := 19)) rfl rfl rfl ?_
  refine Wf.sIl (tkL_12 (d := 19)) rfl rfl ?_
  refine Wf.sIc (tkL_12 (d := 19)) rfl ?_
  refine Wf.s2 (tkL_12 (d := 19)) rfl ?_
  refine Wf.sScd (tkL_12 (d := 19)) rfl (vi1 hi hn) ?_
  show Wf l (n, xs) uL 20 false (1000, 10000) 663 [(0, .ref 4999), (1, .ref 1), (2, .ref 150), (3, .ref 167), (4, .int (nI i))] [.int (xs (nI i + 1 : Int32).toNatClampNeg), .ref 1] M kr
  refine Wf.sCv (as := [.int (xs (nI i + 1 : Int32).toNatClampNeg)]) (rest := []) (tkL_12 (d := 19)) rfl rfl (kk_ok hL0.iv rfl) rfl ?_
  refine p6_fallsIn 7 hL0.li (fun x4 M1 hl9 e3 k5 => ?_)
  have hq8 := LX_k hL0 hl9 e3 k5 (by decide +kernel)
  have c6 : mC M1 ≤ mC M + 1 := by rw [mC_1 e3]; exact c00
  have s7 : mS M1 ≤ mS M + 6 := by rw [mS_1 e3]; exact s00
  show Wf l (n, xs) uL 20 false (1000, 10000) 666 [(0, .ref 4999), (1, .ref 1), (2, .ref 150), (3, .ref 167), (4, .int (nI i))] [.int x4] M1 kr
  refine Wf.sPop (tkL_12 (d := 19)) rfl rfl ?_
  refine Wf.sAl (tkL_12 (d := 19)) rfl rfl rfl ?_
  refine Wf.sAl (tkL_12 (d := 19)) rfl rfl rfl ?_
  refine Wf.sIl (tkL_12 (d := 19)) rfl rfl ?_
  refine Wf.sIc (tkL_12 (d := 19)) rfl ?_
  refine Wf.s2 (tkL_12 (d := 19)) rfl ?_
  refine Wf.sScd (tkL_12 (d := 19)) rfl (vi1 hi hn) ?_
  show Wf l (n, xs) uL 20 false (1000, 10000) 674 [(0, .ref 4999), (1, .ref 1), (2, .ref 150), (3, .ref 167), (4, .int (nI i))] [.int (xs (nI i + 1 : Int32).toNatClampNeg), .ref 150] M1 kr
  refine Wf.sCv (as := [.int (xs (nI i + 1 : Int32).toNatClampNeg)]) (rest := []) (tkL_12 (d := 19)) rfl rfl (kk_ok hq8.iv rfl) rfl ?_
  refine p7_fallsIn 7 hq8.li (fun x13 M10 hl18 e12 k14 => ?_)
  have hq17 := LX_k hq8 hl18 e12 k14 (by decide +kernel)
  have c15 : mC M10 ≤ mC M + 1 := by rw [mC_1 e12]; exact c6
  have s16 : mS M10 ≤ mS M + 6 := by rw [mS_1 e12]; exact s7
  show Wf l (n, xs) uL 20 false (1000, 10000) 677 [(0, .ref 4999), (1, .ref 1), (2, .ref 150), (3, .ref 167), (4, .int (nI i))] [.int x13] M10 kr
  refine Wf.sPop (tkL_12 (d := 19)) rfl rfl ?_
  refine Wf.sGo (tkL_12 (d := 19)) rfl ?_
  show Wf l (n, xs) uL 20 false (1000, 10000) 1885 [(0, .ref 4999), (1, .ref 1), (2, .ref 150), (3, .ref 167), (4, .int (nI i))] [] M10 kr
  exact h M10 hq17 c15 s16
set_option maxRecDepth 20000 in
theorem lawc_13 (hi : i + 6 ≤ n) (hn : n ≤ 3072) (hL0 : LX M) (h : ∀ M', LX M' → mC M' ≤ mC M + 1 → mS M' ≤ mS M + 6 → Wf l (n, xs) uL 20 false (1000, 10000) 1885 [(0, .ref 4999), (1, .ref 1), (2, .ref 150), (3, .ref 167), (4, .int (nI i))] [] M' kr) : Wf l (n, xs) uL 20 false (1000, 10000) 681 [(0, .ref 4999), (1, .ref 1), (2, .ref 150), (3, .ref 167), (4, .int (nI i))] [] M kr := by
  have c00 : mC M ≤ mC M + 1 := Nat.le_succ _
  have s00 : mS M ≤ mS M + 6 := Nat.le_add_right _ _
  refine Wf.sAl (tkL_13 (d := 19)) rfl rfl rfl ?_
  refine Wf.sAl (tkL_13 (d := 19)) rfl rfl rfl ?_
  refine Wf.sIl (tkL_13 (d := 19)) rfl rfl ?_
  refine Wf.sIc (tkL_13 (d := 19)) rfl ?_
  refine Wf.s2 (tkL_13 (d := 19)) rfl ?_
  refine Wf.sScd (tkL_13 (d := 19)) rfl (vi1 hi hn) ?_
  show Wf l (n, xs) uL 20 false (1000, 10000) 688 [(0, .ref 4999), (1, .ref 1), (2, .ref 150), (3, .ref 167), (4, .int (nI i))] [.int (xs (nI i + 1 : Int32).toNatClampNeg), .ref 1] M kr
  refine Wf.sCv (as := [.int (xs (nI i + 1 : Int32).toNatClampNeg)]) (rest := []) (tkL_13 (d := 19)) rfl rfl (kk_ok hL0.iv rfl) rfl ?_
  refine p6_wet 7 hL0.li (fun x4 M1 hl9 e3 k5 => ?_)
  have hq8 := LX_k hL0 hl9 e3 k5 (by decide +kernel)
  have c6 : mC M1 ≤ mC M + 1 := by rw [mC_1 e3]; exact c00
  have s7 : mS M1 ≤ mS M + 6 := by rw [mS_1 e3]; exact s00
  show Wf l (n, xs) uL 20 false (1000, 10000) 691 [(0, .ref 4999), (1, .ref 1), (2, .ref 150), (3, .ref 167), (4, .int (nI i))] [.int x4] M1 kr
  refine Wf.sPop (tkL_13 (d := 19)) rfl rfl ?_
  refine Wf.sAl (tkL_13 (d := 19)) rfl rfl rfl ?_
  refine Wf.sAl (tkL_13 (d := 19)) rfl rfl rfl ?_
  refine Wf.sIl (tkL_13 (d := 19)) rfl rfl ?_
  refine Wf.sIc (tkL_13 (d := 19)) rfl ?_
  refine Wf.s2 (tkL_13 (d := 19)) rfl ?_
  refine Wf.sScd (tkL_13 (d := 19)) rfl (vi1 hi hn) ?_
  show Wf l (n, xs) uL 20 false (1000, 10000) 699 [(0, .ref 4999), (1, .ref 1), (2, .ref 150), (3, .ref 167), (4, .int (nI i))] [.int (xs (nI i + 1 : Int32).toNatClampNeg), .ref 150] M1 kr
  refine Wf.sCv (as := [.int (xs (nI i + 1 : Int32).toNatClampNeg)]) (rest := []) (tkL_13 (d := 19)) rfl rfl (kk_ok hq8.iv rfl) rfl ?_
  refine p7_wet 7 hq8.li (fun x13 M10 hl18 e12 k14 => ?_)
  have hq17 := LX_k hq8 hl18 e12 k14 (by decide +kernel)
  have c15 : mC M10 ≤ mC M + 1 := by rw [mC_1 e12]; exact c6
  have s16 : mS M10 ≤ mS M + 6 := by rw [mS_1 e12]; exact s7
  show Wf l (n, xs) uL 20 false (1000, 10000) 702 [(0, .ref 4999), (1, .ref 1), (2, .ref 150), (3, .ref 167), (4, .int (nI i))] [.int x13] M10 kr
  refine Wf.sPop (tkL_13 (d := 19)) rfl rfl ?_
  refine Wf.sGo (tkL_13 (d := 19)) rfl ?_
  show Wf l (n, xs) uL 20 false (1000, 10000) 1885 [(0, .ref 4999), (1, .ref 1), (2, .ref 150), (3, .ref 167), (4, .int (nI i))] [] M10 kr
  exact h M10 hq17 c15 s16
set_option maxRecDepth 20000 in
theorem lawc_14 (hi : i + 6 ≤ n) (hn : n ≤ 3072) (hL0 : LX M) (h : ∀ M', LX M' → mC M' ≤ mC M + 1 → mS M' ≤ mS M + 6 → Wf l (n, xs) uL 20 false (1000, 10000) 1885 [(0, .ref 4999), (1, .ref 1), (2, .ref 150), (3, .ref 167), (4, .int (nI i))] [] M' kr) : Wf l (n, xs) uL 20 false (1000, 10000) 706 [(0, .ref 4999), (1, .ref 1), (2, .ref 150), (3, .ref 167), (4, .int (nI i))] [] M kr := by
  have c00 : mC M ≤ mC M + 1 := Nat.le_succ _
  have s00 : mS M ≤ mS M + 6 := Nat.le_add_right _ _
  refine Wf.sAl (tkL_14 (d := 19)) rfl rfl rfl ?_
  refine Wf.sAl (tkL_14 (d := 19)) rfl rfl rfl ?_
  refine Wf.sIl (tkL_14 (d := 19)) rfl rfl ?_
  refine Wf.sIc (tkL_14 (d := 19)) rfl ?_
  refine Wf.s2 (tkL_14 (d := 19)) rfl ?_
  refine Wf.sScd (tkL_14 (d := 19)) rfl (vi1 hi hn) ?_
  show Wf l (n, xs) uL 20 false (1000, 10000) 713 [(0, .ref 4999), (1, .ref 1), (2, .ref 150), (3, .ref 167), (4, .int (nI i))] [.int (xs (nI i + 1 : Int32).toNatClampNeg), .ref 1] M kr
  refine Wf.sAl (tkL_14 (d := 19)) rfl rfl rfl ?_
  refine Wf.sIl (tkL_14 (d := 19)) rfl rfl ?_
  refine Wf.sIc (tkL_14 (d := 19)) rfl ?_
  refine Wf.s2 (tkL_14 (d := 19)) rfl ?_
  refine Wf.sScd (tkL_14 (d := 19)) rfl (vi2 hi hn) ?_
  show Wf l (n, xs) uL 20 false (1000, 10000) 719 [(0, .ref 4999), (1, .ref 1), (2, .ref 150), (3, .ref 167), (4, .int (nI i))] [.int (xs (nI i + 2 : Int32).toNatClampNeg), .int (xs (nI i + 1 : Int32).toNatClampNeg), .ref 1] M kr
  refine Wf.sCv (as := [.int (xs (nI i + 1 : Int32).toNatClampNeg), .int (xs (nI i + 2 : Int32).toNatClampNeg)]) (rest := []) (tkL_14 (d := 19)) rfl rfl (kk_ok hL0.iv rfl) rfl ?_
  refine p6_wetDays 7 hL0.li (fun x4 M1 hl9 e3 k5 => ?_)
  have hq8 := LX_k hL0 hl9 e3 k5 (by decide +kernel)
  have c6 : mC M1 ≤ mC M + 1 := by rw [mC_1 e3]; exact c00
  have s7 : mS M1 ≤ mS M + 6 := by rw [mS_1 e3]; exact s00
  show Wf l (n, xs) uL 20 false (1000, 10000) 722 [(0, .ref 4999), (1, .ref 1), (2, .ref 150), (3, .ref 167), (4, .int (nI i))] [.int x4] M1 kr
  refine Wf.sPop (tkL_14 (d := 19)) rfl rfl ?_
  refine Wf.sAl (tkL_14 (d := 19)) rfl rfl rfl ?_
  refine Wf.sAl (tkL_14 (d := 19)) rfl rfl rfl ?_
  refine Wf.sIl (tkL_14 (d := 19)) rfl rfl ?_
  refine Wf.sIc (tkL_14 (d := 19)) rfl ?_
  refine Wf.s2 (tkL_14 (d := 19)) rfl ?_
  refine Wf.sScd (tkL_14 (d := 19)) rfl (vi1 hi hn) ?_
  show Wf l (n, xs) uL 20 false (1000, 10000) 730 [(0, .ref 4999), (1, .ref 1), (2, .ref 150), (3, .ref 167), (4, .int (nI i))] [.int (xs (nI i + 1 : Int32).toNatClampNeg), .ref 150] M1 kr
  refine Wf.sAl (tkL_14 (d := 19)) rfl rfl rfl ?_
  refine Wf.sIl (tkL_14 (d := 19)) rfl rfl ?_
  refine Wf.sIc (tkL_14 (d := 19)) rfl ?_
  refine Wf.s2 (tkL_14 (d := 19)) rfl ?_
  refine Wf.sScd (tkL_14 (d := 19)) rfl (vi2 hi hn) ?_
  show Wf l (n, xs) uL 20 false (1000, 10000) 736 [(0, .ref 4999), (1, .ref 1), (2, .ref 150), (3, .ref 167), (4, .int (nI i))] [.int (xs (nI i + 2 : Int32).toNatClampNeg), .int (xs (nI i + 1 : Int32).toNatClampNeg), .ref 150] M1 kr
  refine Wf.sCv (as := [.int (xs (nI i + 1 : Int32).toNatClampNeg), .int (xs (nI i + 2 : Int32).toNatClampNeg)]) (rest := []) (tkL_14 (d := 19)) rfl rfl (kk_ok hq8.iv rfl) rfl ?_
  refine p7_wetDays 7 hq8.li (fun x13 M10 hl18 e12 k14 => ?_)
  have hq17 := LX_k hq8 hl18 e12 k14 (by decide +kernel)
  have c15 : mC M10 ≤ mC M + 1 := by rw [mC_1 e12]; exact c6
  have s16 : mS M10 ≤ mS M + 6 := by rw [mS_1 e12]; exact s7
  show Wf l (n, xs) uL 20 false (1000, 10000) 739 [(0, .ref 4999), (1, .ref 1), (2, .ref 150), (3, .ref 167), (4, .int (nI i))] [.int x13] M10 kr
  refine Wf.sPop (tkL_14 (d := 19)) rfl rfl ?_
  refine Wf.sGo (tkL_14 (d := 19)) rfl ?_
  show Wf l (n, xs) uL 20 false (1000, 10000) 1885 [(0, .ref 4999), (1, .ref 1), (2, .ref 150), (3, .ref 167), (4, .int (nI i))] [] M10 kr
  exact h M10 hq17 c15 s16
set_option maxRecDepth 20000 in
theorem lawc_15 (hi : i + 6 ≤ n) (hn : n ≤ 3072) (hL0 : LX M) (h : ∀ M', LX M' → mC M' ≤ mC M + 1 → mS M' ≤ mS M + 6 → Wf l (n, xs) uL 20 false (1000, 10000) 1885 [(0, .ref 4999), (1, .ref 1), (2, .ref 150), (3, .ref 167), (4, .int (nI i))] [] M' kr) : Wf l (n, xs) uL 20 false (1000, 10000) 743 [(0, .ref 4999), (1, .ref 1), (2, .ref 150), (3, .ref 167), (4, .int (nI i))] [] M kr := by
  have c00 : mC M ≤ mC M + 1 := Nat.le_succ _
  have s00 : mS M ≤ mS M + 6 := Nat.le_add_right _ _
  refine Wf.sAl (tkL_15 (d := 19)) rfl rfl rfl ?_
  refine Wf.sCv (as := []) (rest := []) (tkL_15 (d := 19)) rfl rfl (kk_ok hL0.iv rfl) rfl ?_
  refine p6_wettest 7 hL0.li (fun x4 M1 hl9 e3 k5 => ?_)
  have hq8 := LX_k hL0 hl9 e3 k5 (by decide +kernel)
  have c6 : mC M1 ≤ mC M + 1 := by rw [mC_1 e3]; exact c00
  have s7 : mS M1 ≤ mS M + 6 := by rw [mS_1 e3]; exact s00
  show Wf l (n, xs) uL 20 false (1000, 10000) 747 [(0, .ref 4999), (1, .ref 1), (2, .ref 150), (3, .ref 167), (4, .int (nI i))] [.int x4] M1 kr
  refine Wf.sPop (tkL_15 (d := 19)) rfl rfl ?_
  refine Wf.sAl (tkL_15 (d := 19)) rfl rfl rfl ?_
  refine Wf.sCv (as := []) (rest := []) (tkL_15 (d := 19)) rfl rfl (kk_ok hq8.iv rfl) rfl ?_
  refine p7_wettest 7 hq8.li (fun x13 M10 hl18 e12 k14 => ?_)
  have hq17 := LX_k hq8 hl18 e12 k14 (by decide +kernel)
  have c15 : mC M10 ≤ mC M + 1 := by rw [mC_1 e12]; exact c6
  have s16 : mS M10 ≤ mS M + 6 := by rw [mS_1 e12]; exact s7
  show Wf l (n, xs) uL 20 false (1000, 10000) 752 [(0, .ref 4999), (1, .ref 1), (2, .ref 150), (3, .ref 167), (4, .int (nI i))] [.int x13] M10 kr
  refine Wf.sPop (tkL_15 (d := 19)) rfl rfl ?_
  refine Wf.sGo (tkL_15 (d := 19)) rfl ?_
  show Wf l (n, xs) uL 20 false (1000, 10000) 1885 [(0, .ref 4999), (1, .ref 1), (2, .ref 150), (3, .ref 167), (4, .int (nI i))] [] M10 kr
  exact h M10 hq17 c15 s16
end LAWC
