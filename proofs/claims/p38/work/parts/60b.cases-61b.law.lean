section
/-! the law's cases over its states -/
section LAWC
variable {l : Launch} {xs : Nat → Int32} {kr : KR} {i n : Nat} {M : Mm}
set_option maxRecDepth 20000 in
theorem lawc_8 (hi : i + 6 ≤ n) (hn : n ≤ 3072) (hL0 : LX M) (h : ∀ M', LX M' → mC M' ≤ mC M + 1 → mS M' ≤ mS M + 6 → Wf l (n, xs) uL 20 false (1000, 10000) 1885 [(0, .ref 4999), (1, .ref 1), (2, .ref 150), (3, .ref 167), (4, .int (nI i))] [] M' kr) : Wf l (n, xs) uL 20 false (1000, 10000) 520 [(0, .ref 4999), (1, .ref 1), (2, .ref 150), (3, .ref 167), (4, .int (nI i))] [] M kr := by
  have c00 : mC M ≤ mC M + 1 := Nat.le_succ _
  have s00 : mS M ≤ mS M + 6 := Nat.le_add_right _ _
  refine Wf.sAl (tkL_8 (d := 19)) rfl rfl rfl ?_
  refine Wf.sAl (tkL_8 (d := 19)) rfl rfl rfl ?_
  refine Wf.sIl (tkL_8 (d := 19)) rfl rfl ?_
  refine Wf.sIc (tkL_8 (d := 19)) rfl ?_
  refine Wf.s2 (tkL_8 (d := 19)) rfl ?_
  refine Wf.sScd (tkL_8 (d := 19)) rfl (vi1 hi hn) ?_
  show Wf l (n, xs) uL 20 false (1000, 10000) 527 [(0, .ref 4999), (1, .ref 1), (2, .ref 150), (3, .ref 167), (4, .int (nI i))] [.int (xs (nI i + 1 : Int32).toNatClampNeg), .ref 1] M kr
  refine Wf.sAl (tkL_8 (d := 19)) rfl rfl rfl ?_
  refine Wf.sIl (tkL_8 (d := 19)) rfl rfl ?_
  refine Wf.sIc (tkL_8 (d := 19)) rfl ?_
  refine Wf.s2 (tkL_8 (d := 19)) rfl ?_
  refine Wf.sScd (tkL_8 (d := 19)) rfl (vi2 hi hn) ?_
  show Wf l (n, xs) uL 20 false (1000, 10000) 533 [(0, .ref 4999), (1, .ref 1), (2, .ref 150), (3, .ref 167), (4, .int (nI i))] [.int (xs (nI i + 2 : Int32).toNatClampNeg), .int (xs (nI i + 1 : Int32).toNatClampNeg), .ref 1] M kr
  refine Wf.sCv (as := [.int (xs (nI i + 1 : Int32).toNatClampNeg), .int (xs (nI i + 2 : Int32).toNatClampNeg)]) (rest := []) (tkL_8 (d := 19)) rfl rfl (kk_ok hL0.iv rfl) rfl ?_
  refine p6_bears 7 hL0.li (fun x4 M1 hl9 e3 k5 => ?_)
  have hq8 := LX_k hL0 hl9 e3 k5 (by decide +kernel)
  have c6 : mC M1 ≤ mC M + 1 := by rw [mC_1 e3]; exact c00
  have s7 : mS M1 ≤ mS M + 6 := by rw [mS_1 e3]; exact s00
  show Wf l (n, xs) uL 20 false (1000, 10000) 536 [(0, .ref 4999), (1, .ref 1), (2, .ref 150), (3, .ref 167), (4, .int (nI i))] [.int x4] M1 kr
  refine Wf.sPop (tkL_8 (d := 19)) rfl rfl ?_
  refine Wf.sAl (tkL_8 (d := 19)) rfl rfl rfl ?_
  refine Wf.sAl (tkL_8 (d := 19)) rfl rfl rfl ?_
  refine Wf.sIl (tkL_8 (d := 19)) rfl rfl ?_
  refine Wf.sIc (tkL_8 (d := 19)) rfl ?_
  refine Wf.s2 (tkL_8 (d := 19)) rfl ?_
  refine Wf.sScd (tkL_8 (d := 19)) rfl (vi1 hi hn) ?_
  show Wf l (n, xs) uL 20 false (1000, 10000) 544 [(0, .ref 4999), (1, .ref 1), (2, .ref 150), (3, .ref 167), (4, .int (nI i))] [.int (xs (nI i + 1 : Int32).toNatClampNeg), .ref 150] M1 kr
  refine Wf.sAl (tkL_8 (d := 19)) rfl rfl rfl ?_
  refine Wf.sIl (tkL_8 (d := 19)) rfl rfl ?_
  refine Wf.sIc (tkL_8 (d := 19)) rfl ?_
  refine Wf.s2 (tkL_8 (d := 19)) rfl ?_
  refine Wf.sScd (tkL_8 (d := 19)) rfl (vi2 hi hn) ?_
  show Wf l (n, xs) uL 20 false (1000, 10000) 550 [(0, .ref 4999), (1, .ref 1), (2, .ref 150), (3, .ref 167), (4, .int (nI i))] [.int (xs (nI i + 2 : Int32).toNatClampNeg), .int (xs (nI i + 1 : Int32).toNatClampNeg), .ref 150] M1 kr
  refine Wf.sCv (as := [.int (xs (nI i + 1 : Int32).toNatClampNeg), .int (xs (nI i + 2 : Int32).toNatClampNeg)]) (rest := []) (tkL_8 (d := 19)) rfl rfl (kk_ok hq8.iv rfl) rfl ?_
  refine p7_bears 7 hq8.li (fun x13 M10 hl18 e12 k14 => ?_)
  have hq17 := LX_k hq8 hl18 e12 k14 (by decide +kernel)
  have c15 : mC M10 ≤ mC M + 1 := by rw [mC_1 e12]; exact c6
  have s16 : mS M10 ≤ mS M + 6 := by rw [mS_1 e12]; exact s7
  show Wf l (n, xs) uL 20 false (1000, 10000) 553 [(0, .ref 4999), (1, .ref 1), (2, .ref 150), (3, .ref 167), (4, .int (nI i))] [.int x13] M10 kr
  refine Wf.sPop (tkL_8 (d := 19)) rfl rfl ?_
  refine Wf.sGo (tkL_8 (d := 19)) rfl ?_
  show Wf l (n, xs) uL 20 false (1000, 10000) 1885 [(0, .ref 4999), (1, .ref 1), (2, .ref 150), (3, .ref 167), (4, .int (nI i))] [] M10 kr
  exact h M10 hq17 c15 s16
set_option maxRecDepth 20000 in
theorem lawc_9 (hi : i + 6 ≤ n) (hn : n ≤ 3072) (hL0 : LX M) (h : ∀ M', LX M' → mC M' ≤ mC M + 1 → mS M' ≤ mS M + 6 → Wf l (n, xs) uL 20 false (1000, 10000) 1885 [(0, .ref 4999), (1, .ref 1), (2, .ref 150), (3, .ref 167), (4, .int (nI i))] [] M' kr) : Wf l (n, xs) uL 20 false (1000, 10000) 557 [(0, .ref 4999), (1, .ref 1), (2, .ref 150), (3, .ref 167), (4, .int (nI i))] [] M kr := by
  have c00 : mC M ≤ mC M + 1 := Nat.le_succ _
  have s00 : mS M ≤ mS M + 6 := Nat.le_add_right _ _
  refine Wf.sAl (tkL_9 (d := 19)) rfl rfl rfl ?_
  refine Wf.sAl (tkL_9 (d := 19)) rfl rfl rfl ?_
  refine Wf.sIl (tkL_9 (d := 19)) rfl rfl ?_
  refine Wf.sIc (tkL_9 (d := 19)) rfl ?_
  refine Wf.s2 (tkL_9 (d := 19)) rfl ?_
  refine Wf.sScd (tkL_9 (d := 19)) rfl (vi1 hi hn) ?_
  show Wf l (n, xs) uL 20 false (1000, 10000) 564 [(0, .ref 4999), (1, .ref 1), (2, .ref 150), (3, .ref 167), (4, .int (nI i))] [.int (xs (nI i + 1 : Int32).toNatClampNeg), .ref 1] M kr
  refine Wf.sAl (tkL_9 (d := 19)) rfl rfl rfl ?_
  refine Wf.sIl (tkL_9 (d := 19)) rfl rfl ?_
  refine Wf.sIc (tkL_9 (d := 19)) rfl ?_
  refine Wf.s2 (tkL_9 (d := 19)) rfl ?_
  refine Wf.sScd (tkL_9 (d := 19)) rfl (vi2 hi hn) ?_
  show Wf l (n, xs) uL 20 false (1000, 10000) 570 [(0, .ref 4999), (1, .ref 1), (2, .ref 150), (3, .ref 167), (4, .int (nI i))] [.int (xs (nI i + 2 : Int32).toNatClampNeg), .int (xs (nI i + 1 : Int32).toNatClampNeg), .ref 1] M kr
  refine Wf.sCv (as := [.int (xs (nI i + 1 : Int32).toNatClampNeg), .int (xs (nI i + 2 : Int32).toNatClampNeg)]) (rest := []) (tkL_9 (d := 19)) rfl rfl (kk_ok hL0.iv rfl) rfl ?_
  refine p6_holds 7 hL0.li (fun x4 M1 hl9 e3 k5 => ?_)
  have hq8 := LX_k hL0 hl9 e3 k5 (by decide +kernel)
  have c6 : mC M1 ≤ mC M + 1 := by rw [mC_1 e3]; exact c00
  have s7 : mS M1 ≤ mS M + 6 := by rw [mS_1 e3]; exact s00
  show Wf l (n, xs) uL 20 false (1000, 10000) 573 [(0, .ref 4999), (1, .ref 1), (2, .ref 150), (3, .ref 167), (4, .int (nI i))] [.int x4] M1 kr
  refine Wf.sPop (tkL_9 (d := 19)) rfl rfl ?_
  refine Wf.sAl (tkL_9 (d := 19)) rfl rfl rfl ?_
  refine Wf.sAl (tkL_9 (d := 19)) rfl rfl rfl ?_
  refine Wf.sIl (tkL_9 (d := 19)) rfl rfl ?_
  refine Wf.sIc (tkL_9 (d := 19)) rfl ?_
  refine Wf.s2 (tkL_9 (d := 19)) rfl ?_
  refine Wf.sScd (tkL_9 (d := 19)) rfl (vi1 hi hn) ?_
  show Wf l (n, xs) uL 20 false (1000, 10000) 581 [(0, .ref 4999), (1, .ref 1), (2, .ref 150), (3, .ref 167), (4, .int (nI i))] [.int (xs (nI i + 1 : Int32).toNatClampNeg), .ref 150] M1 kr
  refine Wf.sAl (tkL_9 (d := 19)) rfl rfl rfl ?_
  refine Wf.sIl (tkL_9 (d := 19)) rfl rfl ?_
  refine Wf.sIc (tkL_9 (d := 19)) rfl ?_
  refine Wf.s2 (tkL_9 (d := 19)) rfl ?_
  refine Wf.sScd (tkL_9 (d := 19)) rfl (vi2 hi hn) ?_
  show Wf l (n, xs) uL 20 false (1000, 10000) 587 [(0, .ref 4999), (1, .ref 1), (2, .ref 150), (3, .ref 167), (4, .int (nI i))] [.int (xs (nI i + 2 : Int32).toNatClampNeg), .int (xs (nI i + 1 : Int32).toNatClampNeg), .ref 150] M1 kr
  refine Wf.sCv (as := [.int (xs (nI i + 1 : Int32).toNatClampNeg), .int (xs (nI i + 2 : Int32).toNatClampNeg)]) (rest := []) (tkL_9 (d := 19)) rfl rfl (kk_ok hq8.iv rfl) rfl ?_
  refine p7_holds 7 hq8.li (fun x13 M10 hl18 e12 k14 => ?_)
  have hq17 := LX_k hq8 hl18 e12 k14 (by decide +kernel)
  have c15 : mC M10 ≤ mC M + 1 := by rw [mC_1 e12]; exact c6
  have s16 : mS M10 ≤ mS M + 6 := by rw [mS_1 e12]; exact s7
  show Wf l (n, xs) uL 20 false (1000, 10000) 590 [(0, .ref 4999), (1, .ref 1), (2, .ref 150), (3, .ref 167), (4, .int (nI i))] [.int x13] M10 kr
  refine Wf.sPop (tkL_9 (d := 19)) rfl rfl ?_
  refine Wf.sGo (tkL_9 (d := 19)) rfl ?_
  show Wf l (n, xs) uL 20 false (1000, 10000) 1885 [(0, .ref 4999), (1, .ref 1), (2, .ref 150), (3, .ref 167), (4, .int (nI i))] [] M10 kr
  exact h M10 hq17 c15 s16
set_option maxRecDepth 20000 in
theorem lawc_10 (hi : i + 6 ≤ n) (hn : n ≤ 3072) (hL0 : LX M) (h : ∀ M', LX M' → mC M' ≤ mC M + 1 → mS M' ≤ mS M + 6 → Wf l (n, xs) uL 20 false (1000, 10000) 1885 [(0, .ref 4999), (1, .ref 1), (2, .ref 150), (3, .ref 167), (4, .int (nI i))] [] M' kr) : Wf l (n, xs) uL 20 false (1000, 10000) 594 [(0, .ref 4999), (1, .ref 1), (2, .ref 150), (3, .ref 167), (4, .int (nI i))] [] M kr := by
  have c00 : mC M ≤ mC M + 1 := Nat.le_succ _
  have s00 : mS M ≤ mS M + 6 := Nat.le_add_right _ _
  refine Wf.sAl (tkL_10 (d := 19)) rfl rfl rfl ?_
  refine Wf.sAl (tkL_10 (d := 19)) rfl rfl rfl ?_
  refine Wf.sIl (tkL_10 (d := 19)) rfl rfl ?_
  refine Wf.sIc (tkL_10 (d := 19)) rfl ?_
  refine Wf.s2 (tkL_10 (d := 19)) rfl ?_
  refine Wf.sScd (tkL_10 (d := 19)) rfl (vi1 hi hn) ?_
  show Wf l (n, xs) uL 20 false (1000, 10000) 601 [(0, .ref 4999), (1, .ref 1), (2, .ref 150), (3, .ref 167), (4, .int (nI i))] [.int (xs (nI i + 1 : Int32).toNatClampNeg), .ref 1] M kr
  refine Wf.sAl (tkL_10 (d := 19)) rfl rfl rfl ?_
  refine Wf.sIl (tkL_10 (d := 19)) rfl rfl ?_
  refine Wf.sIc (tkL_10 (d := 19)) rfl ?_
  refine Wf.s2 (tkL_10 (d := 19)) rfl ?_
  refine Wf.sScd (tkL_10 (d := 19)) rfl (vi2 hi hn) ?_
  show Wf l (n, xs) uL 20 false (1000, 10000) 607 [(0, .ref 4999), (1, .ref 1), (2, .ref 150), (3, .ref 167), (4, .int (nI i))] [.int (xs (nI i + 2 : Int32).toNatClampNeg), .int (xs (nI i + 1 : Int32).toNatClampNeg), .ref 1] M kr
  refine Wf.sCv (as := [.int (xs (nI i + 1 : Int32).toNatClampNeg), .int (xs (nI i + 2 : Int32).toNatClampNeg)]) (rest := []) (tkL_10 (d := 19)) rfl rfl (kk_ok hL0.iv rfl) rfl ?_
  refine p6_drops 7 hL0.li (fun x4 M1 hl9 e3 k5 => ?_)
  have hq8 := LX_k hL0 hl9 e3 k5 (by decide +kernel)
  have c6 : mC M1 ≤ mC M + 1 := by rw [mC_1 e3]; exact c00
  have s7 : mS M1 ≤ mS M + 6 := by rw [mS_1 e3]; exact s00
  show Wf l (n, xs) uL 20 false (1000, 10000) 610 [(0, .ref 4999), (1, .ref 1), (2, .ref 150), (3, .ref 167), (4, .int (nI i))] [.int x4] M1 kr
  refine Wf.sPop (tkL_10 (d := 19)) rfl rfl ?_
  refine Wf.sAl (tkL_10 (d := 19)) rfl rfl rfl ?_
  refine Wf.sAl (tkL_10 (d := 19)) rfl rfl rfl ?_
  refine Wf.sIl (tkL_10 (d := 19)) rfl rfl ?_
  refine Wf.sIc (tkL_10 (d := 19)) rfl ?_
  refine Wf.s2 (tkL_10 (d := 19)) rfl ?_
  refine Wf.sScd (tkL_10 (d := 19)) rfl (vi1 hi hn) ?_
  show Wf l (n, xs) uL 20 false (1000, 10000) 618 [(0, .ref 4999), (1, .ref 1), (2, .ref 150), (3, .ref 167), (4, .int (nI i))] [.int (xs (nI i + 1 : Int32).toNatClampNeg), .ref 150] M1 kr
  refine Wf.sAl (tkL_10 (d := 19)) rfl rfl rfl ?_
  refine Wf.sIl (tkL_10 (d := 19)) rfl rfl ?_
  refine Wf.sIc (tkL_10 (d := 19)) rfl ?_
  refine Wf.s2 (tkL_10 (d := 19)) rfl ?_
  refine Wf.sScd (tkL_10 (d := 19)) rfl (vi2 hi hn) ?_
  show Wf l (n, xs) uL 20 false (1000, 10000) 624 [(0, .ref 4999), (1, .ref 1), (2, .ref 150), (3, .ref 167), (4, .int (nI i))] [.int (xs (nI i + 2 : Int32).toNatClampNeg), .int (xs (nI i + 1 : Int32).toNatClampNeg), .ref 150] M1 kr
  refine Wf.sCv (as := [.int (xs (nI i + 1 : Int32).toNatClampNeg), .int (xs (nI i + 2 : Int32).toNatClampNeg)]) (rest := []) (tkL_10 (d := 19)) rfl rfl (kk_ok hq8.iv rfl) rfl ?_
  refine p7_drops 7 hq8.li (fun x13 M10 hl18 e12 k14 => ?_)
  have hq17 := LX_k hq8 hl18 e12 k14 (by decide +kernel)
  have c15 : mC M10 ≤ mC M + 1 := by rw [mC_1 e12]; exact c6
  have s16 : mS M10 ≤ mS M + 6 := by rw [mS_1 e12]; exact s7
  show Wf l (n, xs) uL 20 false (1000, 10000) 627 [(0, .ref 4999), (1, .ref 1), (2, .ref 150), (3, .ref 167), (4, .int (nI i))] [.int x13] M10 kr
  refine Wf.sPop (tkL_10 (d := 19)) rfl rfl ?_
  refine Wf.sGo (tkL_10 (d := 19)) rfl ?_
  show Wf l (n, xs) uL 20 false (1000, 10000) 1885 [(0, .ref 4999), (1, .ref 1), (2, .ref 150), (3, .ref 167), (4, .int (nI i))] [] M10 kr
  exact h M10 hq17 c15 s16
set_option maxRecDepth 20000 in
theorem lawc_11 (hi : i + 6 ≤ n) (hn : n ≤ 3072) (hL0 : LX M) (h : ∀ M', LX M' → mC M' ≤ mC M + 1 → mS M' ≤ mS M + 6 → Wf l (n, xs) uL 20 false (1000, 10000) 1885 [(0, .ref 4999), (1, .ref 1), (2, .ref 150), (3, .ref 167), (4, .int (nI i))] [] M' kr) : Wf l (n, xs) uL 20 false (1000, 10000) 631 [(0, .ref 4999), (1, .ref 1), (2, .ref 150), (3, .ref 167), (4, .int (nI i))] [] M kr := by
  have c00 : mC M ≤ mC M + 1 := Nat.le_succ _
  have s00 : mS M ≤ mS M + 6 := Nat.le_add_right _ _
  refine Wf.sAl (tkL_11 (d := 19)) rfl rfl rfl ?_
  refine Wf.sAl (tkL_11 (d := 19)) rfl rfl rfl ?_
  refine Wf.sIl (tkL_11 (d := 19)) rfl rfl ?_
  refine Wf.sIc (tkL_11 (d := 19)) rfl ?_
  refine Wf.s2 (tkL_11 (d := 19)) rfl ?_
  refine Wf.sScd (tkL_11 (d := 19)) rfl (vi1 hi hn) ?_
  show Wf l (n, xs) uL 20 false (1000, 10000) 638 [(0, .ref 4999), (1, .ref 1), (2, .ref 150), (3, .ref 167), (4, .int (nI i))] [.int (xs (nI i + 1 : Int32).toNatClampNeg), .ref 1] M kr
  refine Wf.sCv (as := [.int (xs (nI i + 1 : Int32).toNatClampNeg)]) (rest := []) (tkL_11 (d := 19)) rfl rfl (kk_ok hL0.iv rfl) rfl ?_
  refine p6_dropsIn 7 hL0.li (fun x4 M1 hl9 e3 k5 => ?_)
  have hq8 := LX_k hL0 hl9 e3 k5 (by decide +kernel)
  have c6 : mC M1 ≤ mC M + 1 := by rw [mC_1 e3]; exact c00
  have s7 : mS M1 ≤ mS M + 6 := by rw [mS_1 e3]; exact s00
  show Wf l (n, xs) uL 20 false (1000, 10000) 641 [(0, .ref 4999), (1, .ref 1), (2, .ref 150), (3, .ref 167), (4, .int (nI i))] [.int x4] M1 kr
  refine Wf.sPop (tkL_11 (d := 19)) rfl rfl ?_
  refine Wf.sAl (tkL_11 (d := 19)) rfl rfl rfl ?_
  refine Wf.sAl (tkL_11 (d := 19)) rfl rfl rfl ?_
  refine Wf.sIl (tkL_11 (d := 19)) rfl rfl ?_
  refine Wf.sIc (tkL_11 (d := 19)) rfl ?_
  refine Wf.s2 (tkL_11 (d := 19)) rfl ?_
  refine Wf.sScd (tkL_11 (d := 19)) rfl (vi1 hi hn) ?_
  show Wf l (n, xs) uL 20 false (1000, 10000) 649 [(0, .ref 4999), (1, .ref 1), (2, .ref 150), (3, .ref 167), (4, .int (nI i))] [.int (xs (nI i + 1 : Int32).toNatClampNeg), .ref 150] M1 kr
  refine Wf.sCv (as := [.int (xs (nI i + 1 : Int32).toNatClampNeg)]) (rest := []) (tkL_11 (d := 19)) rfl rfl (kk_ok hq8.iv rfl) rfl ?_
  refine p7_dropsIn 7 hq8.li (fun x13 M10 hl18 e12 k14 => ?_)
  have hq17 := LX_k hq8 hl18 e12 k14 (by decide +kernel)
  have c15 : mC M10 ≤ mC M + 1 := by rw [mC_1 e12]; exact c6
  have s16 : mS M10 ≤ mS M + 6 := by rw [mS_1 e12]; exact s7
  show Wf l (n, xs) uL 20 false (1000, 10000) 652 [(0, .ref 4999), (1, .ref 1), (2, .ref 150), (3, .ref 167), (4, .int (nI i))] [.int x13] M10 kr
  refine Wf.sPop (tkL_11 (d := 19)) rfl rfl ?_
  refine Wf.sGo (tkL_11 (d := 19)) rfl ?_
  show Wf l (n, xs) uL 20 false (1000, 10000) 1885 [(0, .ref 4999), (1, .ref 1), (2, .ref 150), (3, .ref 167), (4, .int (nI i))] [] M10 kr
  exact h M10 hq17 c15 s16
set_option maxRecDepth 20000 in
theorem lawc_12 (hi : i + 6 ≤ n) (hn : n ≤ 3072) (hL0 : LX M) (h : ∀ M', LX M' → mC M' ≤ mC M + 1 → mS M' ≤ mS M + 6 → Wf l (n, xs) uL 20 false (1000, 10000) 1885 [(0, .ref 4999), (1, .ref 1), (2, .ref 150), (3, .ref 167), (4, .int (nI i))] [] M' kr) : Wf l (n, xs) uL 20 false (1000, 10000) 656 [(0, .ref 4999), (1, .ref 1), (2, .ref 150), (3, .ref 167), (4, .int (nI i))] [] M kr := by
  have c00 : mC M ≤ mC M + 1 := Nat.le_succ _
  have s00 : mS M ≤ mS M + 6 := Nat.le_add_right _ _
  refine Wf.sAl (tkL_12 (d := 19)) rfl rfl rfl ?_
  refine Wf.sAl (tkL_12 (d := 19)) rfl rfl rfl ?_
  refine Wf.sIl (tkL_12 (d := 19)) rfl rfl ?_
  refine Wf.sIc (tkL_12 (d := 19)) rfl ?_
  refine Wf.s2 (tkL_12 (d := 19)) rfl ?_
  refine Wf.sScd (tkL_12 (d := 19)) rfl (vi1 hi hn) ?_
  show Wf l (n, xs) uL 20 false (1000, 10000) 663 [(0, .ref 4999), (1, .ref 1), (2, .ref 150), (3, .ref 167), (4, .int (nI i))] [.int (xs (nI i + 1 : Int32).toNatClampNeg), .ref 1] M kr
  refine Wf.sCv (as := [.int (xs (nI i + 1 : Int32).toNatClampNeg)]) (rest := []) (tkL_12 (d := 19)) rfl rfl (kk_ok hL0.iv rfl) rfl ?_
  refine p6_fallsIn 7 hL0.li (fun x4 M1 hl9 e3 k5 => ?_)
  have hq8 := LX_k hL0 hl9 e3 k5 (by decide +kernel)
  have c6 : mC M1 ≤ mC M + 1 := by rw [mC_1 e3]; exact c00
  have s7 : mS M1 ≤ mS M + 6 := by rw [mS_1 e3]; exact s00
  show Wf l (n, xs) uL 20 false (1000, 10000) 666 [(0, .ref 4999), (1, .ref 1), (2, .ref 150), (3, .ref 167), (4, .int (nI i))] [.int x4] M1 kr
  refine Wf.sPop (tkL_12 (d := 19)) rfl rfl ?_
  refine Wf.sAl (tkL_12 (d := 19)) rfl rfl rfl ?_
  refine Wf.sAl (tkL_12 (d := 19)) rfl rfl rfl ?_
  refine Wf.sIl (tkL_12 (d := 19)) rfl rfl ?_
  refine Wf.sIc (tkL_12 (d := 19)) rfl ?_
  refine Wf.s2 (tkL_12 (d := 19)) rfl ?_
  refine Wf.sScd (tkL_12 (d := 19)) rfl (vi1 hi hn) ?_
  show Wf l (n, xs) uL 20 false (1000, 10000) 674 [(0, .ref 4999), (1, .ref 1), (2, .ref 150), (3, .ref 167), (4, .int (nI i))] [.int (xs (nI i + 1 : Int32).toNatClampNeg), .ref 150] M1 kr
  refine Wf.sCv (as := [.int (xs (nI i + 1 : Int32).toNatClampNeg)]) (rest := []) (tkL_12 (d := 19)) rfl rfl (kk_ok hq8.iv rfl) rfl ?_
  refine p7_fallsIn 7 hq8.li (fun x13 M10 hl18 e12 k14 => ?_)
  have hq17 := LX_k hq8 hl18 e12 k14 (by decide +kernel)
  have c15 : mC M10 ≤ mC M + 1 := by rw [mC_1 e12]; exact c6
  have s16 : mS M10 ≤ mS M + 6 := by rw [mS_1 e12]; exact s7
  show Wf l (n, xs) uL 20 false (1000, 10000) 677 [(0, .ref 4999), (1, .ref 1), (2, .ref 150), (3, .ref 167), (4, .int (nI i))] [.int x13] M10 kr
  refine Wf.sPop (tkL_12 (d := 19)) rfl rfl ?_
  refine Wf.sGo (tkL_12 (d := 19)) rfl ?_
  show Wf l (n, xs) uL 20 false (1000, 10000) 1885 [(0, .ref 4999), (1, .ref 1), (2, .ref 150), (3, .ref 167), (4, .int (nI i))] [] M10 kr
  exact h M10 hq17 c15 s16
set_option maxRecDepth 20000 in
theorem lawc_13 (hi : i + 6 ≤ n) (hn : n ≤ 3072) (hL0 : LX M) (h : ∀ M', LX M' → mC M' ≤ mC M + 1 → mS M' ≤ mS M + 6 → Wf l (n, xs) uL 20 false (1000, 10000) 1885 [(0, .ref 4999), (1, .ref 1), (2, .ref 150), (3, .ref 167), (4, .int (nI i))] [] M' kr) : Wf l (n, xs) uL 20 false (1000, 10000) 681 [(0, .ref 4999), (1, .ref 1), (2, .ref 150), (3, .ref 167), (4, .int (nI i))] [] M kr := by
  have c00 : mC M ≤ mC M + 1 := Nat.le_succ _
  have s00 : mS M ≤ mS M + 6 := Nat.le_add_right _ _
  refine Wf.sAl (tkL_13 (d := 19)) rfl rfl rfl ?_
  refine Wf.sAl (tkL_13 (d := 19)) rfl rfl rfl ?_
  refine Wf.sIl (tkL_13 (d := 19)) rfl rfl ?_
  refine Wf.sIc (tkL_13 (d := 19)) rfl ?_
  refine Wf.s2 (tkL_13 (d := 19)) rfl ?_
  refine Wf.sScd (tkL_13 (d := 19)) rfl (vi1 hi hn) ?_
  show Wf l (n, xs) uL 20 false (1000, 10000) 688 [(0, .ref 4999), (1, .ref 1), (2, .ref 150), (3, .ref 167), (4, .int (nI i))] [.int (xs (nI i + 1 : Int32).toNatClampNeg), .ref 1] M kr
  refine Wf.sCv (as := [.int (xs (nI i + 1 : Int32).toNatClampNeg)]) (rest := []) (tkL_13 (d := 19)) rfl rfl (kk_ok hL0.iv rfl) rfl ?_
  refine p6_wet 7 hL0.li (fun x4 M1 hl9 e3 k5 => ?_)
  have hq8 := LX_k hL0 hl9 e3 k5 (by decide +kernel)
  have c6 : mC M1 ≤ mC M + 1 := by rw [mC_1 e3]; exact c00
  have s7 : mS M1 ≤ mS M + 6 := by rw [mS_1 e3]; exact s00
  show Wf l (n, xs) uL 20 false (1000, 10000) 691 [(0, .ref 4999), (1, .ref 1), (2, .ref 150), (3, .ref 167), (4, .int (nI i))] [.int x4] M1 kr
  refine Wf.sPop (tkL_13 (d := 19)) rfl rfl ?_
  refine Wf.sAl (tkL_13 (d := 19)) rfl rfl rfl ?_
  refine Wf.sAl (tkL_13 (d := 19)) rfl rfl rfl ?_
  refine Wf.sIl (tkL_13 (d := 19)) rfl rfl ?_
  refine Wf.sIc (tkL_13 (d := 19)) rfl ?_
  refine Wf.s2 (tkL_13 (d := 19)) rfl ?_
  refine Wf.sScd (tkL_13 (d := 19)) rfl (vi1 hi hn) ?_
  show Wf l (n, xs) uL 20 false (1000, 10000) 699 [(0, .ref 4999), (1, .ref 1), (2, .ref 150), (3, .ref 167), (4, .int (nI i))] [.int (xs (nI i + 1 : Int32).toNatClampNeg), .ref 150] M1 kr
  refine Wf.sCv (as := [.int (xs (nI i + 1 : Int32).toNatClampNeg)]) (rest := []) (tkL_13 (d := 19)) rfl rfl (kk_ok hq8.iv rfl) rfl ?_
  refine p7_wet 7 hq8.li (fun x13 M10 hl18 e12 k14 => ?_)
  have hq17 := LX_k hq8 hl18 e12 k14 (by decide +kernel)
  have c15 : mC M10 ≤ mC M + 1 := by rw [mC_1 e12]; exact c6
  have s16 : mS M10 ≤ mS M + 6 := by rw [mS_1 e12]; exact s7
  show Wf l (n, xs) uL 20 false (1000, 10000) 702 [(0, .ref 4999), (1, .ref 1), (2, .ref 150), (3, .ref 167), (4, .int (nI i))] [.int x13] M10 kr
  refine Wf.sPop (tkL_13 (d := 19)) rfl rfl ?_
  refine Wf.sGo (tkL_13 (d := 19)) rfl ?_
  show Wf l (n, xs) uL 20 false (1000, 10000) 1885 [(0, .ref 4999), (1, .ref 1), (2, .ref 150), (3, .ref 167), (4, .int (nI i))] [] M10 kr
  exact h M10 hq17 c15 s16
set_option maxRecDepth 20000 in
theorem lawc_14 (hi : i + 6 ≤ n) (hn : n ≤ 3072) (hL0 : LX M) (h : ∀ M', LX M' → mC M' ≤ mC M + 1 → mS M' ≤ mS M + 6 → Wf l (n, xs) uL 20 false (1000, 10000) 1885 [(0, .ref 4999), (1, .ref 1), (2, .ref 150), (3, .ref 167), (4, .int (nI i))] [] M' kr) : Wf l (n, xs) uL 20 false (1000, 10000) 706 [(0, .ref 4999), (1, .ref 1), (2, .ref 150), (3, .ref 167), (4, .int (nI i))] [] M kr := by
  have c00 : mC M ≤ mC M + 1 := Nat.le_succ _
  have s00 : mS M ≤ mS M + 6 := Nat.le_add_right _ _
  refine Wf.sAl (tkL_14 (d := 19)) rfl rfl rfl ?_
  refine Wf.sAl (tkL_14 (d := 19)) rfl rfl rfl ?_
  refine Wf.sIl (tkL_14 (d := 19)) rfl rfl ?_
  refine Wf.sIc (tkL_14 (d := 19)) rfl ?_
  refine Wf.s2 (tkL_14 (d := 19)) rfl ?_
  refine Wf.sScd (tkL_14 (d := 19)) rfl (vi1 hi hn) ?_
  show Wf l (n, xs) uL 20 false (1000, 10000) 713 [(0, .ref 4999), (1, .ref 1), (2, .ref 150), (3, .ref 167), (4, .int (nI i))] [.int (xs (nI i + 1 : Int32).toNatClampNeg), .ref 1] M kr
  refine Wf.sAl (tkL_14 (d := 19)) rfl rfl rfl ?_
  refine Wf.sIl (tkL_14 (d := 19)) rfl rfl ?_
  refine Wf.sIc (tkL_14 (d := 19)) rfl ?_
  refine Wf.s2 (tkL_14 (d := 19)) rfl ?_
  refine Wf.sScd (tkL_14 (d := 19)) rfl (vi2 hi hn) ?_
  show Wf l (n, xs) uL 20 false (1000, 10000) 719 [(0, .ref 4999), (1, .ref 1), (2, .ref 150), (3, .ref 167), (4, .int (nI i))] [.int (xs (nI i + 2 : Int32).toNatClampNeg), .int (xs (nI i + 1 : Int32).toNatClampNeg), .ref 1] M kr
  refine Wf.sCv (as := [.int (xs (nI i + 1 : Int32).toNatClampNeg), .int (xs (nI i + 2 : Int32).toNatClampNeg)]) (rest := []) (tkL_14 (d := 19)) rfl rfl (kk_ok hL0.iv rfl) rfl ?_
  refine p6_wetDays 7 hL0.li (fun x4 M1 hl9 e3 k5 => ?_)
  have hq8 := LX_k hL0 hl9 e3 k5 (by decide +kernel)
  have c6 : mC M1 ≤ mC M + 1 := by rw [mC_1 e3]; exact c00
  have s7 : mS M1 ≤ mS M + 6 := by rw [mS_1 e3]; exact s00
  show Wf l (n, xs) uL 20 false (1000, 10000) 722 [(0, .ref 4999), (1, .ref 1), (2, .ref 150), (3, .ref 167), (4, .int (nI i))] [.int x4] M1 kr
  refine Wf.sPop (tkL_14 (d := 19)) rfl rfl ?_
  refine Wf.sAl (tkL_14 (d := 19)) rfl rfl rfl ?_
  refine Wf.sAl (tkL_14 (d := 19)) rfl rfl rfl ?_
  refine Wf.sIl (tkL_14 (d := 19)) rfl rfl ?_
  refine Wf.sIc (tkL_14 (d := 19)) rfl ?_
  refine Wf.s2 (tkL_14 (d := 19)) rfl ?_
  refine Wf.sScd (tkL_14 (d := 19)) rfl (vi1 hi hn) ?_
  show Wf l (n, xs) uL 20 false (1000, 10000) 730 [(0, .ref 4999), (1, .ref 1), (2, .ref 150), (3, .ref 167), (4, .int (nI i))] [.int (xs (nI i + 1 : Int32).toNatClampNeg), .ref 150] M1 kr
  refine Wf.sAl (tkL_14 (d := 19)) rfl rfl rfl ?_
  refine Wf.sIl (tkL_14 (d := 19)) rfl rfl ?_
  refine Wf.sIc (tkL_14 (d := 19)) rfl ?_
  refine Wf.s2 (tkL_14 (d := 19)) rfl ?_
  refine Wf.sScd (tkL_14 (d := 19)) rfl (vi2 hi hn) ?_
  show Wf l (n, xs) uL 20 false (1000, 10000) 736 [(0, .ref 4999), (1, .ref 1), (2, .ref 150), (3, .ref 167), (4, .int (nI i))] [.int (xs (nI i + 2 : Int32).toNatClampNeg), .int (xs (nI i + 1 : Int32).toNatClampNeg), .ref 150] M1 kr
  refine Wf.sCv (as := [.int (xs (nI i + 1 : Int32).toNatClampNeg), .int (xs (nI i + 2 : Int32).toNatClampNeg)]) (rest := []) (tkL_14 (d := 19)) rfl rfl (kk_ok hq8.iv rfl) rfl ?_
  refine p7_wetDays 7 hq8.li (fun x13 M10 hl18 e12 k14 => ?_)
  have hq17 := LX_k hq8 hl18 e12 k14 (by decide +kernel)
  have c15 : mC M10 ≤ mC M + 1 := by rw [mC_1 e12]; exact c6
  have s16 : mS M10 ≤ mS M + 6 := by rw [mS_1 e12]; exact s7
  show Wf l (n, xs) uL 20 false (1000, 10000) 739 [(0, .ref 4999), (1, .ref 1), (2, .ref 150), (3, .ref 167), (4, .int (nI i))] [.int x13] M10 kr
  refine Wf.sPop (tkL_14 (d := 19)) rfl rfl ?_
  refine Wf.sGo (tkL_14 (d := 19)) rfl ?_
  show Wf l (n, xs) uL 20 false (1000, 10000) 1885 [(0, .ref 4999), (1, .ref 1), (2, .ref 150), (3, .ref 167), (4, .int (nI i))] [] M10 kr
  exact h M10 hq17 c15 s16
set_option maxRecDepth 20000 in
theorem lawc_15 (hi : i + 6 ≤ n) (hn : n ≤ 3072) (hL0 : LX M) (h : ∀ M', LX M' → mC M' ≤ mC M + 1 → mS M' ≤ mS M + 6 → Wf l (n, xs) uL 20 false (1000, 10000) 1885 [(0, .ref 4999), (1, .ref 1), (2, .ref 150), (3, .ref 167), (4, .int (nI i))] [] M' kr) : Wf l (n, xs) uL 20 false (1000, 10000) 743 [(0, .ref 4999), (1, .ref 1), (2, .ref 150), (3, .ref 167), (4, .int (nI i))] [] M kr := by
  have c00 : mC M ≤ mC M + 1 := Nat.le_succ _
  have s00 : mS M ≤ mS M + 6 := Nat.le_add_right _ _
  refine Wf.sAl (tkL_15 (d := 19)) rfl rfl rfl ?_
  refine Wf.sCv (as := []) (rest := []) (tkL_15 (d := 19)) rfl rfl (kk_ok hL0.iv rfl) rfl ?_
  refine p6_wettest 7 hL0.li (fun x4 M1 hl9 e3 k5 => ?_)
  have hq8 := LX_k hL0 hl9 e3 k5 (by decide +kernel)
  have c6 : mC M1 ≤ mC M + 1 := by rw [mC_1 e3]; exact c00
  have s7 : mS M1 ≤ mS M + 6 := by rw [mS_1 e3]; exact s00
  show Wf l (n, xs) uL 20 false (1000, 10000) 747 [(0, .ref 4999), (1, .ref 1), (2, .ref 150), (3, .ref 167), (4, .int (nI i))] [.int x4] M1 kr
  refine Wf.sPop (tkL_15 (d := 19)) rfl rfl ?_
  refine Wf.sAl (tkL_15 (d := 19)) rfl rfl rfl ?_
  refine Wf.sCv (as := []) (rest := []) (tkL_15 (d := 19)) rfl rfl (kk_ok hq8.iv rfl) rfl ?_
  refine p7_wettest 7 hq8.li (fun x13 M10 hl18 e12 k14 => ?_)
  have hq17 := LX_k hq8 hl18 e12 k14 (by decide +kernel)
  have c15 : mC M10 ≤ mC M + 1 := by rw [mC_1 e12]; exact c6
  have s16 : mS M10 ≤ mS M + 6 := by rw [mS_1 e12]; exact s7
  show Wf l (n, xs) uL 20 false (1000, 10000) 752 [(0, .ref 4999), (1, .ref 1), (2, .ref 150), (3, .ref 167), (4, .int (nI i))] [.int x13] M10 kr
  refine Wf.sPop (tkL_15 (d := 19)) rfl rfl ?_
  refine Wf.sGo (tkL_15 (d := 19)) rfl ?_
  show Wf l (n, xs) uL 20 false (1000, 10000) 1885 [(0, .ref 4999), (1, .ref 1), (2, .ref 150), (3, .ref 167), (4, .int (nI i))] [] M10 kr
  exact h M10 hq17 c15 s16
end LAWC
end
section
/-! the law's cases over its states -/
section LAWC
variable {l : Launch} {xs : Nat → Int32} {kr : KR} {i n : Nat} {M : Mm}
set_option maxRecDepth 20000 in
theorem lawc_16 (hi : i + 6 ≤ n) (hn : n ≤ 3072) (hL0 : LX M) (h : ∀ M', LX M' → mC M' ≤ mC M + 1 → mS M' ≤ mS M + 6 → Wf l (n, xs) uL 20 false (1000, 10000) 1885 [(0, .ref 4999), (1, .ref 1), (2, .ref 150), (3, .ref 167), (4, .int (nI i))] [] M' kr) : Wf l (n, xs) uL 20 false (1000, 10000) 756 [(0, .ref 4999), (1, .ref 1), (2, .ref 150), (3, .ref 167), (4, .int (nI i))] [] M kr := by
  have c00 : mC M ≤ mC M + 1 := Nat.le_succ _
  have s00 : mS M ≤ mS M + 6 := Nat.le_add_right _ _
  refine Wf.sAl (tkL_16 (d := 19)) rfl rfl rfl ?_
  refine Wf.sCv (as := []) (rest := []) (tkL_16 (d := 19)) rfl rfl (kk_ok hL0.iv rfl) rfl ?_
  refine p6_sunny 7 hL0.li (fun x4 M1 hl9 e3 k5 => ?_)
  have hq8 := LX_k hL0 hl9 e3 k5 (by decide +kernel)
  have c6 : mC M1 ≤ mC M + 1 := by rw [mC_1 e3]; exact c00
  have s7 : mS M1 ≤ mS M + 6 := by rw [mS_1 e3]; exact s00
  show Wf l (n, xs) uL 20 false (1000, 10000) 760 [(0, .ref 4999), (1, .ref 1), (2, .ref 150), (3, .ref 167), (4, .int (nI i))] [.int x4] M1 kr
  refine Wf.sPop (tkL_16 (d := 19)) rfl rfl ?_
  refine Wf.sAl (tkL_16 (d := 19)) rfl rfl rfl ?_
  refine Wf.sCv (as := []) (rest := []) (tkL_16 (d := 19)) rfl rfl (kk_ok hq8.iv rfl) rfl ?_
  refine p7_sunny 7 hq8.li (fun x13 M10 hl18 e12 k14 => ?_)
  have hq17 := LX_k hq8 hl18 e12 k14 (by decide +kernel)
  have c15 : mC M10 ≤ mC M + 1 := by rw [mC_1 e12]; exact c6
  have s16 : mS M10 ≤ mS M + 6 := by rw [mS_1 e12]; exact s7
  show Wf l (n, xs) uL 20 false (1000, 10000) 765 [(0, .ref 4999), (1, .ref 1), (2, .ref 150), (3, .ref 167), (4, .int (nI i))] [.int x13] M10 kr
  refine Wf.sPop (tkL_16 (d := 19)) rfl rfl ?_
  refine Wf.sGo (tkL_16 (d := 19)) rfl ?_
  show Wf l (n, xs) uL 20 false (1000, 10000) 1885 [(0, .ref 4999), (1, .ref 1), (2, .ref 150), (3, .ref 167), (4, .int (nI i))] [] M10 kr
  exact h M10 hq17 c15 s16
set_option maxRecDepth 20000 in
theorem lawc_17 (hi : i + 6 ≤ n) (hn : n ≤ 3072) (hL0 : LX M) (h : ∀ M', LX M' → mC M' ≤ mC M + 1 → mS M' ≤ mS M + 6 → Wf l (n, xs) uL 20 false (1000, 10000) 1885 [(0, .ref 4999), (1, .ref 1), (2, .ref 150), (3, .ref 167), (4, .int (nI i))] [] M' kr) : Wf l (n, xs) uL 20 false (1000, 10000) 769 [(0, .ref 4999), (1, .ref 1), (2, .ref 150), (3, .ref 167), (4, .int (nI i))] [] M kr := by
  have c00 : mC M ≤ mC M + 1 := Nat.le_succ _
  have s00 : mS M ≤ mS M + 6 := Nat.le_add_right _ _
  refine Wf.sAl (tkL_17 (d := 19)) rfl rfl rfl ?_
  refine Wf.sCv (as := []) (rest := []) (tkL_17 (d := 19)) rfl rfl (kk_ok hL0.iv rfl) rfl ?_
  refine p6_heaviest 7 hL0.li (fun x4 M1 hl9 e3 k5 => ?_)
  have hq8 := LX_k hL0 hl9 e3 k5 (by decide +kernel)
  have c6 : mC M1 ≤ mC M + 1 := by rw [mC_1 e3]; exact c00
  have s7 : mS M1 ≤ mS M + 6 := by rw [mS_1 e3]; exact s00
  show Wf l (n, xs) uL 20 false (1000, 10000) 773 [(0, .ref 4999), (1, .ref 1), (2, .ref 150), (3, .ref 167), (4, .int (nI i))] [.int x4] M1 kr
  refine Wf.sPop (tkL_17 (d := 19)) rfl rfl ?_
  refine Wf.sAl (tkL_17 (d := 19)) rfl rfl rfl ?_
  refine Wf.sCv (as := []) (rest := []) (tkL_17 (d := 19)) rfl rfl (kk_ok hq8.iv rfl) rfl ?_
  refine p7_heaviest 7 hq8.li (fun x13 M10 hl18 e12 k14 => ?_)
  have hq17 := LX_k hq8 hl18 e12 k14 (by decide +kernel)
  have c15 : mC M10 ≤ mC M + 1 := by rw [mC_1 e12]; exact c6
  have s16 : mS M10 ≤ mS M + 6 := by rw [mS_1 e12]; exact s7
  show Wf l (n, xs) uL 20 false (1000, 10000) 778 [(0, .ref 4999), (1, .ref 1), (2, .ref 150), (3, .ref 167), (4, .int (nI i))] [.int x13] M10 kr
  refine Wf.sPop (tkL_17 (d := 19)) rfl rfl ?_
  refine Wf.sGo (tkL_17 (d := 19)) rfl ?_
  show Wf l (n, xs) uL 20 false (1000, 10000) 1885 [(0, .ref 4999), (1, .ref 1), (2, .ref 150), (3, .ref 167), (4, .int (nI i))] [] M10 kr
  exact h M10 hq17 c15 s16
set_option maxRecDepth 20000 in
theorem lawc_18 (hi : i + 6 ≤ n) (hn : n ≤ 3072) (hL0 : LX M) (h : ∀ M', LX M' → mC M' ≤ mC M + 1 → mS M' ≤ mS M + 6 → Wf l (n, xs) uL 20 false (1000, 10000) 1885 [(0, .ref 4999), (1, .ref 1), (2, .ref 150), (3, .ref 167), (4, .int (nI i))] [] M' kr) : Wf l (n, xs) uL 20 false (1000, 10000) 782 [(0, .ref 4999), (1, .ref 1), (2, .ref 150), (3, .ref 167), (4, .int (nI i))] [] M kr := by
  have c00 : mC M ≤ mC M + 1 := Nat.le_succ _
  have s00 : mS M ≤ mS M + 6 := Nat.le_add_right _ _
  refine Wf.sAl (tkL_18 (d := 19)) rfl rfl rfl ?_
  refine Wf.sAl (tkL_18 (d := 19)) rfl rfl rfl ?_
  refine Wf.sIl (tkL_18 (d := 19)) rfl rfl ?_
  refine Wf.sIc (tkL_18 (d := 19)) rfl ?_
  refine Wf.s2 (tkL_18 (d := 19)) rfl ?_
  refine Wf.sScd (tkL_18 (d := 19)) rfl (vi1 hi hn) ?_
  show Wf l (n, xs) uL 20 false (1000, 10000) 789 [(0, .ref 4999), (1, .ref 1), (2, .ref 150), (3, .ref 167), (4, .int (nI i))] [.int (xs (nI i + 1 : Int32).toNatClampNeg), .ref 1] M kr
  refine Wf.sCv (as := [.int (xs (nI i + 1 : Int32).toNatClampNeg)]) (rest := []) (tkL_18 (d := 19)) rfl rfl (kk_ok hL0.iv rfl) rfl ?_
  refine p6_fallen 7 hL0.li (fun x4 M1 hl9 e3 k5 => ?_)
  have hq8 := LX_k hL0 hl9 e3 k5 (by decide +kernel)
  have c6 : mC M1 ≤ mC M + 1 := by rw [mC_1 e3]; exact c00
  have s7 : mS M1 ≤ mS M + 6 := by rw [mS_1 e3]; exact s00
  show Wf l (n, xs) uL 20 false (1000, 10000) 792 [(0, .ref 4999), (1, .ref 1), (2, .ref 150), (3, .ref 167), (4, .int (nI i))] [.int x4] M1 kr
  refine Wf.sPop (tkL_18 (d := 19)) rfl rfl ?_
  refine Wf.sAl (tkL_18 (d := 19)) rfl rfl rfl ?_
  refine Wf.sAl (tkL_18 (d := 19)) rfl rfl rfl ?_
  refine Wf.sIl (tkL_18 (d := 19)) rfl rfl ?_
  refine Wf.sIc (tkL_18 (d := 19)) rfl ?_
  refine Wf.s2 (tkL_18 (d := 19)) rfl ?_
  refine Wf.sScd (tkL_18 (d := 19)) rfl (vi1 hi hn) ?_
  show Wf l (n, xs) uL 20 false (1000, 10000) 800 [(0, .ref 4999), (1, .ref 1), (2, .ref 150), (3, .ref 167), (4, .int (nI i))] [.int (xs (nI i + 1 : Int32).toNatClampNeg), .ref 150] M1 kr
  refine Wf.sCv (as := [.int (xs (nI i + 1 : Int32).toNatClampNeg)]) (rest := []) (tkL_18 (d := 19)) rfl rfl (kk_ok hq8.iv rfl) rfl ?_
  refine p7_fallen 7 hq8.li (fun x13 M10 hl18 e12 k14 => ?_)
  have hq17 := LX_k hq8 hl18 e12 k14 (by decide +kernel)
  have c15 : mC M10 ≤ mC M + 1 := by rw [mC_1 e12]; exact c6
  have s16 : mS M10 ≤ mS M + 6 := by rw [mS_1 e12]; exact s7
  show Wf l (n, xs) uL 20 false (1000, 10000) 803 [(0, .ref 4999), (1, .ref 1), (2, .ref 150), (3, .ref 167), (4, .int (nI i))] [.int x13] M10 kr
  refine Wf.sPop (tkL_18 (d := 19)) rfl rfl ?_
  refine Wf.sGo (tkL_18 (d := 19)) rfl ?_
  show Wf l (n, xs) uL 20 false (1000, 10000) 1885 [(0, .ref 4999), (1, .ref 1), (2, .ref 150), (3, .ref 167), (4, .int (nI i))] [] M10 kr
  exact h M10 hq17 c15 s16
set_option maxRecDepth 20000 in
theorem lawc_19 (hi : i + 6 ≤ n) (hn : n ≤ 3072) (hL0 : LX M) (h : ∀ M', LX M' → mC M' ≤ mC M + 1 → mS M' ≤ mS M + 6 → Wf l (n, xs) uL 20 false (1000, 10000) 1885 [(0, .ref 4999), (1, .ref 1), (2, .ref 150), (3, .ref 167), (4, .int (nI i))] [] M' kr) : Wf l (n, xs) uL 20 false (1000, 10000) 807 [(0, .ref 4999), (1, .ref 1), (2, .ref 150), (3, .ref 167), (4, .int (nI i))] [] M kr := by
  have c00 : mC M ≤ mC M + 1 := Nat.le_succ _
  have s00 : mS M ≤ mS M + 6 := Nat.le_add_right _ _
  refine Wf.sAl (tkL_19 (d := 19)) rfl rfl rfl ?_
  refine Wf.sAl (tkL_19 (d := 19)) rfl rfl rfl ?_
  refine Wf.sIl (tkL_19 (d := 19)) rfl rfl ?_
  refine Wf.sIc (tkL_19 (d := 19)) rfl ?_
  refine Wf.s2 (tkL_19 (d := 19)) rfl ?_
  refine Wf.sScd (tkL_19 (d := 19)) rfl (vi1 hi hn) ?_
  show Wf l (n, xs) uL 20 false (1000, 10000) 814 [(0, .ref 4999), (1, .ref 1), (2, .ref 150), (3, .ref 167), (4, .int (nI i))] [.int (xs (nI i + 1 : Int32).toNatClampNeg), .ref 1] M kr
  refine Wf.sAl (tkL_19 (d := 19)) rfl rfl rfl ?_
  refine Wf.sIl (tkL_19 (d := 19)) rfl rfl ?_
  refine Wf.sIc (tkL_19 (d := 19)) rfl ?_
  refine Wf.s2 (tkL_19 (d := 19)) rfl ?_
  refine Wf.sScd (tkL_19 (d := 19)) rfl (vi2 hi hn) ?_
  show Wf l (n, xs) uL 20 false (1000, 10000) 820 [(0, .ref 4999), (1, .ref 1), (2, .ref 150), (3, .ref 167), (4, .int (nI i))] [.int (xs (nI i + 2 : Int32).toNatClampNeg), .int (xs (nI i + 1 : Int32).toNatClampNeg), .ref 1] M kr
  refine Wf.sAl (tkL_19 (d := 19)) rfl rfl rfl ?_
  refine Wf.sIl (tkL_19 (d := 19)) rfl rfl ?_
  refine Wf.sIc (tkL_19 (d := 19)) rfl ?_
  refine Wf.s2 (tkL_19 (d := 19)) rfl ?_
  refine Wf.sScd (tkL_19 (d := 19)) rfl (vi3 hi hn) ?_
  show Wf l (n, xs) uL 20 false (1000, 10000) 826 [(0, .ref 4999), (1, .ref 1), (2, .ref 150), (3, .ref 167), (4, .int (nI i))] [.int (xs (nI i + 3 : Int32).toNatClampNeg), .int (xs (nI i + 2 : Int32).toNatClampNeg), .int (xs (nI i + 1 : Int32).toNatClampNeg), .ref 1] M kr
  refine Wf.sCv (as := [.int (xs (nI i + 1 : Int32).toNatClampNeg), .int (xs (nI i + 2 : Int32).toNatClampNeg), .int (xs (nI i + 3 : Int32).toNatClampNeg)]) (rest := []) (tkL_19 (d := 19)) rfl rfl (kk_ok hL0.iv rfl) rfl ?_
  refine p6_dropsIf 7 hL0.li (fun x4 M1 hl9 e3 k5 => ?_)
  have hq8 := LX_k hL0 hl9 e3 k5 (by decide +kernel)
  have c6 : mC M1 ≤ mC M + 1 := by rw [mC_1 e3]; exact c00
  have s7 : mS M1 ≤ mS M + 6 := by rw [mS_1 e3]; exact s00
  show Wf l (n, xs) uL 20 false (1000, 10000) 829 [(0, .ref 4999), (1, .ref 1), (2, .ref 150), (3, .ref 167), (4, .int (nI i))] [.int x4] M1 kr
  refine Wf.sPop (tkL_19 (d := 19)) rfl rfl ?_
  refine Wf.sAl (tkL_19 (d := 19)) rfl rfl rfl ?_
  refine Wf.sAl (tkL_19 (d := 19)) rfl rfl rfl ?_
  refine Wf.sIl (tkL_19 (d := 19)) rfl rfl ?_
  refine Wf.sIc (tkL_19 (d := 19)) rfl ?_
  refine Wf.s2 (tkL_19 (d := 19)) rfl ?_
  refine Wf.sScd (tkL_19 (d := 19)) rfl (vi1 hi hn) ?_
  show Wf l (n, xs) uL 20 false (1000, 10000) 837 [(0, .ref 4999), (1, .ref 1), (2, .ref 150), (3, .ref 167), (4, .int (nI i))] [.int (xs (nI i + 1 : Int32).toNatClampNeg), .ref 150] M1 kr
  refine Wf.sAl (tkL_19 (d := 19)) rfl rfl rfl ?_
  refine Wf.sIl (tkL_19 (d := 19)) rfl rfl ?_
  refine Wf.sIc (tkL_19 (d := 19)) rfl ?_
  refine Wf.s2 (tkL_19 (d := 19)) rfl ?_
  refine Wf.sScd (tkL_19 (d := 19)) rfl (vi2 hi hn) ?_
  show Wf l (n, xs) uL 20 false (1000, 10000) 843 [(0, .ref 4999), (1, .ref 1), (2, .ref 150), (3, .ref 167), (4, .int (nI i))] [.int (xs (nI i + 2 : Int32).toNatClampNeg), .int (xs (nI i + 1 : Int32).toNatClampNeg), .ref 150] M1 kr
  refine Wf.sAl (tkL_19 (d := 19)) rfl rfl rfl ?_
  refine Wf.sIl (tkL_19 (d := 19)) rfl rfl ?_
  refine Wf.sIc (tkL_19 (d := 19)) rfl ?_
  refine Wf.s2 (tkL_19 (d := 19)) rfl ?_
  refine Wf.sScd (tkL_19 (d := 19)) rfl (vi3 hi hn) ?_
  show Wf l (n, xs) uL 20 false (1000, 10000) 849 [(0, .ref 4999), (1, .ref 1), (2, .ref 150), (3, .ref 167), (4, .int (nI i))] [.int (xs (nI i + 3 : Int32).toNatClampNeg), .int (xs (nI i + 2 : Int32).toNatClampNeg), .int (xs (nI i + 1 : Int32).toNatClampNeg), .ref 150] M1 kr
  refine Wf.sCv (as := [.int (xs (nI i + 1 : Int32).toNatClampNeg), .int (xs (nI i + 2 : Int32).toNatClampNeg), .int (xs (nI i + 3 : Int32).toNatClampNeg)]) (rest := []) (tkL_19 (d := 19)) rfl rfl (kk_ok hq8.iv rfl) rfl ?_
  refine p7_dropsIf 7 hq8.li (fun x13 M10 hl18 e12 k14 => ?_)
  have hq17 := LX_k hq8 hl18 e12 k14 (by decide +kernel)
  have c15 : mC M10 ≤ mC M + 1 := by rw [mC_1 e12]; exact c6
  have s16 : mS M10 ≤ mS M + 6 := by rw [mS_1 e12]; exact s7
  show Wf l (n, xs) uL 20 false (1000, 10000) 852 [(0, .ref 4999), (1, .ref 1), (2, .ref 150), (3, .ref 167), (4, .int (nI i))] [.int x13] M10 kr
  refine Wf.sPop (tkL_19 (d := 19)) rfl rfl ?_
  refine Wf.sGo (tkL_19 (d := 19)) rfl ?_
  show Wf l (n, xs) uL 20 false (1000, 10000) 1885 [(0, .ref 4999), (1, .ref 1), (2, .ref 150), (3, .ref 167), (4, .int (nI i))] [] M10 kr
  exact h M10 hq17 c15 s16
set_option maxRecDepth 20000 in
theorem lawc_20 (hi : i + 6 ≤ n) (hn : n ≤ 3072) (hL0 : LX M) (h : ∀ M', LX M' → mC M' ≤ mC M + 1 → mS M' ≤ mS M + 6 → Wf l (n, xs) uL 20 false (1000, 10000) 1885 [(0, .ref 4999), (1, .ref 1), (2, .ref 150), (3, .ref 167), (4, .int (nI i))] [] M' kr) : Wf l (n, xs) uL 20 false (1000, 10000) 856 [(0, .ref 4999), (1, .ref 1), (2, .ref 150), (3, .ref 167), (4, .int (nI i))] [] M kr := by
  have c00 : mC M ≤ mC M + 1 := Nat.le_succ _
  have s00 : mS M ≤ mS M + 6 := Nat.le_add_right _ _
  refine Wf.sAl (tkL_20 (d := 19)) rfl rfl rfl ?_
  refine Wf.sAl (tkL_20 (d := 19)) rfl rfl rfl ?_
  refine Wf.sIl (tkL_20 (d := 19)) rfl rfl ?_
  refine Wf.sIc (tkL_20 (d := 19)) rfl ?_
  refine Wf.s2 (tkL_20 (d := 19)) rfl ?_
  refine Wf.sScd (tkL_20 (d := 19)) rfl (vi1 hi hn) ?_
  show Wf l (n, xs) uL 20 false (1000, 10000) 863 [(0, .ref 4999), (1, .ref 1), (2, .ref 150), (3, .ref 167), (4, .int (nI i))] [.int (xs (nI i + 1 : Int32).toNatClampNeg), .ref 1] M kr
  refine Wf.sAl (tkL_20 (d := 19)) rfl rfl rfl ?_
  refine Wf.sIl (tkL_20 (d := 19)) rfl rfl ?_
  refine Wf.sIc (tkL_20 (d := 19)) rfl ?_
  refine Wf.s2 (tkL_20 (d := 19)) rfl ?_
  refine Wf.sScd (tkL_20 (d := 19)) rfl (vi2 hi hn) ?_
  show Wf l (n, xs) uL 20 false (1000, 10000) 869 [(0, .ref 4999), (1, .ref 1), (2, .ref 150), (3, .ref 167), (4, .int (nI i))] [.int (xs (nI i + 2 : Int32).toNatClampNeg), .int (xs (nI i + 1 : Int32).toNatClampNeg), .ref 1] M kr
  refine Wf.sCv (as := [.int (xs (nI i + 1 : Int32).toNatClampNeg), .int (xs (nI i + 2 : Int32).toNatClampNeg)]) (rest := []) (tkL_20 (d := 19)) rfl rfl (kk_ok hL0.iv rfl) rfl ?_
  refine p6_faceFor 7 hL0.li (fun x4 M1 hl9 e3 k5 => ?_)
  have hq8 := LX_k hL0 hl9 e3 k5 (by decide +kernel)
  have c6 : mC M1 ≤ mC M + 1 := by rw [mC_1 e3]; exact c00
  have s7 : mS M1 ≤ mS M + 6 := by rw [mS_1 e3]; exact s00
  show Wf l (n, xs) uL 20 false (1000, 10000) 872 [(0, .ref 4999), (1, .ref 1), (2, .ref 150), (3, .ref 167), (4, .int (nI i))] [.int x4] M1 kr
  refine Wf.sPop (tkL_20 (d := 19)) rfl rfl ?_
  refine Wf.sAl (tkL_20 (d := 19)) rfl rfl rfl ?_
  refine Wf.sAl (tkL_20 (d := 19)) rfl rfl rfl ?_
  refine Wf.sIl (tkL_20 (d := 19)) rfl rfl ?_
  refine Wf.sIc (tkL_20 (d := 19)) rfl ?_
  refine Wf.s2 (tkL_20 (d := 19)) rfl ?_
  refine Wf.sScd (tkL_20 (d := 19)) rfl (vi1 hi hn) ?_
  show Wf l (n, xs) uL 20 false (1000, 10000) 880 [(0, .ref 4999), (1, .ref 1), (2, .ref 150), (3, .ref 167), (4, .int (nI i))] [.int (xs (nI i + 1 : Int32).toNatClampNeg), .ref 150] M1 kr
  refine Wf.sAl (tkL_20 (d := 19)) rfl rfl rfl ?_
  refine Wf.sIl (tkL_20 (d := 19)) rfl rfl ?_
  refine Wf.sIc (tkL_20 (d := 19)) rfl ?_
  refine Wf.s2 (tkL_20 (d := 19)) rfl ?_
  refine Wf.sScd (tkL_20 (d := 19)) rfl (vi2 hi hn) ?_
  show Wf l (n, xs) uL 20 false (1000, 10000) 886 [(0, .ref 4999), (1, .ref 1), (2, .ref 150), (3, .ref 167), (4, .int (nI i))] [.int (xs (nI i + 2 : Int32).toNatClampNeg), .int (xs (nI i + 1 : Int32).toNatClampNeg), .ref 150] M1 kr
  refine Wf.sCv (as := [.int (xs (nI i + 1 : Int32).toNatClampNeg), .int (xs (nI i + 2 : Int32).toNatClampNeg)]) (rest := []) (tkL_20 (d := 19)) rfl rfl (kk_ok hq8.iv rfl) rfl ?_
  refine p7_faceFor 7 hq8.li (fun x13 M10 hl18 e12 k14 => ?_)
  have hq17 := LX_k hq8 hl18 e12 k14 (by decide +kernel)
  have c15 : mC M10 ≤ mC M + 1 := by rw [mC_1 e12]; exact c6
  have s16 : mS M10 ≤ mS M + 6 := by rw [mS_1 e12]; exact s7
  show Wf l (n, xs) uL 20 false (1000, 10000) 889 [(0, .ref 4999), (1, .ref 1), (2, .ref 150), (3, .ref 167), (4, .int (nI i))] [.int x13] M10 kr
  refine Wf.sPop (tkL_20 (d := 19)) rfl rfl ?_
  refine Wf.sGo (tkL_20 (d := 19)) rfl ?_
  show Wf l (n, xs) uL 20 false (1000, 10000) 1885 [(0, .ref 4999), (1, .ref 1), (2, .ref 150), (3, .ref 167), (4, .int (nI i))] [] M10 kr
  exact h M10 hq17 c15 s16
set_option maxRecDepth 20000 in
theorem lawc_21 (hi : i + 6 ≤ n) (hn : n ≤ 3072) (hL0 : LX M) (h : ∀ M', LX M' → mC M' ≤ mC M + 1 → mS M' ≤ mS M + 6 → Wf l (n, xs) uL 20 false (1000, 10000) 1885 [(0, .ref 4999), (1, .ref 1), (2, .ref 150), (3, .ref 167), (4, .int (nI i))] [] M' kr) : Wf l (n, xs) uL 20 false (1000, 10000) 893 [(0, .ref 4999), (1, .ref 1), (2, .ref 150), (3, .ref 167), (4, .int (nI i))] [] M kr := by
  have c00 : mC M ≤ mC M + 1 := Nat.le_succ _
  have s00 : mS M ≤ mS M + 6 := Nat.le_add_right _ _
  refine Wf.sAl (tkL_21 (d := 19)) rfl rfl rfl ?_
  refine Wf.sAl (tkL_21 (d := 19)) rfl rfl rfl ?_
  refine Wf.sIl (tkL_21 (d := 19)) rfl rfl ?_
  refine Wf.sIc (tkL_21 (d := 19)) rfl ?_
  refine Wf.s2 (tkL_21 (d := 19)) rfl ?_
  refine Wf.sScd (tkL_21 (d := 19)) rfl (vi1 hi hn) ?_
  show Wf l (n, xs) uL 20 false (1000, 10000) 900 [(0, .ref 4999), (1, .ref 1), (2, .ref 150), (3, .ref 167), (4, .int (nI i))] [.int (xs (nI i + 1 : Int32).toNatClampNeg), .ref 1] M kr
  refine Wf.sCv (as := [.int (xs (nI i + 1 : Int32).toNatClampNeg)]) (rest := []) (tkL_21 (d := 19)) rfl rfl (kk_ok hL0.iv rfl) rfl ?_
  refine p6_match 7 hL0.li (fun x4 M1 hl9 e3 k5 => ?_)
  have hq8 := LX_k hL0 hl9 e3 k5 (by decide +kernel)
  have c6 : mC M1 ≤ mC M + 1 := by rw [mC_1 e3]; exact c00
  have s7 : mS M1 ≤ mS M + 6 := by rw [mS_1 e3]; exact s00
  show Wf l (n, xs) uL 20 false (1000, 10000) 903 [(0, .ref 4999), (1, .ref 1), (2, .ref 150), (3, .ref 167), (4, .int (nI i))] [.int x4] M1 kr
  refine Wf.sPop (tkL_21 (d := 19)) rfl rfl ?_
  refine Wf.sAl (tkL_21 (d := 19)) rfl rfl rfl ?_
  refine Wf.sAl (tkL_21 (d := 19)) rfl rfl rfl ?_
  refine Wf.sIl (tkL_21 (d := 19)) rfl rfl ?_
  refine Wf.sIc (tkL_21 (d := 19)) rfl ?_
  refine Wf.s2 (tkL_21 (d := 19)) rfl ?_
  refine Wf.sScd (tkL_21 (d := 19)) rfl (vi1 hi hn) ?_
  show Wf l (n, xs) uL 20 false (1000, 10000) 911 [(0, .ref 4999), (1, .ref 1), (2, .ref 150), (3, .ref 167), (4, .int (nI i))] [.int (xs (nI i + 1 : Int32).toNatClampNeg), .ref 150] M1 kr
  refine Wf.sCv (as := [.int (xs (nI i + 1 : Int32).toNatClampNeg)]) (rest := []) (tkL_21 (d := 19)) rfl rfl (kk_ok hq8.iv rfl) rfl ?_
  refine p7_match 7 hq8.li (fun x13 M10 hl18 e12 k14 => ?_)
  have hq17 := LX_k hq8 hl18 e12 k14 (by decide +kernel)
  have c15 : mC M10 ≤ mC M + 1 := by rw [mC_1 e12]; exact c6
  have s16 : mS M10 ≤ mS M + 6 := by rw [mS_1 e12]; exact s7
  show Wf l (n, xs) uL 20 false (1000, 10000) 914 [(0, .ref 4999), (1, .ref 1), (2, .ref 150), (3, .ref 167), (4, .int (nI i))] [.int x13] M10 kr
  refine Wf.sPop (tkL_21 (d := 19)) rfl rfl ?_
  refine Wf.sGo (tkL_21 (d := 19)) rfl ?_
  show Wf l (n, xs) uL 20 false (1000, 10000) 1885 [(0, .ref 4999), (1, .ref 1), (2, .ref 150), (3, .ref 167), (4, .int (nI i))] [] M10 kr
  exact h M10 hq17 c15 s16
set_option maxRecDepth 20000 in
theorem lawc_22 (hi : i + 6 ≤ n) (hn : n ≤ 3072) (hL0 : LX M) (h : ∀ M', LX M' → mC M' ≤ mC M + 1 → mS M' ≤ mS M + 6 → Wf l (n, xs) uL 20 false (1000, 10000) 1885 [(0, .ref 4999), (1, .ref 1), (2, .ref 150), (3, .ref 167), (4, .int (nI i))] [] M' kr) : Wf l (n, xs) uL 20 false (1000, 10000) 918 [(0, .ref 4999), (1, .ref 1), (2, .ref 150), (3, .ref 167), (4, .int (nI i))] [] M kr := by
  have c00 : mC M ≤ mC M + 1 := Nat.le_succ _
  have s00 : mS M ≤ mS M + 6 := Nat.le_add_right _ _
  refine Wf.sAl (tkL_22 (d := 19)) rfl rfl rfl ?_
  refine Wf.sAl (tkL_22 (d := 19)) rfl rfl rfl ?_
  refine Wf.sIl (tkL_22 (d := 19)) rfl rfl ?_
  refine Wf.sIc (tkL_22 (d := 19)) rfl ?_
  refine Wf.s2 (tkL_22 (d := 19)) rfl ?_
  refine Wf.sScd (tkL_22 (d := 19)) rfl (vi1 hi hn) ?_
  show Wf l (n, xs) uL 20 false (1000, 10000) 925 [(0, .ref 4999), (1, .ref 1), (2, .ref 150), (3, .ref 167), (4, .int (nI i))] [.int (xs (nI i + 1 : Int32).toNatClampNeg), .ref 1] M kr
  refine Wf.sCv (as := [.int (xs (nI i + 1 : Int32).toNatClampNeg)]) (rest := []) (tkL_22 (d := 19)) rfl rfl (kk_ok hL0.iv rfl) rfl ?_
  refine p6_matchDrops 7 hL0.li (fun x4 M1 hl9 e3 k5 => ?_)
  have hq8 := LX_k hL0 hl9 e3 k5 (by decide +kernel)
  have c6 : mC M1 ≤ mC M + 1 := by rw [mC_1 e3]; exact c00
  have s7 : mS M1 ≤ mS M + 6 := by rw [mS_1 e3]; exact s00
  show Wf l (n, xs) uL 20 false (1000, 10000) 928 [(0, .ref 4999), (1, .ref 1), (2, .ref 150), (3, .ref 167), (4, .int (nI i))] [.int x4] M1 kr
  refine Wf.sPop (tkL_22 (d := 19)) rfl rfl ?_
  refine Wf.sAl (tkL_22 (d := 19)) rfl rfl rfl ?_
  refine Wf.sAl (tkL_22 (d := 19)) rfl rfl rfl ?_
  refine Wf.sIl (tkL_22 (d := 19)) rfl rfl ?_
  refine Wf.sIc (tkL_22 (d := 19)) rfl ?_
  refine Wf.s2 (tkL_22 (d := 19)) rfl ?_
  refine Wf.sScd (tkL_22 (d := 19)) rfl (vi1 hi hn) ?_
  show Wf l (n, xs) uL 20 false (1000, 10000) 936 [(0, .ref 4999), (1, .ref 1), (2, .ref 150), (3, .ref 167), (4, .int (nI i))] [.int (xs (nI i + 1 : Int32).toNatClampNeg), .ref 150] M1 kr
  refine Wf.sCv (as := [.int (xs (nI i + 1 : Int32).toNatClampNeg)]) (rest := []) (tkL_22 (d := 19)) rfl rfl (kk_ok hq8.iv rfl) rfl ?_
  refine p7_matchDrops 7 hq8.li (fun x13 M10 hl18 e12 k14 => ?_)
  have hq17 := LX_k hq8 hl18 e12 k14 (by decide +kernel)
  have c15 : mC M10 ≤ mC M + 1 := by rw [mC_1 e12]; exact c6
  have s16 : mS M10 ≤ mS M + 6 := by rw [mS_1 e12]; exact s7
  show Wf l (n, xs) uL 20 false (1000, 10000) 939 [(0, .ref 4999), (1, .ref 1), (2, .ref 150), (3, .ref 167), (4, .int (nI i))] [.int x13] M10 kr
  refine Wf.sPop (tkL_22 (d := 19)) rfl rfl ?_
  refine Wf.sGo (tkL_22 (d := 19)) rfl ?_
  show Wf l (n, xs) uL 20 false (1000, 10000) 1885 [(0, .ref 4999), (1, .ref 1), (2, .ref 150), (3, .ref 167), (4, .int (nI i))] [] M10 kr
  exact h M10 hq17 c15 s16
set_option maxRecDepth 20000 in
theorem lawc_23 (hi : i + 6 ≤ n) (hn : n ≤ 3072) (hL0 : LX M) (h : ∀ M', LX M' → mC M' ≤ mC M + 1 → mS M' ≤ mS M + 6 → Wf l (n, xs) uL 20 false (1000, 10000) 1885 [(0, .ref 4999), (1, .ref 1), (2, .ref 150), (3, .ref 167), (4, .int (nI i))] [] M' kr) : Wf l (n, xs) uL 20 false (1000, 10000) 943 [(0, .ref 4999), (1, .ref 1), (2, .ref 150), (3, .ref 167), (4, .int (nI i))] [] M kr := by
  have c00 : mC M ≤ mC M + 1 := Nat.le_succ _
  have s00 : mS M ≤ mS M + 6 := Nat.le_add_right _ _
  refine Wf.sAl (tkL_23 (d := 19)) rfl rfl rfl ?_
  refine Wf.sAl (tkL_23 (d := 19)) rfl rfl rfl ?_
  refine Wf.sIl (tkL_23 (d := 19)) rfl rfl ?_
  refine Wf.sIc (tkL_23 (d := 19)) rfl ?_
  refine Wf.s2 (tkL_23 (d := 19)) rfl ?_
  refine Wf.sScd (tkL_23 (d := 19)) rfl (vi1 hi hn) ?_
  show Wf l (n, xs) uL 20 false (1000, 10000) 950 [(0, .ref 4999), (1, .ref 1), (2, .ref 150), (3, .ref 167), (4, .int (nI i))] [.int (xs (nI i + 1 : Int32).toNatClampNeg), .ref 1] M kr
  refine Wf.sAl (tkL_23 (d := 19)) rfl rfl rfl ?_
  refine Wf.sIl (tkL_23 (d := 19)) rfl rfl ?_
  refine Wf.sIc (tkL_23 (d := 19)) rfl ?_
  refine Wf.s2 (tkL_23 (d := 19)) rfl ?_
  refine Wf.sScd (tkL_23 (d := 19)) rfl (vi2 hi hn) ?_
  show Wf l (n, xs) uL 20 false (1000, 10000) 956 [(0, .ref 4999), (1, .ref 1), (2, .ref 150), (3, .ref 167), (4, .int (nI i))] [.int (xs (nI i + 2 : Int32).toNatClampNeg), .int (xs (nI i + 1 : Int32).toNatClampNeg), .ref 1] M kr
  refine Wf.sCv (as := [.int (xs (nI i + 1 : Int32).toNatClampNeg), .int (xs (nI i + 2 : Int32).toNatClampNeg)]) (rest := []) (tkL_23 (d := 19)) rfl rfl (kk_ok hL0.iv rfl) rfl ?_
  refine p6_matchAt 7 hL0.li (fun x4 M1 hl9 e3 k5 => ?_)
  have hq8 := LX_k hL0 hl9 e3 k5 (by decide +kernel)
  have c6 : mC M1 ≤ mC M + 1 := by rw [mC_1 e3]; exact c00
  have s7 : mS M1 ≤ mS M + 6 := by rw [mS_1 e3]; exact s00
  show Wf l (n, xs) uL 20 false (1000, 10000) 959 [(0, .ref 4999), (1, .ref 1), (2, .ref 150), (3, .ref 167), (4, .int (nI i))] [.int x4] M1 kr
  refine Wf.sPop (tkL_23 (d := 19)) rfl rfl ?_
  refine Wf.sAl (tkL_23 (d := 19)) rfl rfl rfl ?_
  refine Wf.sAl (tkL_23 (d := 19)) rfl rfl rfl ?_
  refine Wf.sIl (tkL_23 (d := 19)) rfl rfl ?_
  refine Wf.sIc (tkL_23 (d := 19)) rfl ?_
  refine Wf.s2 (tkL_23 (d := 19)) rfl ?_
  refine Wf.sScd (tkL_23 (d := 19)) rfl (vi1 hi hn) ?_
  show Wf l (n, xs) uL 20 false (1000, 10000) 967 [(0, .ref 4999), (1, .ref 1), (2, .ref 150), (3, .ref 167), (4, .int (nI i))] [.int (xs (nI i + 1 : Int32).toNatClampNeg), .ref 150] M1 kr
  refine Wf.sAl (tkL_23 (d := 19)) rfl rfl rfl ?_
  refine Wf.sIl (tkL_23 (d := 19)) rfl rfl ?_
  refine Wf.sIc (tkL_23 (d := 19)) rfl ?_
  refine Wf.s2 (tkL_23 (d := 19)) rfl ?_
  refine Wf.sScd (tkL_23 (d := 19)) rfl (vi2 hi hn) ?_
  show Wf l (n, xs) uL 20 false (1000, 10000) 973 [(0, .ref 4999), (1, .ref 1), (2, .ref 150), (3, .ref 167), (4, .int (nI i))] [.int (xs (nI i + 2 : Int32).toNatClampNeg), .int (xs (nI i + 1 : Int32).toNatClampNeg), .ref 150] M1 kr
  refine Wf.sCv (as := [.int (xs (nI i + 1 : Int32).toNatClampNeg), .int (xs (nI i + 2 : Int32).toNatClampNeg)]) (rest := []) (tkL_23 (d := 19)) rfl rfl (kk_ok hq8.iv rfl) rfl ?_
  refine p7_matchAt 7 hq8.li (fun x13 M10 hl18 e12 k14 => ?_)
  have hq17 := LX_k hq8 hl18 e12 k14 (by decide +kernel)
  have c15 : mC M10 ≤ mC M + 1 := by rw [mC_1 e12]; exact c6
  have s16 : mS M10 ≤ mS M + 6 := by rw [mS_1 e12]; exact s7
  show Wf l (n, xs) uL 20 false (1000, 10000) 976 [(0, .ref 4999), (1, .ref 1), (2, .ref 150), (3, .ref 167), (4, .int (nI i))] [.int x13] M10 kr
  refine Wf.sPop (tkL_23 (d := 19)) rfl rfl ?_
  refine Wf.sGo (tkL_23 (d := 19)) rfl ?_
  show Wf l (n, xs) uL 20 false (1000, 10000) 1885 [(0, .ref 4999), (1, .ref 1), (2, .ref 150), (3, .ref 167), (4, .int (nI i))] [] M10 kr
  exact h M10 hq17 c15 s16
end LAWC
end
section
/-! the law's cases over its states -/
section LAWC
variable {l : Launch} {xs : Nat → Int32} {kr : KR} {i n : Nat} {M : Mm}
set_option maxRecDepth 20000 in
theorem lawc_24 (hi : i + 6 ≤ n) (hn : n ≤ 3072) (hL0 : LX M) (h : ∀ M', LX M' → mC M' ≤ mC M + 1 → mS M' ≤ mS M + 6 → Wf l (n, xs) uL 20 false (1000, 10000) 1885 [(0, .ref 4999), (1, .ref 1), (2, .ref 150), (3, .ref 167), (4, .int (nI i))] [] M' kr) : Wf l (n, xs) uL 20 false (1000, 10000) 980 [(0, .ref 4999), (1, .ref 1), (2, .ref 150), (3, .ref 167), (4, .int (nI i))] [] M kr := by
  have c00 : mC M ≤ mC M + 1 := Nat.le_succ _
  have s00 : mS M ≤ mS M + 6 := Nat.le_add_right _ _
  refine Wf.sAl (tkL_24 (d := 19)) rfl rfl rfl ?_
  refine Wf.sAl (tkL_24 (d := 19)) rfl rfl rfl ?_
  refine Wf.sIl (tkL_24 (d := 19)) rfl rfl ?_
  refine Wf.sIc (tkL_24 (d := 19)) rfl ?_
  refine Wf.s2 (tkL_24 (d := 19)) rfl ?_
  refine Wf.sScd (tkL_24 (d := 19)) rfl (vi1 hi hn) ?_
  show Wf l (n, xs) uL 20 false (1000, 10000) 987 [(0, .ref 4999), (1, .ref 1), (2, .ref 150), (3, .ref 167), (4, .int (nI i))] [.int (xs (nI i + 1 : Int32).toNatClampNeg), .ref 1] M kr
  refine Wf.sAl (tkL_24 (d := 19)) rfl rfl rfl ?_
  refine Wf.sIl (tkL_24 (d := 19)) rfl rfl ?_
  refine Wf.sIc (tkL_24 (d := 19)) rfl ?_
  refine Wf.s2 (tkL_24 (d := 19)) rfl ?_
  refine Wf.sScd (tkL_24 (d := 19)) rfl (vi2 hi hn) ?_
  show Wf l (n, xs) uL 20 false (1000, 10000) 993 [(0, .ref 4999), (1, .ref 1), (2, .ref 150), (3, .ref 167), (4, .int (nI i))] [.int (xs (nI i + 2 : Int32).toNatClampNeg), .int (xs (nI i + 1 : Int32).toNatClampNeg), .ref 1] M kr
  refine Wf.sCv (as := [.int (xs (nI i + 1 : Int32).toNatClampNeg), .int (xs (nI i + 2 : Int32).toNatClampNeg)]) (rest := []) (tkL_24 (d := 19)) rfl rfl (kk_ok hL0.iv rfl) rfl ?_
  refine p6_steps 7 hL0.li (fun x4 M1 hl9 e3 k5 => ?_)
  have hq8 := LX_k hL0 hl9 e3 k5 (by decide +kernel)
  have c6 : mC M1 ≤ mC M + 1 := by rw [mC_1 e3]; exact c00
  have s7 : mS M1 ≤ mS M + 6 := by rw [mS_1 e3]; exact s00
  show Wf l (n, xs) uL 20 false (1000, 10000) 996 [(0, .ref 4999), (1, .ref 1), (2, .ref 150), (3, .ref 167), (4, .int (nI i))] [.int x4] M1 kr
  refine Wf.sPop (tkL_24 (d := 19)) rfl rfl ?_
  refine Wf.sAl (tkL_24 (d := 19)) rfl rfl rfl ?_
  refine Wf.sAl (tkL_24 (d := 19)) rfl rfl rfl ?_
  refine Wf.sIl (tkL_24 (d := 19)) rfl rfl ?_
  refine Wf.sIc (tkL_24 (d := 19)) rfl ?_
  refine Wf.s2 (tkL_24 (d := 19)) rfl ?_
  refine Wf.sScd (tkL_24 (d := 19)) rfl (vi1 hi hn) ?_
  show Wf l (n, xs) uL 20 false (1000, 10000) 1004 [(0, .ref 4999), (1, .ref 1), (2, .ref 150), (3, .ref 167), (4, .int (nI i))] [.int (xs (nI i + 1 : Int32).toNatClampNeg), .ref 150] M1 kr
  refine Wf.sAl (tkL_24 (d := 19)) rfl rfl rfl ?_
  refine Wf.sIl (tkL_24 (d := 19)) rfl rfl ?_
  refine Wf.sIc (tkL_24 (d := 19)) rfl ?_
  refine Wf.s2 (tkL_24 (d := 19)) rfl ?_
  refine Wf.sScd (tkL_24 (d := 19)) rfl (vi2 hi hn) ?_
  show Wf l (n, xs) uL 20 false (1000, 10000) 1010 [(0, .ref 4999), (1, .ref 1), (2, .ref 150), (3, .ref 167), (4, .int (nI i))] [.int (xs (nI i + 2 : Int32).toNatClampNeg), .int (xs (nI i + 1 : Int32).toNatClampNeg), .ref 150] M1 kr
  refine Wf.sCv (as := [.int (xs (nI i + 1 : Int32).toNatClampNeg), .int (xs (nI i + 2 : Int32).toNatClampNeg)]) (rest := []) (tkL_24 (d := 19)) rfl rfl (kk_ok hq8.iv rfl) rfl ?_
  refine p7_steps 7 hq8.li (fun x13 M10 hl18 e12 k14 => ?_)
  have hq17 := LX_k hq8 hl18 e12 k14 (by decide +kernel)
  have c15 : mC M10 ≤ mC M + 1 := by rw [mC_1 e12]; exact c6
  have s16 : mS M10 ≤ mS M + 6 := by rw [mS_1 e12]; exact s7
  show Wf l (n, xs) uL 20 false (1000, 10000) 1013 [(0, .ref 4999), (1, .ref 1), (2, .ref 150), (3, .ref 167), (4, .int (nI i))] [.int x13] M10 kr
  refine Wf.sPop (tkL_24 (d := 19)) rfl rfl ?_
  refine Wf.sGo (tkL_24 (d := 19)) rfl ?_
  show Wf l (n, xs) uL 20 false (1000, 10000) 1885 [(0, .ref 4999), (1, .ref 1), (2, .ref 150), (3, .ref 167), (4, .int (nI i))] [] M10 kr
  exact h M10 hq17 c15 s16
set_option maxRecDepth 20000 in
theorem lawc_25 (hi : i + 6 ≤ n) (hn : n ≤ 3072) (hL0 : LX M) (h : ∀ M', LX M' → mC M' ≤ mC M + 1 → mS M' ≤ mS M + 6 → Wf l (n, xs) uL 20 false (1000, 10000) 1885 [(0, .ref 4999), (1, .ref 1), (2, .ref 150), (3, .ref 167), (4, .int (nI i))] [] M' kr) : Wf l (n, xs) uL 20 false (1000, 10000) 1017 [(0, .ref 4999), (1, .ref 1), (2, .ref 150), (3, .ref 167), (4, .int (nI i))] [] M kr := by
  have c00 : mC M ≤ mC M + 1 := Nat.le_succ _
  have s00 : mS M ≤ mS M + 6 := Nat.le_add_right _ _
  refine Wf.sAl (tkL_25 (d := 19)) rfl rfl rfl ?_
  refine Wf.sAl (tkL_25 (d := 19)) rfl rfl rfl ?_
  refine Wf.sIl (tkL_25 (d := 19)) rfl rfl ?_
  refine Wf.sIc (tkL_25 (d := 19)) rfl ?_
  refine Wf.s2 (tkL_25 (d := 19)) rfl ?_
  refine Wf.sScd (tkL_25 (d := 19)) rfl (vi1 hi hn) ?_
  show Wf l (n, xs) uL 20 false (1000, 10000) 1024 [(0, .ref 4999), (1, .ref 1), (2, .ref 150), (3, .ref 167), (4, .int (nI i))] [.int (xs (nI i + 1 : Int32).toNatClampNeg), .ref 1] M kr
  refine Wf.sAl (tkL_25 (d := 19)) rfl rfl rfl ?_
  refine Wf.sIl (tkL_25 (d := 19)) rfl rfl ?_
  refine Wf.sIc (tkL_25 (d := 19)) rfl ?_
  refine Wf.s2 (tkL_25 (d := 19)) rfl ?_
  refine Wf.sScd (tkL_25 (d := 19)) rfl (vi2 hi hn) ?_
  show Wf l (n, xs) uL 20 false (1000, 10000) 1030 [(0, .ref 4999), (1, .ref 1), (2, .ref 150), (3, .ref 167), (4, .int (nI i))] [.int (xs (nI i + 2 : Int32).toNatClampNeg), .int (xs (nI i + 1 : Int32).toNatClampNeg), .ref 1] M kr
  refine Wf.sCv (as := [.int (xs (nI i + 1 : Int32).toNatClampNeg), .int (xs (nI i + 2 : Int32).toNatClampNeg)]) (rest := []) (tkL_25 (d := 19)) rfl rfl (kk_ok hL0.iv rfl) rfl ?_
  refine p6_wets 7 hL0.li (fun x4 M1 hl9 e3 k5 => ?_)
  have hq8 := LX_k hL0 hl9 e3 k5 (by decide +kernel)
  have c6 : mC M1 ≤ mC M + 1 := by rw [mC_1 e3]; exact c00
  have s7 : mS M1 ≤ mS M + 6 := by rw [mS_1 e3]; exact s00
  show Wf l (n, xs) uL 20 false (1000, 10000) 1033 [(0, .ref 4999), (1, .ref 1), (2, .ref 150), (3, .ref 167), (4, .int (nI i))] [.int x4] M1 kr
  refine Wf.sPop (tkL_25 (d := 19)) rfl rfl ?_
  refine Wf.sAl (tkL_25 (d := 19)) rfl rfl rfl ?_
  refine Wf.sAl (tkL_25 (d := 19)) rfl rfl rfl ?_
  refine Wf.sIl (tkL_25 (d := 19)) rfl rfl ?_
  refine Wf.sIc (tkL_25 (d := 19)) rfl ?_
  refine Wf.s2 (tkL_25 (d := 19)) rfl ?_
  refine Wf.sScd (tkL_25 (d := 19)) rfl (vi1 hi hn) ?_
  show Wf l (n, xs) uL 20 false (1000, 10000) 1041 [(0, .ref 4999), (1, .ref 1), (2, .ref 150), (3, .ref 167), (4, .int (nI i))] [.int (xs (nI i + 1 : Int32).toNatClampNeg), .ref 150] M1 kr
  refine Wf.sAl (tkL_25 (d := 19)) rfl rfl rfl ?_
  refine Wf.sIl (tkL_25 (d := 19)) rfl rfl ?_
  refine Wf.sIc (tkL_25 (d := 19)) rfl ?_
  refine Wf.s2 (tkL_25 (d := 19)) rfl ?_
  refine Wf.sScd (tkL_25 (d := 19)) rfl (vi2 hi hn) ?_
  show Wf l (n, xs) uL 20 false (1000, 10000) 1047 [(0, .ref 4999), (1, .ref 1), (2, .ref 150), (3, .ref 167), (4, .int (nI i))] [.int (xs (nI i + 2 : Int32).toNatClampNeg), .int (xs (nI i + 1 : Int32).toNatClampNeg), .ref 150] M1 kr
  refine Wf.sCv (as := [.int (xs (nI i + 1 : Int32).toNatClampNeg), .int (xs (nI i + 2 : Int32).toNatClampNeg)]) (rest := []) (tkL_25 (d := 19)) rfl rfl (kk_ok hq8.iv rfl) rfl ?_
  refine p7_wets 7 hq8.li (fun x13 M10 hl18 e12 k14 => ?_)
  have hq17 := LX_k hq8 hl18 e12 k14 (by decide +kernel)
  have c15 : mC M10 ≤ mC M + 1 := by rw [mC_1 e12]; exact c6
  have s16 : mS M10 ≤ mS M + 6 := by rw [mS_1 e12]; exact s7
  show Wf l (n, xs) uL 20 false (1000, 10000) 1050 [(0, .ref 4999), (1, .ref 1), (2, .ref 150), (3, .ref 167), (4, .int (nI i))] [.int x13] M10 kr
  refine Wf.sPop (tkL_25 (d := 19)) rfl rfl ?_
  refine Wf.sGo (tkL_25 (d := 19)) rfl ?_
  show Wf l (n, xs) uL 20 false (1000, 10000) 1885 [(0, .ref 4999), (1, .ref 1), (2, .ref 150), (3, .ref 167), (4, .int (nI i))] [] M10 kr
  exact h M10 hq17 c15 s16
set_option maxRecDepth 20000 in
theorem lawc_26 (hi : i + 6 ≤ n) (hn : n ≤ 3072) (hL0 : LX M) (h : ∀ M', LX M' → mC M' ≤ mC M + 1 → mS M' ≤ mS M + 6 → Wf l (n, xs) uL 20 false (1000, 10000) 1885 [(0, .ref 4999), (1, .ref 1), (2, .ref 150), (3, .ref 167), (4, .int (nI i))] [] M' kr) : Wf l (n, xs) uL 20 false (1000, 10000) 1054 [(0, .ref 4999), (1, .ref 1), (2, .ref 150), (3, .ref 167), (4, .int (nI i))] [] M kr := by
  have c00 : mC M ≤ mC M + 1 := Nat.le_succ _
  have s00 : mS M ≤ mS M + 6 := Nat.le_add_right _ _
  refine Wf.sAl (tkL_26 (d := 19)) rfl rfl rfl ?_
  refine Wf.sAl (tkL_26 (d := 19)) rfl rfl rfl ?_
  refine Wf.sIl (tkL_26 (d := 19)) rfl rfl ?_
  refine Wf.sIc (tkL_26 (d := 19)) rfl ?_
  refine Wf.s2 (tkL_26 (d := 19)) rfl ?_
  refine Wf.sScd (tkL_26 (d := 19)) rfl (vi1 hi hn) ?_
  show Wf l (n, xs) uL 20 false (1000, 10000) 1061 [(0, .ref 4999), (1, .ref 1), (2, .ref 150), (3, .ref 167), (4, .int (nI i))] [.int (xs (nI i + 1 : Int32).toNatClampNeg), .ref 1] M kr
  refine Wf.sAl (tkL_26 (d := 19)) rfl rfl rfl ?_
  refine Wf.sIl (tkL_26 (d := 19)) rfl rfl ?_
  refine Wf.sIc (tkL_26 (d := 19)) rfl ?_
  refine Wf.s2 (tkL_26 (d := 19)) rfl ?_
  refine Wf.sScd (tkL_26 (d := 19)) rfl (vi2 hi hn) ?_
  show Wf l (n, xs) uL 20 false (1000, 10000) 1067 [(0, .ref 4999), (1, .ref 1), (2, .ref 150), (3, .ref 167), (4, .int (nI i))] [.int (xs (nI i + 2 : Int32).toNatClampNeg), .int (xs (nI i + 1 : Int32).toNatClampNeg), .ref 1] M kr
  refine Wf.sCv (as := [.int (xs (nI i + 1 : Int32).toNatClampNeg), .int (xs (nI i + 2 : Int32).toNatClampNeg)]) (rest := []) (tkL_26 (d := 19)) rfl rfl (kk_ok hL0.iv rfl) rfl ?_
  refine p6_way 7 hL0.li (fun x4 M1 hl9 e3 k5 => ?_)
  have hq8 := LX_k hL0 hl9 e3 k5 (by decide +kernel)
  have c6 : mC M1 ≤ mC M + 1 := by rw [mC_1 e3]; exact c00
  have s7 : mS M1 ≤ mS M + 6 := by rw [mS_1 e3]; exact s00
  show Wf l (n, xs) uL 20 false (1000, 10000) 1070 [(0, .ref 4999), (1, .ref 1), (2, .ref 150), (3, .ref 167), (4, .int (nI i))] [.int x4] M1 kr
  refine Wf.sPop (tkL_26 (d := 19)) rfl rfl ?_
  refine Wf.sAl (tkL_26 (d := 19)) rfl rfl rfl ?_
  refine Wf.sAl (tkL_26 (d := 19)) rfl rfl rfl ?_
  refine Wf.sIl (tkL_26 (d := 19)) rfl rfl ?_
  refine Wf.sIc (tkL_26 (d := 19)) rfl ?_
  refine Wf.s2 (tkL_26 (d := 19)) rfl ?_
  refine Wf.sScd (tkL_26 (d := 19)) rfl (vi1 hi hn) ?_
  show Wf l (n, xs) uL 20 false (1000, 10000) 1078 [(0, .ref 4999), (1, .ref 1), (2, .ref 150), (3, .ref 167), (4, .int (nI i))] [.int (xs (nI i + 1 : Int32).toNatClampNeg), .ref 150] M1 kr
  refine Wf.sAl (tkL_26 (d := 19)) rfl rfl rfl ?_
  refine Wf.sIl (tkL_26 (d := 19)) rfl rfl ?_
  refine Wf.sIc (tkL_26 (d := 19)) rfl ?_
  refine Wf.s2 (tkL_26 (d := 19)) rfl ?_
  refine Wf.sScd (tkL_26 (d := 19)) rfl (vi2 hi hn) ?_
  show Wf l (n, xs) uL 20 false (1000, 10000) 1084 [(0, .ref 4999), (1, .ref 1), (2, .ref 150), (3, .ref 167), (4, .int (nI i))] [.int (xs (nI i + 2 : Int32).toNatClampNeg), .int (xs (nI i + 1 : Int32).toNatClampNeg), .ref 150] M1 kr
  refine Wf.sCv (as := [.int (xs (nI i + 1 : Int32).toNatClampNeg), .int (xs (nI i + 2 : Int32).toNatClampNeg)]) (rest := []) (tkL_26 (d := 19)) rfl rfl (kk_ok hq8.iv rfl) rfl ?_
  refine p7_way 7 hq8.li (fun x13 M10 hl18 e12 k14 => ?_)
  have hq17 := LX_k hq8 hl18 e12 k14 (by decide +kernel)
  have c15 : mC M10 ≤ mC M + 1 := by rw [mC_1 e12]; exact c6
  have s16 : mS M10 ≤ mS M + 6 := by rw [mS_1 e12]; exact s7
  show Wf l (n, xs) uL 20 false (1000, 10000) 1087 [(0, .ref 4999), (1, .ref 1), (2, .ref 150), (3, .ref 167), (4, .int (nI i))] [.int x13] M10 kr
  refine Wf.sPop (tkL_26 (d := 19)) rfl rfl ?_
  refine Wf.sGo (tkL_26 (d := 19)) rfl ?_
  show Wf l (n, xs) uL 20 false (1000, 10000) 1885 [(0, .ref 4999), (1, .ref 1), (2, .ref 150), (3, .ref 167), (4, .int (nI i))] [] M10 kr
  exact h M10 hq17 c15 s16
set_option maxRecDepth 20000 in
theorem lawc_27 (hi : i + 6 ≤ n) (hn : n ≤ 3072) (hL0 : LX M) (h : ∀ M', LX M' → mC M' ≤ mC M + 1 → mS M' ≤ mS M + 6 → Wf l (n, xs) uL 20 false (1000, 10000) 1885 [(0, .ref 4999), (1, .ref 1), (2, .ref 150), (3, .ref 167), (4, .int (nI i))] [] M' kr) : Wf l (n, xs) uL 20 false (1000, 10000) 1091 [(0, .ref 4999), (1, .ref 1), (2, .ref 150), (3, .ref 167), (4, .int (nI i))] [] M kr := by
  have c00 : mC M ≤ mC M + 1 := Nat.le_succ _
  have s00 : mS M ≤ mS M + 6 := Nat.le_add_right _ _
  refine Wf.sAl (tkL_27 (d := 19)) rfl rfl rfl ?_
  refine Wf.sAl (tkL_27 (d := 19)) rfl rfl rfl ?_
  refine Wf.sIl (tkL_27 (d := 19)) rfl rfl ?_
  refine Wf.sIc (tkL_27 (d := 19)) rfl ?_
  refine Wf.s2 (tkL_27 (d := 19)) rfl ?_
  refine Wf.sScd (tkL_27 (d := 19)) rfl (vi1 hi hn) ?_
  show Wf l (n, xs) uL 20 false (1000, 10000) 1098 [(0, .ref 4999), (1, .ref 1), (2, .ref 150), (3, .ref 167), (4, .int (nI i))] [.int (xs (nI i + 1 : Int32).toNatClampNeg), .ref 1] M kr
  refine Wf.sAl (tkL_27 (d := 19)) rfl rfl rfl ?_
  refine Wf.sIl (tkL_27 (d := 19)) rfl rfl ?_
  refine Wf.sIc (tkL_27 (d := 19)) rfl ?_
  refine Wf.s2 (tkL_27 (d := 19)) rfl ?_
  refine Wf.sScd (tkL_27 (d := 19)) rfl (vi2 hi hn) ?_
  show Wf l (n, xs) uL 20 false (1000, 10000) 1104 [(0, .ref 4999), (1, .ref 1), (2, .ref 150), (3, .ref 167), (4, .int (nI i))] [.int (xs (nI i + 2 : Int32).toNatClampNeg), .int (xs (nI i + 1 : Int32).toNatClampNeg), .ref 1] M kr
  refine Wf.sAl (tkL_27 (d := 19)) rfl rfl rfl ?_
  refine Wf.sIl (tkL_27 (d := 19)) rfl rfl ?_
  refine Wf.sIc (tkL_27 (d := 19)) rfl ?_
  refine Wf.s2 (tkL_27 (d := 19)) rfl ?_
  refine Wf.sScd (tkL_27 (d := 19)) rfl (vi3 hi hn) ?_
  show Wf l (n, xs) uL 20 false (1000, 10000) 1110 [(0, .ref 4999), (1, .ref 1), (2, .ref 150), (3, .ref 167), (4, .int (nI i))] [.int (xs (nI i + 3 : Int32).toNatClampNeg), .int (xs (nI i + 2 : Int32).toNatClampNeg), .int (xs (nI i + 1 : Int32).toNatClampNeg), .ref 1] M kr
  refine Wf.sCv (as := [.int (xs (nI i + 1 : Int32).toNatClampNeg), .int (xs (nI i + 2 : Int32).toNatClampNeg), .int (xs (nI i + 3 : Int32).toNatClampNeg)]) (rest := []) (tkL_27 (d := 19)) rfl rfl (kk_ok hL0.iv rfl) rfl ?_
  refine p6_wayAt 7 hL0.li (fun x4 M1 hl9 e3 k5 => ?_)
  have hq8 := LX_k hL0 hl9 e3 k5 (by decide +kernel)
  have c6 : mC M1 ≤ mC M + 1 := by rw [mC_1 e3]; exact c00
  have s7 : mS M1 ≤ mS M + 6 := by rw [mS_1 e3]; exact s00
  show Wf l (n, xs) uL 20 false (1000, 10000) 1113 [(0, .ref 4999), (1, .ref 1), (2, .ref 150), (3, .ref 167), (4, .int (nI i))] [.int x4] M1 kr
  refine Wf.sPop (tkL_27 (d := 19)) rfl rfl ?_
  refine Wf.sAl (tkL_27 (d := 19)) rfl rfl rfl ?_
  refine Wf.sAl (tkL_27 (d := 19)) rfl rfl rfl ?_
  refine Wf.sIl (tkL_27 (d := 19)) rfl rfl ?_
  refine Wf.sIc (tkL_27 (d := 19)) rfl ?_
  refine Wf.s2 (tkL_27 (d := 19)) rfl ?_
  refine Wf.sScd (tkL_27 (d := 19)) rfl (vi1 hi hn) ?_
  show Wf l (n, xs) uL 20 false (1000, 10000) 1121 [(0, .ref 4999), (1, .ref 1), (2, .ref 150), (3, .ref 167), (4, .int (nI i))] [.int (xs (nI i + 1 : Int32).toNatClampNeg), .ref 150] M1 kr
  refine Wf.sAl (tkL_27 (d := 19)) rfl rfl rfl ?_
  refine Wf.sIl (tkL_27 (d := 19)) rfl rfl ?_
  refine Wf.sIc (tkL_27 (d := 19)) rfl ?_
  refine Wf.s2 (tkL_27 (d := 19)) rfl ?_
  refine Wf.sScd (tkL_27 (d := 19)) rfl (vi2 hi hn) ?_
  show Wf l (n, xs) uL 20 false (1000, 10000) 1127 [(0, .ref 4999), (1, .ref 1), (2, .ref 150), (3, .ref 167), (4, .int (nI i))] [.int (xs (nI i + 2 : Int32).toNatClampNeg), .int (xs (nI i + 1 : Int32).toNatClampNeg), .ref 150] M1 kr
  refine Wf.sAl (tkL_27 (d := 19)) rfl rfl rfl ?_
  refine Wf.sIl (tkL_27 (d := 19)) rfl rfl ?_
  refine Wf.sIc (tkL_27 (d := 19)) rfl ?_
  refine Wf.s2 (tkL_27 (d := 19)) rfl ?_
  refine Wf.sScd (tkL_27 (d := 19)) rfl (vi3 hi hn) ?_
  show Wf l (n, xs) uL 20 false (1000, 10000) 1133 [(0, .ref 4999), (1, .ref 1), (2, .ref 150), (3, .ref 167), (4, .int (nI i))] [.int (xs (nI i + 3 : Int32).toNatClampNeg), .int (xs (nI i + 2 : Int32).toNatClampNeg), .int (xs (nI i + 1 : Int32).toNatClampNeg), .ref 150] M1 kr
  refine Wf.sCv (as := [.int (xs (nI i + 1 : Int32).toNatClampNeg), .int (xs (nI i + 2 : Int32).toNatClampNeg), .int (xs (nI i + 3 : Int32).toNatClampNeg)]) (rest := []) (tkL_27 (d := 19)) rfl rfl (kk_ok hq8.iv rfl) rfl ?_
  refine p7_wayAt 7 hq8.li (fun x13 M10 hl18 e12 k14 => ?_)
  have hq17 := LX_k hq8 hl18 e12 k14 (by decide +kernel)
  have c15 : mC M10 ≤ mC M + 1 := by rw [mC_1 e12]; exact c6
  have s16 : mS M10 ≤ mS M + 6 := by rw [mS_1 e12]; exact s7
  show Wf l (n, xs) uL 20 false (1000, 10000) 1136 [(0, .ref 4999), (1, .ref 1), (2, .ref 150), (3, .ref 167), (4, .int (nI i))] [.int x13] M10 kr
  refine Wf.sPop (tkL_27 (d := 19)) rfl rfl ?_
  refine Wf.sGo (tkL_27 (d := 19)) rfl ?_
  show Wf l (n, xs) uL 20 false (1000, 10000) 1885 [(0, .ref 4999), (1, .ref 1), (2, .ref 150), (3, .ref 167), (4, .int (nI i))] [] M10 kr
  exact h M10 hq17 c15 s16
set_option maxRecDepth 20000 in
theorem lawc_28 (hi : i + 6 ≤ n) (hn : n ≤ 3072) (hL0 : LX M) (h : ∀ M', LX M' → mC M' ≤ mC M + 1 → mS M' ≤ mS M + 6 → Wf l (n, xs) uL 20 false (1000, 10000) 1885 [(0, .ref 4999), (1, .ref 1), (2, .ref 150), (3, .ref 167), (4, .int (nI i))] [] M' kr) : Wf l (n, xs) uL 20 false (1000, 10000) 1140 [(0, .ref 4999), (1, .ref 1), (2, .ref 150), (3, .ref 167), (4, .int (nI i))] [] M kr := by
  have c00 : mC M ≤ mC M + 1 := Nat.le_succ _
  have s00 : mS M ≤ mS M + 6 := Nat.le_add_right _ _
  refine Wf.sAl (tkL_28 (d := 19)) rfl rfl rfl ?_
  refine Wf.sAl (tkL_28 (d := 19)) rfl rfl rfl ?_
  refine Wf.sIl (tkL_28 (d := 19)) rfl rfl ?_
  refine Wf.sIc (tkL_28 (d := 19)) rfl ?_
  refine Wf.s2 (tkL_28 (d := 19)) rfl ?_
  refine Wf.sScd (tkL_28 (d := 19)) rfl (vi1 hi hn) ?_
  show Wf l (n, xs) uL 20 false (1000, 10000) 1147 [(0, .ref 4999), (1, .ref 1), (2, .ref 150), (3, .ref 167), (4, .int (nI i))] [.int (xs (nI i + 1 : Int32).toNatClampNeg), .ref 1] M kr
  refine Wf.sCv (as := [.int (xs (nI i + 1 : Int32).toNatClampNeg)]) (rest := []) (tkL_28 (d := 19)) rfl rfl (kk_ok hL0.iv rfl) rfl ?_
  refine p6_dryDay 7 hL0.li (fun x4 M1 hl9 e3 k5 => ?_)
  have hq8 := LX_k hL0 hl9 e3 k5 (by decide +kernel)
  have c6 : mC M1 ≤ mC M + 1 := by rw [mC_1 e3]; exact c00
  have s7 : mS M1 ≤ mS M + 6 := by rw [mS_1 e3]; exact s00
  show Wf l (n, xs) uL 20 false (1000, 10000) 1150 [(0, .ref 4999), (1, .ref 1), (2, .ref 150), (3, .ref 167), (4, .int (nI i))] [.int x4] M1 kr
  refine Wf.sPop (tkL_28 (d := 19)) rfl rfl ?_
  refine Wf.sAl (tkL_28 (d := 19)) rfl rfl rfl ?_
  refine Wf.sAl (tkL_28 (d := 19)) rfl rfl rfl ?_
  refine Wf.sIl (tkL_28 (d := 19)) rfl rfl ?_
  refine Wf.sIc (tkL_28 (d := 19)) rfl ?_
  refine Wf.s2 (tkL_28 (d := 19)) rfl ?_
  refine Wf.sScd (tkL_28 (d := 19)) rfl (vi1 hi hn) ?_
  show Wf l (n, xs) uL 20 false (1000, 10000) 1158 [(0, .ref 4999), (1, .ref 1), (2, .ref 150), (3, .ref 167), (4, .int (nI i))] [.int (xs (nI i + 1 : Int32).toNatClampNeg), .ref 150] M1 kr
  refine Wf.sCv (as := [.int (xs (nI i + 1 : Int32).toNatClampNeg)]) (rest := []) (tkL_28 (d := 19)) rfl rfl (kk_ok hq8.iv rfl) rfl ?_
  refine p7_dryDay 7 hq8.li (fun x13 M10 hl18 e12 k14 => ?_)
  have hq17 := LX_k hq8 hl18 e12 k14 (by decide +kernel)
  have c15 : mC M10 ≤ mC M + 1 := by rw [mC_1 e12]; exact c6
  have s16 : mS M10 ≤ mS M + 6 := by rw [mS_1 e12]; exact s7
  show Wf l (n, xs) uL 20 false (1000, 10000) 1161 [(0, .ref 4999), (1, .ref 1), (2, .ref 150), (3, .ref 167), (4, .int (nI i))] [.int x13] M10 kr
  refine Wf.sPop (tkL_28 (d := 19)) rfl rfl ?_
  refine Wf.sGo (tkL_28 (d := 19)) rfl ?_
  show Wf l (n, xs) uL 20 false (1000, 10000) 1885 [(0, .ref 4999), (1, .ref 1), (2, .ref 150), (3, .ref 167), (4, .int (nI i))] [] M10 kr
  exact h M10 hq17 c15 s16
set_option maxRecDepth 20000 in
theorem lawc_29 (hi : i + 6 ≤ n) (hn : n ≤ 3072) (hL0 : LX M) (h : ∀ M', LX M' → mC M' ≤ mC M + 1 → mS M' ≤ mS M + 6 → Wf l (n, xs) uL 20 false (1000, 10000) 1885 [(0, .ref 4999), (1, .ref 1), (2, .ref 150), (3, .ref 167), (4, .int (nI i))] [] M' kr) : Wf l (n, xs) uL 20 false (1000, 10000) 1165 [(0, .ref 4999), (1, .ref 1), (2, .ref 150), (3, .ref 167), (4, .int (nI i))] [] M kr := by
  have c00 : mC M ≤ mC M + 1 := Nat.le_succ _
  have s00 : mS M ≤ mS M + 6 := Nat.le_add_right _ _
  refine Wf.sAl (tkL_29 (d := 19)) rfl rfl rfl ?_
  refine Wf.sCv (as := []) (rest := []) (tkL_29 (d := 19)) rfl rfl (kk_ok hL0.iv rfl) rfl ?_
  refine p6_gate 7 hL0.li (fun x4 M1 hl9 e3 k5 => ?_)
  have hq8 := LX_k hL0 hl9 e3 k5 (by decide +kernel)
  have c6 : mC M1 ≤ mC M + 1 := by rw [mC_1 e3]; exact c00
  have s7 : mS M1 ≤ mS M + 6 := by rw [mS_1 e3]; exact s00
  show Wf l (n, xs) uL 20 false (1000, 10000) 1169 [(0, .ref 4999), (1, .ref 1), (2, .ref 150), (3, .ref 167), (4, .int (nI i))] [.int x4] M1 kr
  refine Wf.sPop (tkL_29 (d := 19)) rfl rfl ?_
  refine Wf.sAl (tkL_29 (d := 19)) rfl rfl rfl ?_
  refine Wf.sCv (as := []) (rest := []) (tkL_29 (d := 19)) rfl rfl (kk_ok hq8.iv rfl) rfl ?_
  refine p7_gate 7 hq8.li (fun x13 M10 hl18 e12 k14 => ?_)
  have hq17 := LX_k hq8 hl18 e12 k14 (by decide +kernel)
  have c15 : mC M10 ≤ mC M + 1 := by rw [mC_1 e12]; exact c6
  have s16 : mS M10 ≤ mS M + 6 := by rw [mS_1 e12]; exact s7
  show Wf l (n, xs) uL 20 false (1000, 10000) 1174 [(0, .ref 4999), (1, .ref 1), (2, .ref 150), (3, .ref 167), (4, .int (nI i))] [.int x13] M10 kr
  refine Wf.sPop (tkL_29 (d := 19)) rfl rfl ?_
  refine Wf.sGo (tkL_29 (d := 19)) rfl ?_
  show Wf l (n, xs) uL 20 false (1000, 10000) 1885 [(0, .ref 4999), (1, .ref 1), (2, .ref 150), (3, .ref 167), (4, .int (nI i))] [] M10 kr
  exact h M10 hq17 c15 s16
set_option maxRecDepth 20000 in
theorem lawc_30 (hi : i + 6 ≤ n) (hn : n ≤ 3072) (hL0 : LX M) (h : ∀ M', LX M' → mC M' ≤ mC M + 1 → mS M' ≤ mS M + 6 → Wf l (n, xs) uL 20 false (1000, 10000) 1885 [(0, .ref 4999), (1, .ref 1), (2, .ref 150), (3, .ref 167), (4, .int (nI i))] [] M' kr) : Wf l (n, xs) uL 20 false (1000, 10000) 1178 [(0, .ref 4999), (1, .ref 1), (2, .ref 150), (3, .ref 167), (4, .int (nI i))] [] M kr := by
  have c00 : mC M ≤ mC M + 1 := Nat.le_succ _
  have s00 : mS M ≤ mS M + 6 := Nat.le_add_right _ _
  refine Wf.sAl (tkL_30 (d := 19)) rfl rfl rfl ?_
  refine Wf.sCv (as := []) (rest := []) (tkL_30 (d := 19)) rfl rfl (kk_ok hL0.iv rfl) rfl ?_
  refine p6_fits 7 hL0.li (fun x4 M1 hl9 e3 k5 => ?_)
  have hq8 := LX_k hL0 hl9 e3 k5 (by decide +kernel)
  have c6 : mC M1 ≤ mC M + 1 := by rw [mC_1 e3]; exact c00
  have s7 : mS M1 ≤ mS M + 6 := by rw [mS_1 e3]; exact s00
  show Wf l (n, xs) uL 20 false (1000, 10000) 1182 [(0, .ref 4999), (1, .ref 1), (2, .ref 150), (3, .ref 167), (4, .int (nI i))] [.int x4] M1 kr
  refine Wf.sPop (tkL_30 (d := 19)) rfl rfl ?_
  refine Wf.sAl (tkL_30 (d := 19)) rfl rfl rfl ?_
  refine Wf.sCv (as := []) (rest := []) (tkL_30 (d := 19)) rfl rfl (kk_ok hq8.iv rfl) rfl ?_
  refine p7_fits 7 hq8.li (fun x13 M10 hl18 e12 k14 => ?_)
  have hq17 := LX_k hq8 hl18 e12 k14 (by decide +kernel)
  have c15 : mC M10 ≤ mC M + 1 := by rw [mC_1 e12]; exact c6
  have s16 : mS M10 ≤ mS M + 6 := by rw [mS_1 e12]; exact s7
  show Wf l (n, xs) uL 20 false (1000, 10000) 1187 [(0, .ref 4999), (1, .ref 1), (2, .ref 150), (3, .ref 167), (4, .int (nI i))] [.int x13] M10 kr
  refine Wf.sPop (tkL_30 (d := 19)) rfl rfl ?_
  refine Wf.sGo (tkL_30 (d := 19)) rfl ?_
  show Wf l (n, xs) uL 20 false (1000, 10000) 1885 [(0, .ref 4999), (1, .ref 1), (2, .ref 150), (3, .ref 167), (4, .int (nI i))] [] M10 kr
  exact h M10 hq17 c15 s16
set_option maxRecDepth 20000 in
theorem lawc_31 (hi : i + 6 ≤ n) (hn : n ≤ 3072) (hL0 : LX M) (h : ∀ M', LX M' → mC M' ≤ mC M + 1 → mS M' ≤ mS M + 6 → Wf l (n, xs) uL 20 false (1000, 10000) 1885 [(0, .ref 4999), (1, .ref 1), (2, .ref 150), (3, .ref 167), (4, .int (nI i))] [] M' kr) : Wf l (n, xs) uL 20 false (1000, 10000) 1191 [(0, .ref 4999), (1, .ref 1), (2, .ref 150), (3, .ref 167), (4, .int (nI i))] [] M kr := by
  have c00 : mC M ≤ mC M + 1 := Nat.le_succ _
  have s00 : mS M ≤ mS M + 6 := Nat.le_add_right _ _
  refine Wf.sAl (tkL_31 (d := 19)) rfl rfl rfl ?_
  refine Wf.sAl (tkL_31 (d := 19)) rfl rfl rfl ?_
  refine Wf.sIl (tkL_31 (d := 19)) rfl rfl ?_
  refine Wf.sIc (tkL_31 (d := 19)) rfl ?_
  refine Wf.s2 (tkL_31 (d := 19)) rfl ?_
  refine Wf.sScd (tkL_31 (d := 19)) rfl (vi1 hi hn) ?_
  show Wf l (n, xs) uL 20 false (1000, 10000) 1198 [(0, .ref 4999), (1, .ref 1), (2, .ref 150), (3, .ref 167), (4, .int (nI i))] [.int (xs (nI i + 1 : Int32).toNatClampNeg), .ref 1] M kr
  refine Wf.sCv (as := [.int (xs (nI i + 1 : Int32).toNatClampNeg)]) (rest := []) (tkL_31 (d := 19)) rfl rfl (kk_ok hL0.iv rfl) rfl ?_
  refine p6_fitAt 7 hL0.li (fun x4 M1 hl9 e3 k5 => ?_)
  have hq8 := LX_k hL0 hl9 e3 k5 (by decide +kernel)
  have c6 : mC M1 ≤ mC M + 1 := by rw [mC_1 e3]; exact c00
  have s7 : mS M1 ≤ mS M + 6 := by rw [mS_1 e3]; exact s00
  show Wf l (n, xs) uL 20 false (1000, 10000) 1201 [(0, .ref 4999), (1, .ref 1), (2, .ref 150), (3, .ref 167), (4, .int (nI i))] [.int x4] M1 kr
  refine Wf.sPop (tkL_31 (d := 19)) rfl rfl ?_
  refine Wf.sAl (tkL_31 (d := 19)) rfl rfl rfl ?_
  refine Wf.sAl (tkL_31 (d := 19)) rfl rfl rfl ?_
  refine Wf.sIl (tkL_31 (d := 19)) rfl rfl ?_
  refine Wf.sIc (tkL_31 (d := 19)) rfl ?_
  refine Wf.s2 (tkL_31 (d := 19)) rfl ?_
  refine Wf.sScd (tkL_31 (d := 19)) rfl (vi1 hi hn) ?_
  show Wf l (n, xs) uL 20 false (1000, 10000) 1209 [(0, .ref 4999), (1, .ref 1), (2, .ref 150), (3, .ref 167), (4, .int (nI i))] [.int (xs (nI i + 1 : Int32).toNatClampNeg), .ref 150] M1 kr
  refine Wf.sCv (as := [.int (xs (nI i + 1 : Int32).toNatClampNeg)]) (rest := []) (tkL_31 (d := 19)) rfl rfl (kk_ok hq8.iv rfl) rfl ?_
  refine p7_fitAt 7 hq8.li (fun x13 M10 hl18 e12 k14 => ?_)
  have hq17 := LX_k hq8 hl18 e12 k14 (by decide +kernel)
  have c15 : mC M10 ≤ mC M + 1 := by rw [mC_1 e12]; exact c6
  have s16 : mS M10 ≤ mS M + 6 := by rw [mS_1 e12]; exact s7
  show Wf l (n, xs) uL 20 false (1000, 10000) 1212 [(0, .ref 4999), (1, .ref 1), (2, .ref 150), (3, .ref 167), (4, .int (nI i))] [.int x13] M10 kr
  refine Wf.sPop (tkL_31 (d := 19)) rfl rfl ?_
  refine Wf.sGo (tkL_31 (d := 19)) rfl ?_
  show Wf l (n, xs) uL 20 false (1000, 10000) 1885 [(0, .ref 4999), (1, .ref 1), (2, .ref 150), (3, .ref 167), (4, .int (nI i))] [] M10 kr
  exact h M10 hq17 c15 s16
end LAWC
end
section
/-! the law's cases over its states -/
section LAWC
variable {l : Launch} {xs : Nat → Int32} {kr : KR} {i n : Nat} {M : Mm}
set_option maxRecDepth 20000 in
theorem lawc_32 (hi : i + 6 ≤ n) (hn : n ≤ 3072) (hL0 : LX M) (h : ∀ M', LX M' → mC M' ≤ mC M + 1 → mS M' ≤ mS M + 6 → Wf l (n, xs) uL 20 false (1000, 10000) 1885 [(0, .ref 4999), (1, .ref 1), (2, .ref 150), (3, .ref 167), (4, .int (nI i))] [] M' kr) : Wf l (n, xs) uL 20 false (1000, 10000) 1216 [(0, .ref 4999), (1, .ref 1), (2, .ref 150), (3, .ref 167), (4, .int (nI i))] [] M kr := by
  have c00 : mC M ≤ mC M + 1 := Nat.le_succ _
  have s00 : mS M ≤ mS M + 6 := Nat.le_add_right _ _
  refine Wf.sAl (tkL_32 (d := 19)) rfl rfl rfl ?_
  refine Wf.sCv (as := []) (rest := []) (tkL_32 (d := 19)) rfl rfl (kk_ok hL0.iv rfl) rfl ?_
  refine p6_could 7 hL0.li (fun x4 M1 hl9 e3 k5 => ?_)
  have hq8 := LX_k hL0 hl9 e3 k5 (by decide +kernel)
  have c6 : mC M1 ≤ mC M + 1 := by rw [mC_1 e3]; exact c00
  have s7 : mS M1 ≤ mS M + 6 := by rw [mS_1 e3]; exact s00
  show Wf l (n, xs) uL 20 false (1000, 10000) 1220 [(0, .ref 4999), (1, .ref 1), (2, .ref 150), (3, .ref 167), (4, .int (nI i))] [.int x4] M1 kr
  refine Wf.sPop (tkL_32 (d := 19)) rfl rfl ?_
  refine Wf.sAl (tkL_32 (d := 19)) rfl rfl rfl ?_
  refine Wf.sCv (as := []) (rest := []) (tkL_32 (d := 19)) rfl rfl (kk_ok hq8.iv rfl) rfl ?_
  refine p7_could 7 hq8.li (fun x13 M10 hl18 e12 k14 => ?_)
  have hq17 := LX_k hq8 hl18 e12 k14 (by decide +kernel)
  have c15 : mC M10 ≤ mC M + 1 := by rw [mC_1 e12]; exact c6
  have s16 : mS M10 ≤ mS M + 6 := by rw [mS_1 e12]; exact s7
  show Wf l (n, xs) uL 20 false (1000, 10000) 1225 [(0, .ref 4999), (1, .ref 1), (2, .ref 150), (3, .ref 167), (4, .int (nI i))] [.int x13] M10 kr
  refine Wf.sPop (tkL_32 (d := 19)) rfl rfl ?_
  refine Wf.sGo (tkL_32 (d := 19)) rfl ?_
  show Wf l (n, xs) uL 20 false (1000, 10000) 1885 [(0, .ref 4999), (1, .ref 1), (2, .ref 150), (3, .ref 167), (4, .int (nI i))] [] M10 kr
  exact h M10 hq17 c15 s16
set_option maxRecDepth 20000 in
theorem lawc_33 (hi : i + 6 ≤ n) (hn : n ≤ 3072) (hL0 : LX M) (h : ∀ M', LX M' → mC M' ≤ mC M + 1 → mS M' ≤ mS M + 6 → Wf l (n, xs) uL 20 false (1000, 10000) 1885 [(0, .ref 4999), (1, .ref 1), (2, .ref 150), (3, .ref 167), (4, .int (nI i))] [] M' kr) : Wf l (n, xs) uL 20 false (1000, 10000) 1229 [(0, .ref 4999), (1, .ref 1), (2, .ref 150), (3, .ref 167), (4, .int (nI i))] [] M kr := by
  have c00 : mC M ≤ mC M + 1 := Nat.le_succ _
  have s00 : mS M ≤ mS M + 6 := Nat.le_add_right _ _
  refine Wf.sAl (tkL_33 (d := 19)) rfl rfl rfl ?_
  refine Wf.sCv (as := []) (rest := []) (tkL_33 (d := 19)) rfl rfl (kk_ok hL0.iv rfl) rfl ?_
  refine p6_surely 7 hL0.li (fun x4 M1 hl9 e3 k5 => ?_)
  have hq8 := LX_k hL0 hl9 e3 k5 (by decide +kernel)
  have c6 : mC M1 ≤ mC M + 1 := by rw [mC_1 e3]; exact c00
  have s7 : mS M1 ≤ mS M + 6 := by rw [mS_1 e3]; exact s00
  show Wf l (n, xs) uL 20 false (1000, 10000) 1233 [(0, .ref 4999), (1, .ref 1), (2, .ref 150), (3, .ref 167), (4, .int (nI i))] [.int x4] M1 kr
  refine Wf.sPop (tkL_33 (d := 19)) rfl rfl ?_
  refine Wf.sAl (tkL_33 (d := 19)) rfl rfl rfl ?_
  refine Wf.sCv (as := []) (rest := []) (tkL_33 (d := 19)) rfl rfl (kk_ok hq8.iv rfl) rfl ?_
  refine p7_surely 7 hq8.li (fun x13 M10 hl18 e12 k14 => ?_)
  have hq17 := LX_k hq8 hl18 e12 k14 (by decide +kernel)
  have c15 : mC M10 ≤ mC M + 1 := by rw [mC_1 e12]; exact c6
  have s16 : mS M10 ≤ mS M + 6 := by rw [mS_1 e12]; exact s7
  show Wf l (n, xs) uL 20 false (1000, 10000) 1238 [(0, .ref 4999), (1, .ref 1), (2, .ref 150), (3, .ref 167), (4, .int (nI i))] [.int x13] M10 kr
  refine Wf.sPop (tkL_33 (d := 19)) rfl rfl ?_
  refine Wf.sGo (tkL_33 (d := 19)) rfl ?_
  show Wf l (n, xs) uL 20 false (1000, 10000) 1885 [(0, .ref 4999), (1, .ref 1), (2, .ref 150), (3, .ref 167), (4, .int (nI i))] [] M10 kr
  exact h M10 hq17 c15 s16
set_option maxRecDepth 20000 in
theorem lawc_34 (hi : i + 6 ≤ n) (hn : n ≤ 3072) (hL0 : LX M) (h : ∀ M', LX M' → mC M' ≤ mC M + 1 → mS M' ≤ mS M + 6 → Wf l (n, xs) uL 20 false (1000, 10000) 1885 [(0, .ref 4999), (1, .ref 1), (2, .ref 150), (3, .ref 167), (4, .int (nI i))] [] M' kr) : Wf l (n, xs) uL 20 false (1000, 10000) 1242 [(0, .ref 4999), (1, .ref 1), (2, .ref 150), (3, .ref 167), (4, .int (nI i))] [] M kr := by
  have c00 : mC M ≤ mC M + 1 := Nat.le_succ _
  have s00 : mS M ≤ mS M + 6 := Nat.le_add_right _ _
  refine Wf.sAl (tkL_34 (d := 19)) rfl rfl rfl ?_
  refine Wf.sCv (as := []) (rest := []) (tkL_34 (d := 19)) rfl rfl (kk_ok hL0.iv rfl) rfl ?_
  refine p6_ask 7 hL0.li (fun x4 M1 hl9 e3 k5 => ?_)
  have hq8 := LX_k hL0 hl9 e3 k5 (by decide +kernel)
  have c6 : mC M1 ≤ mC M + 1 := by rw [mC_1 e3]; exact c00
  have s7 : mS M1 ≤ mS M + 6 := by rw [mS_1 e3]; exact s00
  show Wf l (n, xs) uL 20 false (1000, 10000) 1246 [(0, .ref 4999), (1, .ref 1), (2, .ref 150), (3, .ref 167), (4, .int (nI i))] [.int x4] M1 kr
  refine Wf.sPop (tkL_34 (d := 19)) rfl rfl ?_
  refine Wf.sAl (tkL_34 (d := 19)) rfl rfl rfl ?_
  refine Wf.sCv (as := []) (rest := []) (tkL_34 (d := 19)) rfl rfl (kk_ok hq8.iv rfl) rfl ?_
  refine p7_ask 7 hq8.li (fun x13 M10 hl18 e12 k14 => ?_)
  have hq17 := LX_k hq8 hl18 e12 k14 (by decide +kernel)
  have c15 : mC M10 ≤ mC M + 1 := by rw [mC_1 e12]; exact c6
  have s16 : mS M10 ≤ mS M + 6 := by rw [mS_1 e12]; exact s7
  show Wf l (n, xs) uL 20 false (1000, 10000) 1251 [(0, .ref 4999), (1, .ref 1), (2, .ref 150), (3, .ref 167), (4, .int (nI i))] [.int x13] M10 kr
  refine Wf.sPop (tkL_34 (d := 19)) rfl rfl ?_
  refine Wf.sGo (tkL_34 (d := 19)) rfl ?_
  show Wf l (n, xs) uL 20 false (1000, 10000) 1885 [(0, .ref 4999), (1, .ref 1), (2, .ref 150), (3, .ref 167), (4, .int (nI i))] [] M10 kr
  exact h M10 hq17 c15 s16
set_option maxRecDepth 20000 in
theorem lawc_35 (hi : i + 6 ≤ n) (hn : n ≤ 3072) (hL0 : LX M) (h : ∀ M', LX M' → mC M' ≤ mC M + 1 → mS M' ≤ mS M + 6 → Wf l (n, xs) uL 20 false (1000, 10000) 1885 [(0, .ref 4999), (1, .ref 1), (2, .ref 150), (3, .ref 167), (4, .int (nI i))] [] M' kr) : Wf l (n, xs) uL 20 false (1000, 10000) 1255 [(0, .ref 4999), (1, .ref 1), (2, .ref 150), (3, .ref 167), (4, .int (nI i))] [] M kr := by
  have c00 : mC M ≤ mC M + 1 := Nat.le_succ _
  have s00 : mS M ≤ mS M + 6 := Nat.le_add_right _ _
  refine Wf.sAl (tkL_35 (d := 19)) rfl rfl rfl ?_
  refine Wf.sCv (as := []) (rest := []) (tkL_35 (d := 19)) rfl rfl (kk_ok hL0.iv rfl) rfl ?_
  refine p6_askLeaves 7 hL0.li (fun x4 M1 hl9 e3 k5 => ?_)
  have hq8 := LX_k hL0 hl9 e3 k5 (by decide +kernel)
  have c6 : mC M1 ≤ mC M + 1 := by rw [mC_1 e3]; exact c00
  have s7 : mS M1 ≤ mS M + 6 := by rw [mS_1 e3]; exact s00
  show Wf l (n, xs) uL 20 false (1000, 10000) 1259 [(0, .ref 4999), (1, .ref 1), (2, .ref 150), (3, .ref 167), (4, .int (nI i))] [.int x4] M1 kr
  refine Wf.sPop (tkL_35 (d := 19)) rfl rfl ?_
  refine Wf.sAl (tkL_35 (d := 19)) rfl rfl rfl ?_
  refine Wf.sCv (as := []) (rest := []) (tkL_35 (d := 19)) rfl rfl (kk_ok hq8.iv rfl) rfl ?_
  refine p7_askLeaves 7 hq8.li (fun x13 M10 hl18 e12 k14 => ?_)
  have hq17 := LX_k hq8 hl18 e12 k14 (by decide +kernel)
  have c15 : mC M10 ≤ mC M + 1 := by rw [mC_1 e12]; exact c6
  have s16 : mS M10 ≤ mS M + 6 := by rw [mS_1 e12]; exact s7
  show Wf l (n, xs) uL 20 false (1000, 10000) 1264 [(0, .ref 4999), (1, .ref 1), (2, .ref 150), (3, .ref 167), (4, .int (nI i))] [.int x13] M10 kr
  refine Wf.sPop (tkL_35 (d := 19)) rfl rfl ?_
  refine Wf.sGo (tkL_35 (d := 19)) rfl ?_
  show Wf l (n, xs) uL 20 false (1000, 10000) 1885 [(0, .ref 4999), (1, .ref 1), (2, .ref 150), (3, .ref 167), (4, .int (nI i))] [] M10 kr
  exact h M10 hq17 c15 s16
set_option maxRecDepth 20000 in
theorem lawc_36 (hi : i + 6 ≤ n) (hn : n ≤ 3072) (hL0 : LX M) (h : ∀ M', LX M' → mC M' ≤ mC M + 1 → mS M' ≤ mS M + 6 → Wf l (n, xs) uL 20 false (1000, 10000) 1885 [(0, .ref 4999), (1, .ref 1), (2, .ref 150), (3, .ref 167), (4, .int (nI i))] [] M' kr) : Wf l (n, xs) uL 20 false (1000, 10000) 1268 [(0, .ref 4999), (1, .ref 1), (2, .ref 150), (3, .ref 167), (4, .int (nI i))] [] M kr := by
  have c00 : mC M ≤ mC M + 1 := Nat.le_succ _
  have s00 : mS M ≤ mS M + 6 := Nat.le_add_right _ _
  obtain ⟨o, hv0⟩ := hL0.2
  refine Wf.sAl (tkL_36 (d := 19)) rfl rfl rfl ?_
  refine Wf.sCv (as := []) (rest := []) (tkL_36 (d := 19)) rfl rfl (kk_ok hL0.iv rfl) rfl ?_
  refine j6_judge 7 hL0 hv0 (fun M1 hq8 e3 hv10 => ?_)
  have c6 : mC M1 ≤ mC M + 1 := by rw [mC_1 e3]; exact c00
  have s7 : mS M1 ≤ mS M + 6 := by rw [mS_1 e3]; exact s00
  show Wf l (n, xs) uL 20 false (1000, 10000) 1272 [(0, .ref 4999), (1, .ref 1), (2, .ref 150), (3, .ref 167), (4, .int (nI i))] [.int (lfq qJudge (-1) o)] M1 kr
  refine Wf.sAl (tkL_36 (d := 19)) rfl rfl rfl ?_
  refine Wf.sCv (as := []) (rest := [.int (lfq qJudge (-1) o)]) (tkL_36 (d := 19)) rfl rfl (kk_ok hq8.iv rfl) rfl ?_
  refine j7_judge 7 hq8 hv10 (fun M11 hq18 e13 hv20 => ?_)
  have c16 : mC M11 ≤ mC M + 1 := by rw [mC_1 e13]; exact c6
  have s17 : mS M11 ≤ mS M + 6 := by rw [mS_1 e13]; exact s7
  show Wf l (n, xs) uL 20 false (1000, 10000) 1276 [(0, .ref 4999), (1, .ref 1), (2, .ref 150), (3, .ref 167), (4, .int (nI i))] [.int (lfq qJudge (-1) o), .int (lfq qJudge (-1) o)] M11 kr
  refine Wf.sCm (tkL_36 (d := 19)) rfl (fun _ => ?_) (fun z => absurd rfl z)
  show Wf l (n, xs) uL 20 false (1000, 10000) 1885 [(0, .ref 4999), (1, .ref 1), (2, .ref 150), (3, .ref 167), (4, .int (nI i))] [] M11 kr
  exact h M11 hq18 c16 s17
set_option maxRecDepth 20000 in
theorem lawc_37 (hi : i + 6 ≤ n) (hn : n ≤ 3072) (hL0 : LX M) (h : ∀ M', LX M' → mC M' ≤ mC M + 1 → mS M' ≤ mS M + 6 → Wf l (n, xs) uL 20 false (1000, 10000) 1885 [(0, .ref 4999), (1, .ref 1), (2, .ref 150), (3, .ref 167), (4, .int (nI i))] [] M' kr) : Wf l (n, xs) uL 20 false (1000, 10000) 1281 [(0, .ref 4999), (1, .ref 1), (2, .ref 150), (3, .ref 167), (4, .int (nI i))] [] M kr := by
  have c00 : mC M ≤ mC M + 1 := Nat.le_succ _
  have s00 : mS M ≤ mS M + 6 := Nat.le_add_right _ _
  refine Wf.sAl (tkL_37 (d := 19)) rfl rfl rfl ?_
  refine Wf.sAl (tkL_37 (d := 19)) rfl rfl rfl ?_
  refine Wf.sIl (tkL_37 (d := 19)) rfl rfl ?_
  refine Wf.sIc (tkL_37 (d := 19)) rfl ?_
  refine Wf.s2 (tkL_37 (d := 19)) rfl ?_
  refine Wf.sScd (tkL_37 (d := 19)) rfl (vi1 hi hn) ?_
  show Wf l (n, xs) uL 20 false (1000, 10000) 1288 [(0, .ref 4999), (1, .ref 1), (2, .ref 150), (3, .ref 167), (4, .int (nI i))] [.int (xs (nI i + 1 : Int32).toNatClampNeg), .ref 1] M kr
  refine Wf.sAl (tkL_37 (d := 19)) rfl rfl rfl ?_
  refine Wf.sIl (tkL_37 (d := 19)) rfl rfl ?_
  refine Wf.sIc (tkL_37 (d := 19)) rfl ?_
  refine Wf.s2 (tkL_37 (d := 19)) rfl ?_
  refine Wf.sScd (tkL_37 (d := 19)) rfl (vi2 hi hn) ?_
  show Wf l (n, xs) uL 20 false (1000, 10000) 1294 [(0, .ref 4999), (1, .ref 1), (2, .ref 150), (3, .ref 167), (4, .int (nI i))] [.int (xs (nI i + 2 : Int32).toNatClampNeg), .int (xs (nI i + 1 : Int32).toNatClampNeg), .ref 1] M kr
  have jn1 : Wf l (n, xs) uL 20 false (1000, 10000) 1302 [(0, .ref 4999), (1, .ref 1), (2, .ref 150), (3, .ref 167), (4, .int (nI i))] [.int (bz (xs (nI i + 2 : Int32).toNatClampNeg)), .int (xs (nI i + 1 : Int32).toNatClampNeg), .ref 1] M kr := by
    refine Wf.sAl (tkL_37 (d := 19)) rfl rfl rfl ?_
    refine Wf.sIl (tkL_37 (d := 19)) rfl rfl ?_
    refine Wf.sIc (tkL_37 (d := 19)) rfl ?_
    refine Wf.s2 (tkL_37 (d := 19)) rfl ?_
    refine Wf.sScd (tkL_37 (d := 19)) rfl (vi3 hi hn) ?_
    show Wf l (n, xs) uL 20 false (1000, 10000) 1308 [(0, .ref 4999), (1, .ref 1), (2, .ref 150), (3, .ref 167), (4, .int (nI i))] [.int (xs (nI i + 3 : Int32).toNatClampNeg), .int (bz (xs (nI i + 2 : Int32).toNatClampNeg)), .int (xs (nI i + 1 : Int32).toNatClampNeg), .ref 1] M kr
    have jn2 : Wf l (n, xs) uL 20 false (1000, 10000) 1316 [(0, .ref 4999), (1, .ref 1), (2, .ref 150), (3, .ref 167), (4, .int (nI i))] [.int (bz (xs (nI i + 3 : Int32).toNatClampNeg)), .int (bz (xs (nI i + 2 : Int32).toNatClampNeg)), .int (xs (nI i + 1 : Int32).toNatClampNeg), .ref 1] M kr := by
      refine Wf.sAl (tkL_37 (d := 19)) rfl rfl rfl ?_
      refine Wf.sIl (tkL_37 (d := 19)) rfl rfl ?_
      refine Wf.sIc (tkL_37 (d := 19)) rfl ?_
      refine Wf.s2 (tkL_37 (d := 19)) rfl ?_
      refine Wf.sScd (tkL_37 (d := 19)) rfl (vi4 hi hn) ?_
      show Wf l (n, xs) uL 20 false (1000, 10000) 1322 [(0, .ref 4999), (1, .ref 1), (2, .ref 150), (3, .ref 167), (4, .int (nI i))] [.int (xs (nI i + 4 : Int32).toNatClampNeg), .int (bz (xs (nI i + 3 : Int32).toNatClampNeg)), .int (bz (xs (nI i + 2 : Int32).toNatClampNeg)), .int (xs (nI i + 1 : Int32).toNatClampNeg), .ref 1] M kr
      have jn3 : Wf l (n, xs) uL 20 false (1000, 10000) 1330 [(0, .ref 4999), (1, .ref 1), (2, .ref 150), (3, .ref 167), (4, .int (nI i))] [.int (bz (xs (nI i + 4 : Int32).toNatClampNeg)), .int (bz (xs (nI i + 3 : Int32).toNatClampNeg)), .int (bz (xs (nI i + 2 : Int32).toNatClampNeg)), .int (xs (nI i + 1 : Int32).toNatClampNeg), .ref 1] M kr := by
        refine Wf.sCv (as := [.int (xs (nI i + 1 : Int32).toNatClampNeg), .int (bz (xs (nI i + 2 : Int32).toNatClampNeg)), .int (bz (xs (nI i + 3 : Int32).toNatClampNeg)), .int (bz (xs (nI i + 4 : Int32).toNatClampNeg))]) (rest := []) (tkL_37 (d := 19)) rfl rfl (kk_ok hL0.iv rfl) rfl ?_
        refine p6_sulks 7 hL0.li (fun x7 M4 hl12 e6 k8 => ?_)
        have hq11 := LX_k hL0 hl12 e6 k8 (by decide +kernel)
        have c9 : mC M4 ≤ mC M + 1 := by rw [mC_1 e6]; exact c00
        have s10 : mS M4 ≤ mS M + 6 := by rw [mS_1 e6]; exact s00
        show Wf l (n, xs) uL 20 false (1000, 10000) 1333 [(0, .ref 4999), (1, .ref 1), (2, .ref 150), (3, .ref 167), (4, .int (nI i))] [.int x7] M4 kr
        refine Wf.sPop (tkL_37 (d := 19)) rfl rfl ?_
        refine Wf.sAl (tkL_37 (d := 19)) rfl rfl rfl ?_
        refine Wf.sAl (tkL_37 (d := 19)) rfl rfl rfl ?_
        refine Wf.sIl (tkL_37 (d := 19)) rfl rfl ?_
        refine Wf.sIc (tkL_37 (d := 19)) rfl ?_
        refine Wf.s2 (tkL_37 (d := 19)) rfl ?_
        refine Wf.sScd (tkL_37 (d := 19)) rfl (vi1 hi hn) ?_
        show Wf l (n, xs) uL 20 false (1000, 10000) 1341 [(0, .ref 4999), (1, .ref 1), (2, .ref 150), (3, .ref 167), (4, .int (nI i))] [.int (xs (nI i + 1 : Int32).toNatClampNeg), .ref 150] M4 kr
        refine Wf.sAl (tkL_37 (d := 19)) rfl rfl rfl ?_
        refine Wf.sIl (tkL_37 (d := 19)) rfl rfl ?_
        refine Wf.sIc (tkL_37 (d := 19)) rfl ?_
        refine Wf.s2 (tkL_37 (d := 19)) rfl ?_
        refine Wf.sScd (tkL_37 (d := 19)) rfl (vi2 hi hn) ?_
        show Wf l (n, xs) uL 20 false (1000, 10000) 1347 [(0, .ref 4999), (1, .ref 1), (2, .ref 150), (3, .ref 167), (4, .int (nI i))] [.int (xs (nI i + 2 : Int32).toNatClampNeg), .int (xs (nI i + 1 : Int32).toNatClampNeg), .ref 150] M4 kr
        have jn13 : Wf l (n, xs) uL 20 false (1000, 10000) 1355 [(0, .ref 4999), (1, .ref 1), (2, .ref 150), (3, .ref 167), (4, .int (nI i))] [.int (bz (xs (nI i + 2 : Int32).toNatClampNeg)), .int (xs (nI i + 1 : Int32).toNatClampNeg), .ref 150] M4 kr := by
          refine Wf.sAl (tkL_37 (d := 19)) rfl rfl rfl ?_
          refine Wf.sIl (tkL_37 (d := 19)) rfl rfl ?_
          refine Wf.sIc (tkL_37 (d := 19)) rfl ?_
          refine Wf.s2 (tkL_37 (d := 19)) rfl ?_
          refine Wf.sScd (tkL_37 (d := 19)) rfl (vi3 hi hn) ?_
          show Wf l (n, xs) uL 20 false (1000, 10000) 1361 [(0, .ref 4999), (1, .ref 1), (2, .ref 150), (3, .ref 167), (4, .int (nI i))] [.int (xs (nI i + 3 : Int32).toNatClampNeg), .int (bz (xs (nI i + 2 : Int32).toNatClampNeg)), .int (xs (nI i + 1 : Int32).toNatClampNeg), .ref 150] M4 kr
          have jn14 : Wf l (n, xs) uL 20 false (1000, 10000) 1369 [(0, .ref 4999), (1, .ref 1), (2, .ref 150), (3, .ref 167), (4, .int (nI i))] [.int (bz (xs (nI i + 3 : Int32).toNatClampNeg)), .int (bz (xs (nI i + 2 : Int32).toNatClampNeg)), .int (xs (nI i + 1 : Int32).toNatClampNeg), .ref 150] M4 kr := by
            refine Wf.sAl (tkL_37 (d := 19)) rfl rfl rfl ?_
            refine Wf.sIl (tkL_37 (d := 19)) rfl rfl ?_
            refine Wf.sIc (tkL_37 (d := 19)) rfl ?_
            refine Wf.s2 (tkL_37 (d := 19)) rfl ?_
            refine Wf.sScd (tkL_37 (d := 19)) rfl (vi4 hi hn) ?_
            show Wf l (n, xs) uL 20 false (1000, 10000) 1375 [(0, .ref 4999), (1, .ref 1), (2, .ref 150), (3, .ref 167), (4, .int (nI i))] [.int (xs (nI i + 4 : Int32).toNatClampNeg), .int (bz (xs (nI i + 3 : Int32).toNatClampNeg)), .int (bz (xs (nI i + 2 : Int32).toNatClampNeg)), .int (xs (nI i + 1 : Int32).toNatClampNeg), .ref 150] M4 kr
            have jn15 : Wf l (n, xs) uL 20 false (1000, 10000) 1383 [(0, .ref 4999), (1, .ref 1), (2, .ref 150), (3, .ref 167), (4, .int (nI i))] [.int (bz (xs (nI i + 4 : Int32).toNatClampNeg)), .int (bz (xs (nI i + 3 : Int32).toNatClampNeg)), .int (bz (xs (nI i + 2 : Int32).toNatClampNeg)), .int (xs (nI i + 1 : Int32).toNatClampNeg), .ref 150] M4 kr := by
              refine Wf.sCv (as := [.int (xs (nI i + 1 : Int32).toNatClampNeg), .int (bz (xs (nI i + 2 : Int32).toNatClampNeg)), .int (bz (xs (nI i + 3 : Int32).toNatClampNeg)), .int (bz (xs (nI i + 4 : Int32).toNatClampNeg))]) (rest := []) (tkL_37 (d := 19)) rfl rfl (kk_ok hq11.iv rfl) rfl ?_
              refine p7_sulks 7 hq11.li (fun x19 M16 hl24 e18 k20 => ?_)
              have hq23 := LX_k hq11 hl24 e18 k20 (by decide +kernel)
              have c21 : mC M16 ≤ mC M + 1 := by rw [mC_1 e18]; exact c9
              have s22 : mS M16 ≤ mS M + 6 := by rw [mS_1 e18]; exact s10
              show Wf l (n, xs) uL 20 false (1000, 10000) 1386 [(0, .ref 4999), (1, .ref 1), (2, .ref 150), (3, .ref 167), (4, .int (nI i))] [.int x19] M16 kr
              refine Wf.sPop (tkL_37 (d := 19)) rfl rfl ?_
              refine Wf.sGo (tkL_37 (d := 19)) rfl ?_
              show Wf l (n, xs) uL 20 false (1000, 10000) 1885 [(0, .ref 4999), (1, .ref 1), (2, .ref 150), (3, .ref 167), (4, .int (nI i))] [] M16 kr
              exact h M16 hq23 c21 s22
            refine Wf.sIf (tkL_37 (d := 19)) rfl (fun z => ?_) (fun z => ?_)
            · have z : (xs (nI i + 4 : Int32).toNatClampNeg) = 0 := z
              refine Wf.sIc (tkL_37 (d := 19)) rfl ?_
              rw [bz_0 z] at jn15
              try rw [bz_0 z]
              exact jn15
            · have z : ¬ (xs (nI i + 4 : Int32).toNatClampNeg) = 0 := z
              refine Wf.sIc (tkL_37 (d := 19)) rfl ?_
              refine Wf.sGo (tkL_37 (d := 19)) rfl ?_
              rw [bz_1 z] at jn15
              try rw [bz_1 z]
              exact jn15
          refine Wf.sIf (tkL_37 (d := 19)) rfl (fun z => ?_) (fun z => ?_)
          · have z : (xs (nI i + 3 : Int32).toNatClampNeg) = 0 := z
            refine Wf.sIc (tkL_37 (d := 19)) rfl ?_
            rw [bz_0 z] at jn14
            try rw [bz_0 z]
            exact jn14
          · have z : ¬ (xs (nI i + 3 : Int32).toNatClampNeg) = 0 := z
            refine Wf.sIc (tkL_37 (d := 19)) rfl ?_
            refine Wf.sGo (tkL_37 (d := 19)) rfl ?_
            rw [bz_1 z] at jn14
            try rw [bz_1 z]
            exact jn14
        refine Wf.sIf (tkL_37 (d := 19)) rfl (fun z => ?_) (fun z => ?_)
        · have z : (xs (nI i + 2 : Int32).toNatClampNeg) = 0 := z
          refine Wf.sIc (tkL_37 (d := 19)) rfl ?_
          rw [bz_0 z] at jn13
          try rw [bz_0 z]
          exact jn13
        · have z : ¬ (xs (nI i + 2 : Int32).toNatClampNeg) = 0 := z
          refine Wf.sIc (tkL_37 (d := 19)) rfl ?_
          refine Wf.sGo (tkL_37 (d := 19)) rfl ?_
          rw [bz_1 z] at jn13
          try rw [bz_1 z]
          exact jn13
      refine Wf.sIf (tkL_37 (d := 19)) rfl (fun z => ?_) (fun z => ?_)
      · have z : (xs (nI i + 4 : Int32).toNatClampNeg) = 0 := z
        refine Wf.sIc (tkL_37 (d := 19)) rfl ?_
        rw [bz_0 z] at jn3
        try rw [bz_0 z]
        exact jn3
      · have z : ¬ (xs (nI i + 4 : Int32).toNatClampNeg) = 0 := z
        refine Wf.sIc (tkL_37 (d := 19)) rfl ?_
        refine Wf.sGo (tkL_37 (d := 19)) rfl ?_
        rw [bz_1 z] at jn3
        try rw [bz_1 z]
        exact jn3
    refine Wf.sIf (tkL_37 (d := 19)) rfl (fun z => ?_) (fun z => ?_)
    · have z : (xs (nI i + 3 : Int32).toNatClampNeg) = 0 := z
      refine Wf.sIc (tkL_37 (d := 19)) rfl ?_
      rw [bz_0 z] at jn2
      try rw [bz_0 z]
      exact jn2
    · have z : ¬ (xs (nI i + 3 : Int32).toNatClampNeg) = 0 := z
      refine Wf.sIc (tkL_37 (d := 19)) rfl ?_
      refine Wf.sGo (tkL_37 (d := 19)) rfl ?_
      rw [bz_1 z] at jn2
      try rw [bz_1 z]
      exact jn2
  refine Wf.sIf (tkL_37 (d := 19)) rfl (fun z => ?_) (fun z => ?_)
  · have z : (xs (nI i + 2 : Int32).toNatClampNeg) = 0 := z
    refine Wf.sIc (tkL_37 (d := 19)) rfl ?_
    rw [bz_0 z] at jn1
    try rw [bz_0 z]
    exact jn1
  · have z : ¬ (xs (nI i + 2 : Int32).toNatClampNeg) = 0 := z
    refine Wf.sIc (tkL_37 (d := 19)) rfl ?_
    refine Wf.sGo (tkL_37 (d := 19)) rfl ?_
    rw [bz_1 z] at jn1
    try rw [bz_1 z]
    exact jn1
set_option maxRecDepth 20000 in
theorem lawc_38 (hi : i + 6 ≤ n) (hn : n ≤ 3072) (hL0 : LX M) (h : ∀ M', LX M' → mC M' ≤ mC M + 1 → mS M' ≤ mS M + 6 → Wf l (n, xs) uL 20 false (1000, 10000) 1885 [(0, .ref 4999), (1, .ref 1), (2, .ref 150), (3, .ref 167), (4, .int (nI i))] [] M' kr) : Wf l (n, xs) uL 20 false (1000, 10000) 1390 [(0, .ref 4999), (1, .ref 1), (2, .ref 150), (3, .ref 167), (4, .int (nI i))] [] M kr := by
  have c00 : mC M ≤ mC M + 1 := Nat.le_succ _
  have s00 : mS M ≤ mS M + 6 := Nat.le_add_right _ _
  refine Wf.sAl (tkL_38 (d := 19)) rfl rfl rfl ?_
  refine Wf.sAl (tkL_38 (d := 19)) rfl rfl rfl ?_
  refine Wf.sIl (tkL_38 (d := 19)) rfl rfl ?_
  refine Wf.sIc (tkL_38 (d := 19)) rfl ?_
  refine Wf.s2 (tkL_38 (d := 19)) rfl ?_
  refine Wf.sScd (tkL_38 (d := 19)) rfl (vi1 hi hn) ?_
  show Wf l (n, xs) uL 20 false (1000, 10000) 1397 [(0, .ref 4999), (1, .ref 1), (2, .ref 150), (3, .ref 167), (4, .int (nI i))] [.int (xs (nI i + 1 : Int32).toNatClampNeg), .ref 1] M kr
  refine Wf.sCv (as := [.int (xs (nI i + 1 : Int32).toNatClampNeg)]) (rest := []) (tkL_38 (d := 19)) rfl rfl (kk_ok hL0.iv rfl) rfl ?_
  refine p6_rests 7 hL0.li (fun x4 M1 hl9 e3 k5 => ?_)
  have hq8 := LX_k hL0 hl9 e3 k5 (by decide +kernel)
  have c6 : mC M1 ≤ mC M + 1 := by rw [mC_1 e3]; exact c00
  have s7 : mS M1 ≤ mS M + 6 := by rw [mS_1 e3]; exact s00
  show Wf l (n, xs) uL 20 false (1000, 10000) 1400 [(0, .ref 4999), (1, .ref 1), (2, .ref 150), (3, .ref 167), (4, .int (nI i))] [.int x4] M1 kr
  refine Wf.sPop (tkL_38 (d := 19)) rfl rfl ?_
  refine Wf.sAl (tkL_38 (d := 19)) rfl rfl rfl ?_
  refine Wf.sAl (tkL_38 (d := 19)) rfl rfl rfl ?_
  refine Wf.sIl (tkL_38 (d := 19)) rfl rfl ?_
  refine Wf.sIc (tkL_38 (d := 19)) rfl ?_
  refine Wf.s2 (tkL_38 (d := 19)) rfl ?_
  refine Wf.sScd (tkL_38 (d := 19)) rfl (vi1 hi hn) ?_
  show Wf l (n, xs) uL 20 false (1000, 10000) 1408 [(0, .ref 4999), (1, .ref 1), (2, .ref 150), (3, .ref 167), (4, .int (nI i))] [.int (xs (nI i + 1 : Int32).toNatClampNeg), .ref 150] M1 kr
  refine Wf.sCv (as := [.int (xs (nI i + 1 : Int32).toNatClampNeg)]) (rest := []) (tkL_38 (d := 19)) rfl rfl (kk_ok hq8.iv rfl) rfl ?_
  refine p7_rests 7 hq8.li (fun x13 M10 hl18 e12 k14 => ?_)
  have hq17 := LX_k hq8 hl18 e12 k14 (by decide +kernel)
  have c15 : mC M10 ≤ mC M + 1 := by rw [mC_1 e12]; exact c6
  have s16 : mS M10 ≤ mS M + 6 := by rw [mS_1 e12]; exact s7
  show Wf l (n, xs) uL 20 false (1000, 10000) 1411 [(0, .ref 4999), (1, .ref 1), (2, .ref 150), (3, .ref 167), (4, .int (nI i))] [.int x13] M10 kr
  refine Wf.sPop (tkL_38 (d := 19)) rfl rfl ?_
  refine Wf.sGo (tkL_38 (d := 19)) rfl ?_
  show Wf l (n, xs) uL 20 false (1000, 10000) 1885 [(0, .ref 4999), (1, .ref 1), (2, .ref 150), (3, .ref 167), (4, .int (nI i))] [] M10 kr
  exact h M10 hq17 c15 s16
set_option maxRecDepth 20000 in
theorem lawc_39 (hi : i + 6 ≤ n) (hn : n ≤ 3072) (hL0 : LX M) (h : ∀ M', LX M' → mC M' ≤ mC M + 1 → mS M' ≤ mS M + 6 → Wf l (n, xs) uL 20 false (1000, 10000) 1885 [(0, .ref 4999), (1, .ref 1), (2, .ref 150), (3, .ref 167), (4, .int (nI i))] [] M' kr) : Wf l (n, xs) uL 20 false (1000, 10000) 1415 [(0, .ref 4999), (1, .ref 1), (2, .ref 150), (3, .ref 167), (4, .int (nI i))] [] M kr := by
  have c00 : mC M ≤ mC M + 1 := Nat.le_succ _
  have s00 : mS M ≤ mS M + 6 := Nat.le_add_right _ _
  refine Wf.sAl (tkL_39 (d := 19)) rfl rfl rfl ?_
  refine Wf.sAl (tkL_39 (d := 19)) rfl rfl rfl ?_
  refine Wf.sIl (tkL_39 (d := 19)) rfl rfl ?_
  refine Wf.sIc (tkL_39 (d := 19)) rfl ?_
  refine Wf.s2 (tkL_39 (d := 19)) rfl ?_
  refine Wf.sScd (tkL_39 (d := 19)) rfl (vi1 hi hn) ?_
  show Wf l (n, xs) uL 20 false (1000, 10000) 1422 [(0, .ref 4999), (1, .ref 1), (2, .ref 150), (3, .ref 167), (4, .int (nI i))] [.int (xs (nI i + 1 : Int32).toNatClampNeg), .ref 1] M kr
  refine Wf.sCv (as := [.int (xs (nI i + 1 : Int32).toNatClampNeg)]) (rest := []) (tkL_39 (d := 19)) rfl rfl (kk_ok hL0.iv rfl) rfl ?_
  refine p6_rest 7 hL0.li (fun x4 M1 hl9 e3 k5 => ?_)
  have hq8 := LX_k hL0 hl9 e3 k5 (by decide +kernel)
  have c6 : mC M1 ≤ mC M + 1 := by rw [mC_1 e3]; exact c00
  have s7 : mS M1 ≤ mS M + 6 := by rw [mS_1 e3]; exact s00
  show Wf l (n, xs) uL 20 false (1000, 10000) 1425 [(0, .ref 4999), (1, .ref 1), (2, .ref 150), (3, .ref 167), (4, .int (nI i))] [.int x4] M1 kr
  refine Wf.sPop (tkL_39 (d := 19)) rfl rfl ?_
  refine Wf.sAl (tkL_39 (d := 19)) rfl rfl rfl ?_
  refine Wf.sAl (tkL_39 (d := 19)) rfl rfl rfl ?_
  refine Wf.sIl (tkL_39 (d := 19)) rfl rfl ?_
  refine Wf.sIc (tkL_39 (d := 19)) rfl ?_
  refine Wf.s2 (tkL_39 (d := 19)) rfl ?_
  refine Wf.sScd (tkL_39 (d := 19)) rfl (vi1 hi hn) ?_
  show Wf l (n, xs) uL 20 false (1000, 10000) 1433 [(0, .ref 4999), (1, .ref 1), (2, .ref 150), (3, .ref 167), (4, .int (nI i))] [.int (xs (nI i + 1 : Int32).toNatClampNeg), .ref 150] M1 kr
  refine Wf.sCv (as := [.int (xs (nI i + 1 : Int32).toNatClampNeg)]) (rest := []) (tkL_39 (d := 19)) rfl rfl (kk_ok hq8.iv rfl) rfl ?_
  refine p7_rest 7 hq8.li (fun x13 M10 hl18 e12 k14 => ?_)
  have hq17 := LX_k hq8 hl18 e12 k14 (by decide +kernel)
  have c15 : mC M10 ≤ mC M + 1 := by rw [mC_1 e12]; exact c6
  have s16 : mS M10 ≤ mS M + 6 := by rw [mS_1 e12]; exact s7
  show Wf l (n, xs) uL 20 false (1000, 10000) 1436 [(0, .ref 4999), (1, .ref 1), (2, .ref 150), (3, .ref 167), (4, .int (nI i))] [.int x13] M10 kr
  refine Wf.sPop (tkL_39 (d := 19)) rfl rfl ?_
  refine Wf.sGo (tkL_39 (d := 19)) rfl ?_
  show Wf l (n, xs) uL 20 false (1000, 10000) 1885 [(0, .ref 4999), (1, .ref 1), (2, .ref 150), (3, .ref 167), (4, .int (nI i))] [] M10 kr
  exact h M10 hq17 c15 s16
end LAWC
end
section
/-! the law's cases over its states -/
section LAWC
variable {l : Launch} {xs : Nat → Int32} {kr : KR} {i n : Nat} {M : Mm}
set_option maxRecDepth 20000 in
theorem lawc_40 (hi : i + 6 ≤ n) (hn : n ≤ 3072) (hL0 : LX M) (h : ∀ M', LX M' → mC M' ≤ mC M + 1 → mS M' ≤ mS M + 6 → Wf l (n, xs) uL 20 false (1000, 10000) 1885 [(0, .ref 4999), (1, .ref 1), (2, .ref 150), (3, .ref 167), (4, .int (nI i))] [] M' kr) : Wf l (n, xs) uL 20 false (1000, 10000) 1440 [(0, .ref 4999), (1, .ref 1), (2, .ref 150), (3, .ref 167), (4, .int (nI i))] [] M kr := by
  have c00 : mC M ≤ mC M + 1 := Nat.le_succ _
  have s00 : mS M ≤ mS M + 6 := Nat.le_add_right _ _
  refine Wf.sAl (tkL_40 (d := 19)) rfl rfl rfl ?_
  refine Wf.sAl (tkL_40 (d := 19)) rfl rfl rfl ?_
  refine Wf.sIl (tkL_40 (d := 19)) rfl rfl ?_
  refine Wf.sIc (tkL_40 (d := 19)) rfl ?_
  refine Wf.s2 (tkL_40 (d := 19)) rfl ?_
  refine Wf.sScd (tkL_40 (d := 19)) rfl (vi1 hi hn) ?_
  show Wf l (n, xs) uL 20 false (1000, 10000) 1447 [(0, .ref 4999), (1, .ref 1), (2, .ref 150), (3, .ref 167), (4, .int (nI i))] [.int (xs (nI i + 1 : Int32).toNatClampNeg), .ref 1] M kr
  refine Wf.sAl (tkL_40 (d := 19)) rfl rfl rfl ?_
  refine Wf.sIl (tkL_40 (d := 19)) rfl rfl ?_
  refine Wf.sIc (tkL_40 (d := 19)) rfl ?_
  refine Wf.s2 (tkL_40 (d := 19)) rfl ?_
  refine Wf.sScd (tkL_40 (d := 19)) rfl (vi2 hi hn) ?_
  show Wf l (n, xs) uL 20 false (1000, 10000) 1453 [(0, .ref 4999), (1, .ref 1), (2, .ref 150), (3, .ref 167), (4, .int (nI i))] [.int (xs (nI i + 2 : Int32).toNatClampNeg), .int (xs (nI i + 1 : Int32).toNatClampNeg), .ref 1] M kr
  refine Wf.sAl (tkL_40 (d := 19)) rfl rfl rfl ?_
  refine Wf.sIl (tkL_40 (d := 19)) rfl rfl ?_
  refine Wf.sIc (tkL_40 (d := 19)) rfl ?_
  refine Wf.s2 (tkL_40 (d := 19)) rfl ?_
  refine Wf.sScd (tkL_40 (d := 19)) rfl (vi3 hi hn) ?_
  show Wf l (n, xs) uL 20 false (1000, 10000) 1459 [(0, .ref 4999), (1, .ref 1), (2, .ref 150), (3, .ref 167), (4, .int (nI i))] [.int (xs (nI i + 3 : Int32).toNatClampNeg), .int (xs (nI i + 2 : Int32).toNatClampNeg), .int (xs (nI i + 1 : Int32).toNatClampNeg), .ref 1] M kr
  have jn1 : Wf l (n, xs) uL 20 false (1000, 10000) 1467 [(0, .ref 4999), (1, .ref 1), (2, .ref 150), (3, .ref 167), (4, .int (nI i))] [.int (bz (xs (nI i + 3 : Int32).toNatClampNeg)), .int (xs (nI i + 2 : Int32).toNatClampNeg), .int (xs (nI i + 1 : Int32).toNatClampNeg), .ref 1] M kr := by
    refine Wf.sCv (as := [.int (xs (nI i + 1 : Int32).toNatClampNeg), .int (xs (nI i + 2 : Int32).toNatClampNeg), .int (bz (xs (nI i + 3 : Int32).toNatClampNeg))]) (rest := []) (tkL_40 (d := 19)) rfl rfl (kk_ok hL0.iv rfl) rfl ?_
    refine p6_odds 7 hL0.li (fun x5 M2 hl10 e4 k6 => ?_)
    have hq9 := LX_k hL0 hl10 e4 k6 (by decide +kernel)
    have c7 : mC M2 ≤ mC M + 1 := by rw [mC_1 e4]; exact c00
    have s8 : mS M2 ≤ mS M + 6 := by rw [mS_1 e4]; exact s00
    show Wf l (n, xs) uL 20 false (1000, 10000) 1470 [(0, .ref 4999), (1, .ref 1), (2, .ref 150), (3, .ref 167), (4, .int (nI i))] [.long x5] M2 kr
    refine Wf.sPop2 (tkL_40 (d := 19)) rfl ?_
    refine Wf.sAl (tkL_40 (d := 19)) rfl rfl rfl ?_
    refine Wf.sAl (tkL_40 (d := 19)) rfl rfl rfl ?_
    refine Wf.sIl (tkL_40 (d := 19)) rfl rfl ?_
    refine Wf.sIc (tkL_40 (d := 19)) rfl ?_
    refine Wf.s2 (tkL_40 (d := 19)) rfl ?_
    refine Wf.sScd (tkL_40 (d := 19)) rfl (vi1 hi hn) ?_
    show Wf l (n, xs) uL 20 false (1000, 10000) 1478 [(0, .ref 4999), (1, .ref 1), (2, .ref 150), (3, .ref 167), (4, .int (nI i))] [.int (xs (nI i + 1 : Int32).toNatClampNeg), .ref 150] M2 kr
    refine Wf.sAl (tkL_40 (d := 19)) rfl rfl rfl ?_
    refine Wf.sIl (tkL_40 (d := 19)) rfl rfl ?_
    refine Wf.sIc (tkL_40 (d := 19)) rfl ?_
    refine Wf.s2 (tkL_40 (d := 19)) rfl ?_
    refine Wf.sScd (tkL_40 (d := 19)) rfl (vi2 hi hn) ?_
    show Wf l (n, xs) uL 20 false (1000, 10000) 1484 [(0, .ref 4999), (1, .ref 1), (2, .ref 150), (3, .ref 167), (4, .int (nI i))] [.int (xs (nI i + 2 : Int32).toNatClampNeg), .int (xs (nI i + 1 : Int32).toNatClampNeg), .ref 150] M2 kr
    refine Wf.sAl (tkL_40 (d := 19)) rfl rfl rfl ?_
    refine Wf.sIl (tkL_40 (d := 19)) rfl rfl ?_
    refine Wf.sIc (tkL_40 (d := 19)) rfl ?_
    refine Wf.s2 (tkL_40 (d := 19)) rfl ?_
    refine Wf.sScd (tkL_40 (d := 19)) rfl (vi3 hi hn) ?_
    show Wf l (n, xs) uL 20 false (1000, 10000) 1490 [(0, .ref 4999), (1, .ref 1), (2, .ref 150), (3, .ref 167), (4, .int (nI i))] [.int (xs (nI i + 3 : Int32).toNatClampNeg), .int (xs (nI i + 2 : Int32).toNatClampNeg), .int (xs (nI i + 1 : Int32).toNatClampNeg), .ref 150] M2 kr
    have jn11 : Wf l (n, xs) uL 20 false (1000, 10000) 1498 [(0, .ref 4999), (1, .ref 1), (2, .ref 150), (3, .ref 167), (4, .int (nI i))] [.int (bz (xs (nI i + 3 : Int32).toNatClampNeg)), .int (xs (nI i + 2 : Int32).toNatClampNeg), .int (xs (nI i + 1 : Int32).toNatClampNeg), .ref 150] M2 kr := by
      refine Wf.sCv (as := [.int (xs (nI i + 1 : Int32).toNatClampNeg), .int (xs (nI i + 2 : Int32).toNatClampNeg), .int (bz (xs (nI i + 3 : Int32).toNatClampNeg))]) (rest := []) (tkL_40 (d := 19)) rfl rfl (kk_ok hq9.iv rfl) rfl ?_
      refine p7_odds 7 hq9.li (fun x15 M12 hl20 e14 k16 => ?_)
      have hq19 := LX_k hq9 hl20 e14 k16 (by decide +kernel)
      have c17 : mC M12 ≤ mC M + 1 := by rw [mC_1 e14]; exact c7
      have s18 : mS M12 ≤ mS M + 6 := by rw [mS_1 e14]; exact s8
      show Wf l (n, xs) uL 20 false (1000, 10000) 1501 [(0, .ref 4999), (1, .ref 1), (2, .ref 150), (3, .ref 167), (4, .int (nI i))] [.long x15] M12 kr
      refine Wf.sPop2 (tkL_40 (d := 19)) rfl ?_
      refine Wf.sGo (tkL_40 (d := 19)) rfl ?_
      show Wf l (n, xs) uL 20 false (1000, 10000) 1885 [(0, .ref 4999), (1, .ref 1), (2, .ref 150), (3, .ref 167), (4, .int (nI i))] [] M12 kr
      exact h M12 hq19 c17 s18
    refine Wf.sIf (tkL_40 (d := 19)) rfl (fun z => ?_) (fun z => ?_)
    · have z : (xs (nI i + 3 : Int32).toNatClampNeg) = 0 := z
      refine Wf.sIc (tkL_40 (d := 19)) rfl ?_
      rw [bz_0 z] at jn11
      try rw [bz_0 z]
      exact jn11
    · have z : ¬ (xs (nI i + 3 : Int32).toNatClampNeg) = 0 := z
      refine Wf.sIc (tkL_40 (d := 19)) rfl ?_
      refine Wf.sGo (tkL_40 (d := 19)) rfl ?_
      rw [bz_1 z] at jn11
      try rw [bz_1 z]
      exact jn11
  refine Wf.sIf (tkL_40 (d := 19)) rfl (fun z => ?_) (fun z => ?_)
  · have z : (xs (nI i + 3 : Int32).toNatClampNeg) = 0 := z
    refine Wf.sIc (tkL_40 (d := 19)) rfl ?_
    rw [bz_0 z] at jn1
    try rw [bz_0 z]
    exact jn1
  · have z : ¬ (xs (nI i + 3 : Int32).toNatClampNeg) = 0 := z
    refine Wf.sIc (tkL_40 (d := 19)) rfl ?_
    refine Wf.sGo (tkL_40 (d := 19)) rfl ?_
    rw [bz_1 z] at jn1
    try rw [bz_1 z]
    exact jn1
set_option maxRecDepth 20000 in
theorem lawc_41 (hi : i + 6 ≤ n) (hn : n ≤ 3072) (hL0 : LX M) (h : ∀ M', LX M' → mC M' ≤ mC M + 1 → mS M' ≤ mS M + 6 → Wf l (n, xs) uL 20 false (1000, 10000) 1885 [(0, .ref 4999), (1, .ref 1), (2, .ref 150), (3, .ref 167), (4, .int (nI i))] [] M' kr) : Wf l (n, xs) uL 20 false (1000, 10000) 1505 [(0, .ref 4999), (1, .ref 1), (2, .ref 150), (3, .ref 167), (4, .int (nI i))] [] M kr := by
  have c00 : mC M ≤ mC M + 1 := Nat.le_succ _
  have s00 : mS M ≤ mS M + 6 := Nat.le_add_right _ _
  refine Wf.sAl (tkL_41 (d := 19)) rfl rfl rfl ?_
  refine Wf.sAl (tkL_41 (d := 19)) rfl rfl rfl ?_
  refine Wf.sIl (tkL_41 (d := 19)) rfl rfl ?_
  refine Wf.sIc (tkL_41 (d := 19)) rfl ?_
  refine Wf.s2 (tkL_41 (d := 19)) rfl ?_
  refine Wf.sScd (tkL_41 (d := 19)) rfl (vi1 hi hn) ?_
  show Wf l (n, xs) uL 20 false (1000, 10000) 1512 [(0, .ref 4999), (1, .ref 1), (2, .ref 150), (3, .ref 167), (4, .int (nI i))] [.int (xs (nI i + 1 : Int32).toNatClampNeg), .ref 1] M kr
  refine Wf.sAl (tkL_41 (d := 19)) rfl rfl rfl ?_
  refine Wf.sIl (tkL_41 (d := 19)) rfl rfl ?_
  refine Wf.sIc (tkL_41 (d := 19)) rfl ?_
  refine Wf.s2 (tkL_41 (d := 19)) rfl ?_
  refine Wf.sScd (tkL_41 (d := 19)) rfl (vi2 hi hn) ?_
  show Wf l (n, xs) uL 20 false (1000, 10000) 1518 [(0, .ref 4999), (1, .ref 1), (2, .ref 150), (3, .ref 167), (4, .int (nI i))] [.int (xs (nI i + 2 : Int32).toNatClampNeg), .int (xs (nI i + 1 : Int32).toNatClampNeg), .ref 1] M kr
  refine Wf.sAl (tkL_41 (d := 19)) rfl rfl rfl ?_
  refine Wf.sIl (tkL_41 (d := 19)) rfl rfl ?_
  refine Wf.sIc (tkL_41 (d := 19)) rfl ?_
  refine Wf.s2 (tkL_41 (d := 19)) rfl ?_
  refine Wf.sScd (tkL_41 (d := 19)) rfl (vi3 hi hn) ?_
  show Wf l (n, xs) uL 20 false (1000, 10000) 1524 [(0, .ref 4999), (1, .ref 1), (2, .ref 150), (3, .ref 167), (4, .int (nI i))] [.int (xs (nI i + 3 : Int32).toNatClampNeg), .int (xs (nI i + 2 : Int32).toNatClampNeg), .int (xs (nI i + 1 : Int32).toNatClampNeg), .ref 1] M kr
  have jn1 : Wf l (n, xs) uL 20 false (1000, 10000) 1532 [(0, .ref 4999), (1, .ref 1), (2, .ref 150), (3, .ref 167), (4, .int (nI i))] [.int (bz (xs (nI i + 3 : Int32).toNatClampNeg)), .int (xs (nI i + 2 : Int32).toNatClampNeg), .int (xs (nI i + 1 : Int32).toNatClampNeg), .ref 1] M kr := by
    refine Wf.sCv (as := [.int (xs (nI i + 1 : Int32).toNatClampNeg), .int (xs (nI i + 2 : Int32).toNatClampNeg), .int (bz (xs (nI i + 3 : Int32).toNatClampNeg))]) (rest := []) (tkL_41 (d := 19)) rfl rfl (kk_ok hL0.iv rfl) rfl ?_
    refine p6_mean 7 hL0.li (fun x5 M2 hl10 e4 k6 => ?_)
    have hq9 := LX_k hL0 hl10 e4 k6 (by decide +kernel)
    have c7 : mC M2 ≤ mC M + 1 := by rw [mC_1 e4]; exact c00
    have s8 : mS M2 ≤ mS M + 6 := by rw [mS_1 e4]; exact s00
    show Wf l (n, xs) uL 20 false (1000, 10000) 1535 [(0, .ref 4999), (1, .ref 1), (2, .ref 150), (3, .ref 167), (4, .int (nI i))] [.long x5] M2 kr
    refine Wf.sPop2 (tkL_41 (d := 19)) rfl ?_
    refine Wf.sAl (tkL_41 (d := 19)) rfl rfl rfl ?_
    refine Wf.sAl (tkL_41 (d := 19)) rfl rfl rfl ?_
    refine Wf.sIl (tkL_41 (d := 19)) rfl rfl ?_
    refine Wf.sIc (tkL_41 (d := 19)) rfl ?_
    refine Wf.s2 (tkL_41 (d := 19)) rfl ?_
    refine Wf.sScd (tkL_41 (d := 19)) rfl (vi1 hi hn) ?_
    show Wf l (n, xs) uL 20 false (1000, 10000) 1543 [(0, .ref 4999), (1, .ref 1), (2, .ref 150), (3, .ref 167), (4, .int (nI i))] [.int (xs (nI i + 1 : Int32).toNatClampNeg), .ref 150] M2 kr
    refine Wf.sAl (tkL_41 (d := 19)) rfl rfl rfl ?_
    refine Wf.sIl (tkL_41 (d := 19)) rfl rfl ?_
    refine Wf.sIc (tkL_41 (d := 19)) rfl ?_
    refine Wf.s2 (tkL_41 (d := 19)) rfl ?_
    refine Wf.sScd (tkL_41 (d := 19)) rfl (vi2 hi hn) ?_
    show Wf l (n, xs) uL 20 false (1000, 10000) 1549 [(0, .ref 4999), (1, .ref 1), (2, .ref 150), (3, .ref 167), (4, .int (nI i))] [.int (xs (nI i + 2 : Int32).toNatClampNeg), .int (xs (nI i + 1 : Int32).toNatClampNeg), .ref 150] M2 kr
    refine Wf.sAl (tkL_41 (d := 19)) rfl rfl rfl ?_
    refine Wf.sIl (tkL_41 (d := 19)) rfl rfl ?_
    refine Wf.sIc (tkL_41 (d := 19)) rfl ?_
    refine Wf.s2 (tkL_41 (d := 19)) rfl ?_
    refine Wf.sScd (tkL_41 (d := 19)) rfl (vi3 hi hn) ?_
    show Wf l (n, xs) uL 20 false (1000, 10000) 1555 [(0, .ref 4999), (1, .ref 1), (2, .ref 150), (3, .ref 167), (4, .int (nI i))] [.int (xs (nI i + 3 : Int32).toNatClampNeg), .int (xs (nI i + 2 : Int32).toNatClampNeg), .int (xs (nI i + 1 : Int32).toNatClampNeg), .ref 150] M2 kr
    have jn11 : Wf l (n, xs) uL 20 false (1000, 10000) 1563 [(0, .ref 4999), (1, .ref 1), (2, .ref 150), (3, .ref 167), (4, .int (nI i))] [.int (bz (xs (nI i + 3 : Int32).toNatClampNeg)), .int (xs (nI i + 2 : Int32).toNatClampNeg), .int (xs (nI i + 1 : Int32).toNatClampNeg), .ref 150] M2 kr := by
      refine Wf.sCv (as := [.int (xs (nI i + 1 : Int32).toNatClampNeg), .int (xs (nI i + 2 : Int32).toNatClampNeg), .int (bz (xs (nI i + 3 : Int32).toNatClampNeg))]) (rest := []) (tkL_41 (d := 19)) rfl rfl (kk_ok hq9.iv rfl) rfl ?_
      refine p7_mean 7 hq9.li (fun x15 M12 hl20 e14 k16 => ?_)
      have hq19 := LX_k hq9 hl20 e14 k16 (by decide +kernel)
      have c17 : mC M12 ≤ mC M + 1 := by rw [mC_1 e14]; exact c7
      have s18 : mS M12 ≤ mS M + 6 := by rw [mS_1 e14]; exact s8
      show Wf l (n, xs) uL 20 false (1000, 10000) 1566 [(0, .ref 4999), (1, .ref 1), (2, .ref 150), (3, .ref 167), (4, .int (nI i))] [.long x15] M12 kr
      refine Wf.sPop2 (tkL_41 (d := 19)) rfl ?_
      refine Wf.sGo (tkL_41 (d := 19)) rfl ?_
      show Wf l (n, xs) uL 20 false (1000, 10000) 1885 [(0, .ref 4999), (1, .ref 1), (2, .ref 150), (3, .ref 167), (4, .int (nI i))] [] M12 kr
      exact h M12 hq19 c17 s18
    refine Wf.sIf (tkL_41 (d := 19)) rfl (fun z => ?_) (fun z => ?_)
    · have z : (xs (nI i + 3 : Int32).toNatClampNeg) = 0 := z
      refine Wf.sIc (tkL_41 (d := 19)) rfl ?_
      rw [bz_0 z] at jn11
      try rw [bz_0 z]
      exact jn11
    · have z : ¬ (xs (nI i + 3 : Int32).toNatClampNeg) = 0 := z
      refine Wf.sIc (tkL_41 (d := 19)) rfl ?_
      refine Wf.sGo (tkL_41 (d := 19)) rfl ?_
      rw [bz_1 z] at jn11
      try rw [bz_1 z]
      exact jn11
  refine Wf.sIf (tkL_41 (d := 19)) rfl (fun z => ?_) (fun z => ?_)
  · have z : (xs (nI i + 3 : Int32).toNatClampNeg) = 0 := z
    refine Wf.sIc (tkL_41 (d := 19)) rfl ?_
    rw [bz_0 z] at jn1
    try rw [bz_0 z]
    exact jn1
  · have z : ¬ (xs (nI i + 3 : Int32).toNatClampNeg) = 0 := z
    refine Wf.sIc (tkL_41 (d := 19)) rfl ?_
    refine Wf.sGo (tkL_41 (d := 19)) rfl ?_
    rw [bz_1 z] at jn1
    try rw [bz_1 z]
    exact jn1
set_option maxRecDepth 20000 in
theorem lawc_42 (hi : i + 6 ≤ n) (hn : n ≤ 3072) (hL0 : LX M) (h : ∀ M', LX M' → mC M' ≤ mC M + 1 → mS M' ≤ mS M + 6 → Wf l (n, xs) uL 20 false (1000, 10000) 1885 [(0, .ref 4999), (1, .ref 1), (2, .ref 150), (3, .ref 167), (4, .int (nI i))] [] M' kr) : Wf l (n, xs) uL 20 false (1000, 10000) 1570 [(0, .ref 4999), (1, .ref 1), (2, .ref 150), (3, .ref 167), (4, .int (nI i))] [] M kr := by
  have c00 : mC M ≤ mC M + 1 := Nat.le_succ _
  have s00 : mS M ≤ mS M + 6 := Nat.le_add_right _ _
  refine Wf.sAl (tkL_42 (d := 19)) rfl rfl rfl ?_
  refine Wf.sAl (tkL_42 (d := 19)) rfl rfl rfl ?_
  refine Wf.sIl (tkL_42 (d := 19)) rfl rfl ?_
  refine Wf.sIc (tkL_42 (d := 19)) rfl ?_
  refine Wf.s2 (tkL_42 (d := 19)) rfl ?_
  refine Wf.sScd (tkL_42 (d := 19)) rfl (vi1 hi hn) ?_
  show Wf l (n, xs) uL 20 false (1000, 10000) 1577 [(0, .ref 4999), (1, .ref 1), (2, .ref 150), (3, .ref 167), (4, .int (nI i))] [.int (xs (nI i + 1 : Int32).toNatClampNeg), .ref 1] M kr
  refine Wf.sAl (tkL_42 (d := 19)) rfl rfl rfl ?_
  refine Wf.sIl (tkL_42 (d := 19)) rfl rfl ?_
  refine Wf.sIc (tkL_42 (d := 19)) rfl ?_
  refine Wf.s2 (tkL_42 (d := 19)) rfl ?_
  refine Wf.sScd (tkL_42 (d := 19)) rfl (vi2 hi hn) ?_
  show Wf l (n, xs) uL 20 false (1000, 10000) 1583 [(0, .ref 4999), (1, .ref 1), (2, .ref 150), (3, .ref 167), (4, .int (nI i))] [.int (xs (nI i + 2 : Int32).toNatClampNeg), .int (xs (nI i + 1 : Int32).toNatClampNeg), .ref 1] M kr
  refine Wf.sAl (tkL_42 (d := 19)) rfl rfl rfl ?_
  refine Wf.sIl (tkL_42 (d := 19)) rfl rfl ?_
  refine Wf.sIc (tkL_42 (d := 19)) rfl ?_
  refine Wf.s2 (tkL_42 (d := 19)) rfl ?_
  refine Wf.sScd (tkL_42 (d := 19)) rfl (vi3 hi hn) ?_
  show Wf l (n, xs) uL 20 false (1000, 10000) 1589 [(0, .ref 4999), (1, .ref 1), (2, .ref 150), (3, .ref 167), (4, .int (nI i))] [.int (xs (nI i + 3 : Int32).toNatClampNeg), .int (xs (nI i + 2 : Int32).toNatClampNeg), .int (xs (nI i + 1 : Int32).toNatClampNeg), .ref 1] M kr
  refine Wf.sCv (as := [.int (xs (nI i + 1 : Int32).toNatClampNeg), .int (xs (nI i + 2 : Int32).toNatClampNeg), .int (xs (nI i + 3 : Int32).toNatClampNeg)]) (rest := []) (tkL_42 (d := 19)) rfl rfl (kk_ok hL0.iv rfl) rfl ?_
  refine p6_borne 7 hL0.li (fun x4 M1 hl9 e3 k5 => ?_)
  have hq8 := LX_k hL0 hl9 e3 k5 (by decide +kernel)
  have c6 : mC M1 ≤ mC M + 1 := by rw [mC_1 e3]; exact c00
  have s7 : mS M1 ≤ mS M + 6 := by rw [mS_1 e3]; exact s00
  show Wf l (n, xs) uL 20 false (1000, 10000) 1592 [(0, .ref 4999), (1, .ref 1), (2, .ref 150), (3, .ref 167), (4, .int (nI i))] [.int x4] M1 kr
  refine Wf.sPop (tkL_42 (d := 19)) rfl rfl ?_
  refine Wf.sAl (tkL_42 (d := 19)) rfl rfl rfl ?_
  refine Wf.sAl (tkL_42 (d := 19)) rfl rfl rfl ?_
  refine Wf.sIl (tkL_42 (d := 19)) rfl rfl ?_
  refine Wf.sIc (tkL_42 (d := 19)) rfl ?_
  refine Wf.s2 (tkL_42 (d := 19)) rfl ?_
  refine Wf.sScd (tkL_42 (d := 19)) rfl (vi1 hi hn) ?_
  show Wf l (n, xs) uL 20 false (1000, 10000) 1600 [(0, .ref 4999), (1, .ref 1), (2, .ref 150), (3, .ref 167), (4, .int (nI i))] [.int (xs (nI i + 1 : Int32).toNatClampNeg), .ref 150] M1 kr
  refine Wf.sAl (tkL_42 (d := 19)) rfl rfl rfl ?_
  refine Wf.sIl (tkL_42 (d := 19)) rfl rfl ?_
  refine Wf.sIc (tkL_42 (d := 19)) rfl ?_
  refine Wf.s2 (tkL_42 (d := 19)) rfl ?_
  refine Wf.sScd (tkL_42 (d := 19)) rfl (vi2 hi hn) ?_
  show Wf l (n, xs) uL 20 false (1000, 10000) 1606 [(0, .ref 4999), (1, .ref 1), (2, .ref 150), (3, .ref 167), (4, .int (nI i))] [.int (xs (nI i + 2 : Int32).toNatClampNeg), .int (xs (nI i + 1 : Int32).toNatClampNeg), .ref 150] M1 kr
  refine Wf.sAl (tkL_42 (d := 19)) rfl rfl rfl ?_
  refine Wf.sIl (tkL_42 (d := 19)) rfl rfl ?_
  refine Wf.sIc (tkL_42 (d := 19)) rfl ?_
  refine Wf.s2 (tkL_42 (d := 19)) rfl ?_
  refine Wf.sScd (tkL_42 (d := 19)) rfl (vi3 hi hn) ?_
  show Wf l (n, xs) uL 20 false (1000, 10000) 1612 [(0, .ref 4999), (1, .ref 1), (2, .ref 150), (3, .ref 167), (4, .int (nI i))] [.int (xs (nI i + 3 : Int32).toNatClampNeg), .int (xs (nI i + 2 : Int32).toNatClampNeg), .int (xs (nI i + 1 : Int32).toNatClampNeg), .ref 150] M1 kr
  refine Wf.sCv (as := [.int (xs (nI i + 1 : Int32).toNatClampNeg), .int (xs (nI i + 2 : Int32).toNatClampNeg), .int (xs (nI i + 3 : Int32).toNatClampNeg)]) (rest := []) (tkL_42 (d := 19)) rfl rfl (kk_ok hq8.iv rfl) rfl ?_
  refine p7_borne 7 hq8.li (fun x13 M10 hl18 e12 k14 => ?_)
  have hq17 := LX_k hq8 hl18 e12 k14 (by decide +kernel)
  have c15 : mC M10 ≤ mC M + 1 := by rw [mC_1 e12]; exact c6
  have s16 : mS M10 ≤ mS M + 6 := by rw [mS_1 e12]; exact s7
  show Wf l (n, xs) uL 20 false (1000, 10000) 1615 [(0, .ref 4999), (1, .ref 1), (2, .ref 150), (3, .ref 167), (4, .int (nI i))] [.int x13] M10 kr
  refine Wf.sPop (tkL_42 (d := 19)) rfl rfl ?_
  refine Wf.sGo (tkL_42 (d := 19)) rfl ?_
  show Wf l (n, xs) uL 20 false (1000, 10000) 1885 [(0, .ref 4999), (1, .ref 1), (2, .ref 150), (3, .ref 167), (4, .int (nI i))] [] M10 kr
  exact h M10 hq17 c15 s16
set_option maxRecDepth 20000 in
theorem lawc_43 (hi : i + 6 ≤ n) (hn : n ≤ 3072) (hL0 : LX M) (h : ∀ M', LX M' → mC M' ≤ mC M + 1 → mS M' ≤ mS M + 6 → Wf l (n, xs) uL 20 false (1000, 10000) 1885 [(0, .ref 4999), (1, .ref 1), (2, .ref 150), (3, .ref 167), (4, .int (nI i))] [] M' kr) : Wf l (n, xs) uL 20 false (1000, 10000) 1619 [(0, .ref 4999), (1, .ref 1), (2, .ref 150), (3, .ref 167), (4, .int (nI i))] [] M kr := by
  have c00 : mC M ≤ mC M + 1 := Nat.le_succ _
  have s00 : mS M ≤ mS M + 6 := Nat.le_add_right _ _
  refine Wf.sAl (tkL_43 (d := 19)) rfl rfl rfl ?_
  refine Wf.sAl (tkL_43 (d := 19)) rfl rfl rfl ?_
  refine Wf.sIl (tkL_43 (d := 19)) rfl rfl ?_
  refine Wf.sIc (tkL_43 (d := 19)) rfl ?_
  refine Wf.s2 (tkL_43 (d := 19)) rfl ?_
  refine Wf.sScd (tkL_43 (d := 19)) rfl (vi1 hi hn) ?_
  show Wf l (n, xs) uL 20 false (1000, 10000) 1626 [(0, .ref 4999), (1, .ref 1), (2, .ref 150), (3, .ref 167), (4, .int (nI i))] [.int (xs (nI i + 1 : Int32).toNatClampNeg), .ref 1] M kr
  refine Wf.sAl (tkL_43 (d := 19)) rfl rfl rfl ?_
  refine Wf.sIl (tkL_43 (d := 19)) rfl rfl ?_
  refine Wf.sIc (tkL_43 (d := 19)) rfl ?_
  refine Wf.s2 (tkL_43 (d := 19)) rfl ?_
  refine Wf.sScd (tkL_43 (d := 19)) rfl (vi2 hi hn) ?_
  show Wf l (n, xs) uL 20 false (1000, 10000) 1632 [(0, .ref 4999), (1, .ref 1), (2, .ref 150), (3, .ref 167), (4, .int (nI i))] [.int (xs (nI i + 2 : Int32).toNatClampNeg), .int (xs (nI i + 1 : Int32).toNatClampNeg), .ref 1] M kr
  refine Wf.sCv (as := [.int (xs (nI i + 1 : Int32).toNatClampNeg), .int (xs (nI i + 2 : Int32).toNatClampNeg)]) (rest := []) (tkL_43 (d := 19)) rfl rfl (kk_ok hL0.iv rfl) rfl ?_
  refine p6_firstWet 7 hL0.li (fun x4 M1 hl9 e3 k5 => ?_)
  have hq8 := LX_k hL0 hl9 e3 k5 (by decide +kernel)
  have c6 : mC M1 ≤ mC M + 1 := by rw [mC_1 e3]; exact c00
  have s7 : mS M1 ≤ mS M + 6 := by rw [mS_1 e3]; exact s00
  show Wf l (n, xs) uL 20 false (1000, 10000) 1635 [(0, .ref 4999), (1, .ref 1), (2, .ref 150), (3, .ref 167), (4, .int (nI i))] [.int x4] M1 kr
  refine Wf.sPop (tkL_43 (d := 19)) rfl rfl ?_
  refine Wf.sAl (tkL_43 (d := 19)) rfl rfl rfl ?_
  refine Wf.sAl (tkL_43 (d := 19)) rfl rfl rfl ?_
  refine Wf.sIl (tkL_43 (d := 19)) rfl rfl ?_
  refine Wf.sIc (tkL_43 (d := 19)) rfl ?_
  refine Wf.s2 (tkL_43 (d := 19)) rfl ?_
  refine Wf.sScd (tkL_43 (d := 19)) rfl (vi1 hi hn) ?_
  show Wf l (n, xs) uL 20 false (1000, 10000) 1643 [(0, .ref 4999), (1, .ref 1), (2, .ref 150), (3, .ref 167), (4, .int (nI i))] [.int (xs (nI i + 1 : Int32).toNatClampNeg), .ref 150] M1 kr
  refine Wf.sAl (tkL_43 (d := 19)) rfl rfl rfl ?_
  refine Wf.sIl (tkL_43 (d := 19)) rfl rfl ?_
  refine Wf.sIc (tkL_43 (d := 19)) rfl ?_
  refine Wf.s2 (tkL_43 (d := 19)) rfl ?_
  refine Wf.sScd (tkL_43 (d := 19)) rfl (vi2 hi hn) ?_
  show Wf l (n, xs) uL 20 false (1000, 10000) 1649 [(0, .ref 4999), (1, .ref 1), (2, .ref 150), (3, .ref 167), (4, .int (nI i))] [.int (xs (nI i + 2 : Int32).toNatClampNeg), .int (xs (nI i + 1 : Int32).toNatClampNeg), .ref 150] M1 kr
  refine Wf.sCv (as := [.int (xs (nI i + 1 : Int32).toNatClampNeg), .int (xs (nI i + 2 : Int32).toNatClampNeg)]) (rest := []) (tkL_43 (d := 19)) rfl rfl (kk_ok hq8.iv rfl) rfl ?_
  refine p7_firstWet 7 hq8.li (fun x13 M10 hl18 e12 k14 => ?_)
  have hq17 := LX_k hq8 hl18 e12 k14 (by decide +kernel)
  have c15 : mC M10 ≤ mC M + 1 := by rw [mC_1 e12]; exact c6
  have s16 : mS M10 ≤ mS M + 6 := by rw [mS_1 e12]; exact s7
  show Wf l (n, xs) uL 20 false (1000, 10000) 1652 [(0, .ref 4999), (1, .ref 1), (2, .ref 150), (3, .ref 167), (4, .int (nI i))] [.int x13] M10 kr
  refine Wf.sPop (tkL_43 (d := 19)) rfl rfl ?_
  refine Wf.sGo (tkL_43 (d := 19)) rfl ?_
  show Wf l (n, xs) uL 20 false (1000, 10000) 1885 [(0, .ref 4999), (1, .ref 1), (2, .ref 150), (3, .ref 167), (4, .int (nI i))] [] M10 kr
  exact h M10 hq17 c15 s16
set_option maxRecDepth 20000 in
theorem lawc_44 (hi : i + 6 ≤ n) (hn : n ≤ 3072) (hL0 : LX M) (h : ∀ M', LX M' → mC M' ≤ mC M + 1 → mS M' ≤ mS M + 6 → Wf l (n, xs) uL 20 false (1000, 10000) 1885 [(0, .ref 4999), (1, .ref 1), (2, .ref 150), (3, .ref 167), (4, .int (nI i))] [] M' kr) : Wf l (n, xs) uL 20 false (1000, 10000) 1656 [(0, .ref 4999), (1, .ref 1), (2, .ref 150), (3, .ref 167), (4, .int (nI i))] [] M kr := by
  have c00 : mC M ≤ mC M + 1 := Nat.le_succ _
  have s00 : mS M ≤ mS M + 6 := Nat.le_add_right _ _
  refine Wf.sAl (tkL_44 (d := 19)) rfl rfl rfl ?_
  refine Wf.sCv (as := []) (rest := []) (tkL_44 (d := 19)) rfl rfl (kk_ok hL0.iv rfl) rfl ?_
  obtain ⟨hq0, o, hv0⟩ := hL0
  refine j6_day 7 hq0 hv0 (fun M1 hq8 e3 hv9 => ?_)
  have c6 : mC M1 ≤ mC M + 1 := by rw [mC_1 e3]; exact c00
  have s7 : mS M1 ≤ mS M + 6 := by rw [mS_1 e3]; exact s00
  show Wf l (n, xs) uL 20 false (1000, 10000) 1660 [(0, .ref 4999), (1, .ref 1), (2, .ref 150), (3, .ref 167), (4, .int (nI i))] [.int (lft (fun A => aDay A) (-1) o).1] M1 kr
  refine Wf.sPop (tkL_44 (d := 19)) rfl rfl ?_
  refine Wf.sAl (tkL_44 (d := 19)) rfl rfl rfl ?_
  refine Wf.sCv (as := []) (rest := []) (tkL_44 (d := 19)) rfl rfl (kk_ok hq8.iv rfl) rfl ?_
  refine j7_day 7 hq8 hv9 (fun M10 hq19 e12 hv18 => ?_)
  have hq17 : LX M10 := ⟨hq19, _, hv18⟩
  have c15 : mC M10 ≤ mC M + 1 := by rw [mC_1 e12]; exact c6
  have s16 : mS M10 ≤ mS M + 6 := by rw [mS_1 e12]; exact s7
  show Wf l (n, xs) uL 20 false (1000, 10000) 1665 [(0, .ref 4999), (1, .ref 1), (2, .ref 150), (3, .ref 167), (4, .int (nI i))] [.int (lft (fun A => aDay A) (-1) o).1] M10 kr
  refine Wf.sPop (tkL_44 (d := 19)) rfl rfl ?_
  refine Wf.sGo (tkL_44 (d := 19)) rfl ?_
  show Wf l (n, xs) uL 20 false (1000, 10000) 1885 [(0, .ref 4999), (1, .ref 1), (2, .ref 150), (3, .ref 167), (4, .int (nI i))] [] M10 kr
  exact h M10 hq17 c15 s16
set_option maxRecDepth 20000 in
theorem lawc_45 (hi : i + 6 ≤ n) (hn : n ≤ 3072) (hL0 : LX M) (h : ∀ M', LX M' → mC M' ≤ mC M + 1 → mS M' ≤ mS M + 6 → Wf l (n, xs) uL 20 false (1000, 10000) 1885 [(0, .ref 4999), (1, .ref 1), (2, .ref 150), (3, .ref 167), (4, .int (nI i))] [] M' kr) : Wf l (n, xs) uL 20 false (1000, 10000) 1669 [(0, .ref 4999), (1, .ref 1), (2, .ref 150), (3, .ref 167), (4, .int (nI i))] [] M kr := by
  have c00 : mC M ≤ mC M + 1 := Nat.le_succ _
  have s00 : mS M ≤ mS M + 6 := Nat.le_add_right _ _
  refine Wf.sAl (tkL_45 (d := 19)) rfl rfl rfl ?_
  refine Wf.sAl (tkL_45 (d := 19)) rfl rfl rfl ?_
  refine Wf.sIl (tkL_45 (d := 19)) rfl rfl ?_
  refine Wf.sIc (tkL_45 (d := 19)) rfl ?_
  refine Wf.s2 (tkL_45 (d := 19)) rfl ?_
  refine Wf.sScd (tkL_45 (d := 19)) rfl (vi1 hi hn) ?_
  show Wf l (n, xs) uL 20 false (1000, 10000) 1676 [(0, .ref 4999), (1, .ref 1), (2, .ref 150), (3, .ref 167), (4, .int (nI i))] [.int (xs (nI i + 1 : Int32).toNatClampNeg), .ref 1] M kr
  refine Wf.sAl (tkL_45 (d := 19)) rfl rfl rfl ?_
  refine Wf.sIl (tkL_45 (d := 19)) rfl rfl ?_
  refine Wf.sIc (tkL_45 (d := 19)) rfl ?_
  refine Wf.s2 (tkL_45 (d := 19)) rfl ?_
  refine Wf.sScd (tkL_45 (d := 19)) rfl (vi2 hi hn) ?_
  show Wf l (n, xs) uL 20 false (1000, 10000) 1682 [(0, .ref 4999), (1, .ref 1), (2, .ref 150), (3, .ref 167), (4, .int (nI i))] [.int (xs (nI i + 2 : Int32).toNatClampNeg), .int (xs (nI i + 1 : Int32).toNatClampNeg), .ref 1] M kr
  refine Wf.sCv (as := [.int (xs (nI i + 1 : Int32).toNatClampNeg), .int (xs (nI i + 2 : Int32).toNatClampNeg)]) (rest := []) (tkL_45 (d := 19)) rfl rfl (kk_ok hL0.iv rfl) rfl ?_
  obtain ⟨hq0, o, hv0⟩ := hL0
  refine j6_give 7 hq0 hv0 (fun M1 hq8 e3 hv9 => ?_)
  have c6 : mC M1 ≤ mC M + 1 := by rw [mC_1 e3]; exact c00
  have s7 : mS M1 ≤ mS M + 6 := by rw [mS_1 e3]; exact s00
  show Wf l (n, xs) uL 20 false (1000, 10000) 1685 [(0, .ref 4999), (1, .ref 1), (2, .ref 150), (3, .ref 167), (4, .int (nI i))] [.int (lft (fun A => aGive A (xs (nI i + 1 : Int32).toNatClampNeg) (xs (nI i + 2 : Int32).toNatClampNeg)) (-1) o).1] M1 kr
  refine Wf.sPop (tkL_45 (d := 19)) rfl rfl ?_
  refine Wf.sAl (tkL_45 (d := 19)) rfl rfl rfl ?_
  refine Wf.sAl (tkL_45 (d := 19)) rfl rfl rfl ?_
  refine Wf.sIl (tkL_45 (d := 19)) rfl rfl ?_
  refine Wf.sIc (tkL_45 (d := 19)) rfl ?_
  refine Wf.s2 (tkL_45 (d := 19)) rfl ?_
  refine Wf.sScd (tkL_45 (d := 19)) rfl (vi1 hi hn) ?_
  show Wf l (n, xs) uL 20 false (1000, 10000) 1693 [(0, .ref 4999), (1, .ref 1), (2, .ref 150), (3, .ref 167), (4, .int (nI i))] [.int (xs (nI i + 1 : Int32).toNatClampNeg), .ref 150] M1 kr
  refine Wf.sAl (tkL_45 (d := 19)) rfl rfl rfl ?_
  refine Wf.sIl (tkL_45 (d := 19)) rfl rfl ?_
  refine Wf.sIc (tkL_45 (d := 19)) rfl ?_
  refine Wf.s2 (tkL_45 (d := 19)) rfl ?_
  refine Wf.sScd (tkL_45 (d := 19)) rfl (vi2 hi hn) ?_
  show Wf l (n, xs) uL 20 false (1000, 10000) 1699 [(0, .ref 4999), (1, .ref 1), (2, .ref 150), (3, .ref 167), (4, .int (nI i))] [.int (xs (nI i + 2 : Int32).toNatClampNeg), .int (xs (nI i + 1 : Int32).toNatClampNeg), .ref 150] M1 kr
  refine Wf.sCv (as := [.int (xs (nI i + 1 : Int32).toNatClampNeg), .int (xs (nI i + 2 : Int32).toNatClampNeg)]) (rest := []) (tkL_45 (d := 19)) rfl rfl (kk_ok hq8.iv rfl) rfl ?_
  refine j7_give 7 hq8 hv9 (fun M10 hq19 e12 hv18 => ?_)
  have hq17 : LX M10 := ⟨hq19, _, hv18⟩
  have c15 : mC M10 ≤ mC M + 1 := by rw [mC_1 e12]; exact c6
  have s16 : mS M10 ≤ mS M + 6 := by rw [mS_1 e12]; exact s7
  show Wf l (n, xs) uL 20 false (1000, 10000) 1702 [(0, .ref 4999), (1, .ref 1), (2, .ref 150), (3, .ref 167), (4, .int (nI i))] [.int (lft (fun A => aGive A (xs (nI i + 1 : Int32).toNatClampNeg) (xs (nI i + 2 : Int32).toNatClampNeg)) (-1) o).1] M10 kr
  refine Wf.sPop (tkL_45 (d := 19)) rfl rfl ?_
  refine Wf.sGo (tkL_45 (d := 19)) rfl ?_
  show Wf l (n, xs) uL 20 false (1000, 10000) 1885 [(0, .ref 4999), (1, .ref 1), (2, .ref 150), (3, .ref 167), (4, .int (nI i))] [] M10 kr
  exact h M10 hq17 c15 s16
set_option maxRecDepth 20000 in
theorem lawc_46 (hi : i + 6 ≤ n) (hn : n ≤ 3072) (hL0 : LX M) (h : ∀ M', LX M' → mC M' ≤ mC M + 1 → mS M' ≤ mS M + 6 → Wf l (n, xs) uL 20 false (1000, 10000) 1885 [(0, .ref 4999), (1, .ref 1), (2, .ref 150), (3, .ref 167), (4, .int (nI i))] [] M' kr) : Wf l (n, xs) uL 20 false (1000, 10000) 1706 [(0, .ref 4999), (1, .ref 1), (2, .ref 150), (3, .ref 167), (4, .int (nI i))] [] M kr := by
  have c00 : mC M ≤ mC M + 1 := Nat.le_succ _
  have s00 : mS M ≤ mS M + 6 := Nat.le_add_right _ _
  refine Wf.sAl (tkL_46 (d := 19)) rfl rfl rfl ?_
  refine Wf.sAl (tkL_46 (d := 19)) rfl rfl rfl ?_
  refine Wf.sIl (tkL_46 (d := 19)) rfl rfl ?_
  refine Wf.sIc (tkL_46 (d := 19)) rfl ?_
  refine Wf.s2 (tkL_46 (d := 19)) rfl ?_
  refine Wf.sScd (tkL_46 (d := 19)) rfl (vi1 hi hn) ?_
  show Wf l (n, xs) uL 20 false (1000, 10000) 1713 [(0, .ref 4999), (1, .ref 1), (2, .ref 150), (3, .ref 167), (4, .int (nI i))] [.int (xs (nI i + 1 : Int32).toNatClampNeg), .ref 1] M kr
  refine Wf.sCv (as := [.int (xs (nI i + 1 : Int32).toNatClampNeg)]) (rest := []) (tkL_46 (d := 19)) rfl rfl (kk_ok hL0.iv rfl) rfl ?_
  obtain ⟨hq0, o, hv0⟩ := hL0
  refine j6_mend 7 hq0 hv0 (fun M1 hq8 e3 hv9 => ?_)
  have c6 : mC M1 ≤ mC M + 1 := by rw [mC_1 e3]; exact c00
  have s7 : mS M1 ≤ mS M + 6 := by rw [mS_1 e3]; exact s00
  show Wf l (n, xs) uL 20 false (1000, 10000) 1716 [(0, .ref 4999), (1, .ref 1), (2, .ref 150), (3, .ref 167), (4, .int (nI i))] [.int (lft (fun A => aMend A (xs (nI i + 1 : Int32).toNatClampNeg)) 0 o).1] M1 kr
  refine Wf.sPop (tkL_46 (d := 19)) rfl rfl ?_
  refine Wf.sAl (tkL_46 (d := 19)) rfl rfl rfl ?_
  refine Wf.sAl (tkL_46 (d := 19)) rfl rfl rfl ?_
  refine Wf.sIl (tkL_46 (d := 19)) rfl rfl ?_
  refine Wf.sIc (tkL_46 (d := 19)) rfl ?_
  refine Wf.s2 (tkL_46 (d := 19)) rfl ?_
  refine Wf.sScd (tkL_46 (d := 19)) rfl (vi1 hi hn) ?_
  show Wf l (n, xs) uL 20 false (1000, 10000) 1724 [(0, .ref 4999), (1, .ref 1), (2, .ref 150), (3, .ref 167), (4, .int (nI i))] [.int (xs (nI i + 1 : Int32).toNatClampNeg), .ref 150] M1 kr
  refine Wf.sCv (as := [.int (xs (nI i + 1 : Int32).toNatClampNeg)]) (rest := []) (tkL_46 (d := 19)) rfl rfl (kk_ok hq8.iv rfl) rfl ?_
  refine j7_mend 7 hq8 hv9 (fun M10 hq19 e12 hv18 => ?_)
  have hq17 : LX M10 := ⟨hq19, _, hv18⟩
  have c15 : mC M10 ≤ mC M + 1 := by rw [mC_1 e12]; exact c6
  have s16 : mS M10 ≤ mS M + 6 := by rw [mS_1 e12]; exact s7
  show Wf l (n, xs) uL 20 false (1000, 10000) 1727 [(0, .ref 4999), (1, .ref 1), (2, .ref 150), (3, .ref 167), (4, .int (nI i))] [.int (lft (fun A => aMend A (xs (nI i + 1 : Int32).toNatClampNeg)) 0 o).1] M10 kr
  refine Wf.sPop (tkL_46 (d := 19)) rfl rfl ?_
  refine Wf.sGo (tkL_46 (d := 19)) rfl ?_
  show Wf l (n, xs) uL 20 false (1000, 10000) 1885 [(0, .ref 4999), (1, .ref 1), (2, .ref 150), (3, .ref 167), (4, .int (nI i))] [] M10 kr
  exact h M10 hq17 c15 s16
end LAWC
end
section
/-! the law's cases over its states -/
section LAWC
variable {l : Launch} {xs : Nat → Int32} {kr : KR} {i n : Nat} {M : Mm}
set_option maxRecDepth 20000 in
theorem lawc_47 (hi : i + 6 ≤ n) (hn : n ≤ 3072) (hL0 : LX M) (h : ∀ M', LX M' → mC M' ≤ mC M + 1 → mS M' ≤ mS M + 6 → Wf l (n, xs) uL 20 false (1000, 10000) 1885 [(0, .ref 4999), (1, .ref 1), (2, .ref 150), (3, .ref 167), (4, .int (nI i))] [] M' kr) : Wf l (n, xs) uL 20 false (1000, 10000) 1731 [(0, .ref 4999), (1, .ref 1), (2, .ref 150), (3, .ref 167), (4, .int (nI i))] [] M kr := by
  have c00 : mC M ≤ mC M + 1 := Nat.le_succ _
  have s00 : mS M ≤ mS M + 6 := Nat.le_add_right _ _
  refine Wf.sAl (tkL_47 (d := 19)) rfl rfl rfl ?_
  refine Wf.sAl (tkL_47 (d := 19)) rfl rfl rfl ?_
  refine Wf.sIl (tkL_47 (d := 19)) rfl rfl ?_
  refine Wf.sIc (tkL_47 (d := 19)) rfl ?_
  refine Wf.s2 (tkL_47 (d := 19)) rfl ?_
  refine Wf.sScd (tkL_47 (d := 19)) rfl (vi1 hi hn) ?_
  show Wf l (n, xs) uL 20 false (1000, 10000) 1738 [(0, .ref 4999), (1, .ref 1), (2, .ref 150), (3, .ref 167), (4, .int (nI i))] [.int (xs (nI i + 1 : Int32).toNatClampNeg), .ref 1] M kr
  refine Wf.sAl (tkL_47 (d := 19)) rfl rfl rfl ?_
  refine Wf.sIl (tkL_47 (d := 19)) rfl rfl ?_
  refine Wf.sIc (tkL_47 (d := 19)) rfl ?_
  refine Wf.s2 (tkL_47 (d := 19)) rfl ?_
  refine Wf.sScd (tkL_47 (d := 19)) rfl (vi2 hi hn) ?_
  show Wf l (n, xs) uL 20 false (1000, 10000) 1744 [(0, .ref 4999), (1, .ref 1), (2, .ref 150), (3, .ref 167), (4, .int (nI i))] [.int (xs (nI i + 2 : Int32).toNatClampNeg), .int (xs (nI i + 1 : Int32).toNatClampNeg), .ref 1] M kr
  refine Wf.sCv (as := [.int (xs (nI i + 1 : Int32).toNatClampNeg), .int (xs (nI i + 2 : Int32).toNatClampNeg)]) (rest := []) (tkL_47 (d := 19)) rfl rfl (kk_ok hL0.iv rfl) rfl ?_
  obtain ⟨hq0, o, hv0⟩ := hL0
  refine j6_vex 7 hq0 hv0 (fun M1 hq8 e3 hv9 => ?_)
  have c6 : mC M1 ≤ mC M + 1 := by rw [mC_1 e3]; exact c00
  have s7 : mS M1 ≤ mS M + 6 := by rw [mS_1 e3]; exact s00
  show Wf l (n, xs) uL 20 false (1000, 10000) 1747 [(0, .ref 4999), (1, .ref 1), (2, .ref 150), (3, .ref 167), (4, .int (nI i))] [.int (lft (fun A => aVex A (xs (nI i + 1 : Int32).toNatClampNeg) (xs (nI i + 2 : Int32).toNatClampNeg)) (-1) o).1] M1 kr
  refine Wf.sPop (tkL_47 (d := 19)) rfl rfl ?_
  refine Wf.sAl (tkL_47 (d := 19)) rfl rfl rfl ?_
  refine Wf.sAl (tkL_47 (d := 19)) rfl rfl rfl ?_
  refine Wf.sIl (tkL_47 (d := 19)) rfl rfl ?_
  refine Wf.sIc (tkL_47 (d := 19)) rfl ?_
  refine Wf.s2 (tkL_47 (d := 19)) rfl ?_
  refine Wf.sScd (tkL_47 (d := 19)) rfl (vi1 hi hn) ?_
  show Wf l (n, xs) uL 20 false (1000, 10000) 1755 [(0, .ref 4999), (1, .ref 1), (2, .ref 150), (3, .ref 167), (4, .int (nI i))] [.int (xs (nI i + 1 : Int32).toNatClampNeg), .ref 150] M1 kr
  refine Wf.sAl (tkL_47 (d := 19)) rfl rfl rfl ?_
  refine Wf.sIl (tkL_47 (d := 19)) rfl rfl ?_
  refine Wf.sIc (tkL_47 (d := 19)) rfl ?_
  refine Wf.s2 (tkL_47 (d := 19)) rfl ?_
  refine Wf.sScd (tkL_47 (d := 19)) rfl (vi2 hi hn) ?_
  show Wf l (n, xs) uL 20 false (1000, 10000) 1761 [(0, .ref 4999), (1, .ref 1), (2, .ref 150), (3, .ref 167), (4, .int (nI i))] [.int (xs (nI i + 2 : Int32).toNatClampNeg), .int (xs (nI i + 1 : Int32).toNatClampNeg), .ref 150] M1 kr
  refine Wf.sCv (as := [.int (xs (nI i + 1 : Int32).toNatClampNeg), .int (xs (nI i + 2 : Int32).toNatClampNeg)]) (rest := []) (tkL_47 (d := 19)) rfl rfl (kk_ok hq8.iv rfl) rfl ?_
  refine j7_vex 7 hq8 hv9 (fun M10 hq19 e12 hv18 => ?_)
  have hq17 : LX M10 := ⟨hq19, _, hv18⟩
  have c15 : mC M10 ≤ mC M + 1 := by rw [mC_1 e12]; exact c6
  have s16 : mS M10 ≤ mS M + 6 := by rw [mS_1 e12]; exact s7
  show Wf l (n, xs) uL 20 false (1000, 10000) 1764 [(0, .ref 4999), (1, .ref 1), (2, .ref 150), (3, .ref 167), (4, .int (nI i))] [.int (lft (fun A => aVex A (xs (nI i + 1 : Int32).toNatClampNeg) (xs (nI i + 2 : Int32).toNatClampNeg)) (-1) o).1] M10 kr
  refine Wf.sPop (tkL_47 (d := 19)) rfl rfl ?_
  refine Wf.sGo (tkL_47 (d := 19)) rfl ?_
  show Wf l (n, xs) uL 20 false (1000, 10000) 1885 [(0, .ref 4999), (1, .ref 1), (2, .ref 150), (3, .ref 167), (4, .int (nI i))] [] M10 kr
  exact h M10 hq17 c15 s16
set_option maxRecDepth 20000 in
theorem lawc_48 (hi : i + 6 ≤ n) (hn : n ≤ 3072) (hL0 : LX M) (h : ∀ M', LX M' → mC M' ≤ mC M + 1 → mS M' ≤ mS M + 6 → Wf l (n, xs) uL 20 false (1000, 10000) 1885 [(0, .ref 4999), (1, .ref 1), (2, .ref 150), (3, .ref 167), (4, .int (nI i))] [] M' kr) : Wf l (n, xs) uL 20 false (1000, 10000) 1768 [(0, .ref 4999), (1, .ref 1), (2, .ref 150), (3, .ref 167), (4, .int (nI i))] [] M kr := by
  have c00 : mC M ≤ mC M + 1 := Nat.le_succ _
  have s00 : mS M ≤ mS M + 6 := Nat.le_add_right _ _
  refine Wf.sAl (tkL_48 (d := 19)) rfl rfl rfl ?_
  refine Wf.sCv (as := []) (rest := []) (tkL_48 (d := 19)) rfl rfl (kk_ok hL0.iv rfl) rfl ?_
  obtain ⟨hq0, o, hv0⟩ := hL0
  refine j6_undo 7 hq0 hv0 (fun M1 hq8 e3 hv9 => ?_)
  have c6 : mC M1 ≤ mC M + 1 := by rw [mC_1 e3]; exact c00
  have s7 : mS M1 ≤ mS M + 6 := by rw [mS_1 e3]; exact s00
  show Wf l (n, xs) uL 20 false (1000, 10000) 1772 [(0, .ref 4999), (1, .ref 1), (2, .ref 150), (3, .ref 167), (4, .int (nI i))] [.int (lft (fun A => aUndo A) 0 o).1] M1 kr
  refine Wf.sPop (tkL_48 (d := 19)) rfl rfl ?_
  refine Wf.sAl (tkL_48 (d := 19)) rfl rfl rfl ?_
  refine Wf.sCv (as := []) (rest := []) (tkL_48 (d := 19)) rfl rfl (kk_ok hq8.iv rfl) rfl ?_
  refine j7_undo 7 hq8 hv9 (fun M10 hq19 e12 hv18 => ?_)
  have hq17 : LX M10 := ⟨hq19, _, hv18⟩
  have c15 : mC M10 ≤ mC M + 1 := by rw [mC_1 e12]; exact c6
  have s16 : mS M10 ≤ mS M + 6 := by rw [mS_1 e12]; exact s7
  show Wf l (n, xs) uL 20 false (1000, 10000) 1777 [(0, .ref 4999), (1, .ref 1), (2, .ref 150), (3, .ref 167), (4, .int (nI i))] [.int (lft (fun A => aUndo A) 0 o).1] M10 kr
  refine Wf.sPop (tkL_48 (d := 19)) rfl rfl ?_
  refine Wf.sGo (tkL_48 (d := 19)) rfl ?_
  show Wf l (n, xs) uL 20 false (1000, 10000) 1885 [(0, .ref 4999), (1, .ref 1), (2, .ref 150), (3, .ref 167), (4, .int (nI i))] [] M10 kr
  exact h M10 hq17 c15 s16
set_option maxRecDepth 20000 in
theorem lawc_49 (hi : i + 6 ≤ n) (hn : n ≤ 3072) (hL0 : LX M) (h : ∀ M', LX M' → mC M' ≤ mC M + 1 → mS M' ≤ mS M + 6 → Wf l (n, xs) uL 20 false (1000, 10000) 1885 [(0, .ref 4999), (1, .ref 1), (2, .ref 150), (3, .ref 167), (4, .int (nI i))] [] M' kr) : Wf l (n, xs) uL 20 false (1000, 10000) 1781 [(0, .ref 4999), (1, .ref 1), (2, .ref 150), (3, .ref 167), (4, .int (nI i))] [] M kr := by
  have c00 : mC M ≤ mC M + 1 := Nat.le_succ _
  have s00 : mS M ≤ mS M + 6 := Nat.le_add_right _ _
  refine Wf.sAl (tkL_49 (d := 19)) rfl rfl rfl ?_
  refine Wf.sCv (as := []) (rest := []) (tkL_49 (d := 19)) rfl rfl (kk_ok hL0.iv rfl) rfl ?_
  obtain ⟨hq0, o, hv0⟩ := hL0
  refine j6_image 7 hq0 hv0 (fun M1 hq8 e3 hv9 => ?_)
  have c6 : mC M1 ≤ mC M + 1 := by rw [mC_1 e3]; exact c00
  have s7 : mS M1 ≤ mS M + 6 := by rw [mS_1 e3]; exact s00
  show Wf l (n, xs) uL 20 false (1000, 10000) 1785 [(0, .ref 4999), (1, .ref 1), (2, .ref 150), (3, .ref 167), (4, .int (nI i))] [.int (lft (fun A => aImage A) (-1) o).1] M1 kr
  refine Wf.sPop (tkL_49 (d := 19)) rfl rfl ?_
  refine Wf.sAl (tkL_49 (d := 19)) rfl rfl rfl ?_
  refine Wf.sCv (as := []) (rest := []) (tkL_49 (d := 19)) rfl rfl (kk_ok hq8.iv rfl) rfl ?_
  refine j7_image 7 hq8 hv9 (fun M10 hq19 e12 hv18 => ?_)
  have hq17 : LX M10 := ⟨hq19, _, hv18⟩
  have c15 : mC M10 ≤ mC M + 1 := by rw [mC_1 e12]; exact c6
  have s16 : mS M10 ≤ mS M + 6 := by rw [mS_1 e12]; exact s7
  show Wf l (n, xs) uL 20 false (1000, 10000) 1790 [(0, .ref 4999), (1, .ref 1), (2, .ref 150), (3, .ref 167), (4, .int (nI i))] [.int (lft (fun A => aImage A) (-1) o).1] M10 kr
  refine Wf.sPop (tkL_49 (d := 19)) rfl rfl ?_
  refine Wf.sGo (tkL_49 (d := 19)) rfl ?_
  show Wf l (n, xs) uL 20 false (1000, 10000) 1885 [(0, .ref 4999), (1, .ref 1), (2, .ref 150), (3, .ref 167), (4, .int (nI i))] [] M10 kr
  exact h M10 hq17 c15 s16
set_option maxRecDepth 20000 in
theorem lawc_50 (hi : i + 6 ≤ n) (hn : n ≤ 3072) (hL0 : LX M) (h : ∀ M', LX M' → mC M' ≤ mC M + 1 → mS M' ≤ mS M + 6 → Wf l (n, xs) uL 20 false (1000, 10000) 1885 [(0, .ref 4999), (1, .ref 1), (2, .ref 150), (3, .ref 167), (4, .int (nI i))] [] M' kr) : Wf l (n, xs) uL 20 false (1000, 10000) 1794 [(0, .ref 4999), (1, .ref 1), (2, .ref 150), (3, .ref 167), (4, .int (nI i))] [] M kr := by
  have c00 : mC M ≤ mC M + 1 := Nat.le_succ _
  have s00 : mS M ≤ mS M + 6 := Nat.le_add_right _ _
  refine Wf.sAl (tkL_50 (d := 19)) rfl rfl rfl ?_
  refine Wf.sAl (tkL_50 (d := 19)) rfl rfl rfl ?_
  refine Wf.sIl (tkL_50 (d := 19)) rfl rfl ?_
  refine Wf.sIc (tkL_50 (d := 19)) rfl ?_
  refine Wf.s2 (tkL_50 (d := 19)) rfl ?_
  refine Wf.sScd (tkL_50 (d := 19)) rfl (vi1 hi hn) ?_
  show Wf l (n, xs) uL 20 false (1000, 10000) 1801 [(0, .ref 4999), (1, .ref 1), (2, .ref 150), (3, .ref 167), (4, .int (nI i))] [.int (xs (nI i + 1 : Int32).toNatClampNeg), .ref 1] M kr
  refine Wf.sCv (as := [.int (xs (nI i + 1 : Int32).toNatClampNeg)]) (rest := []) (tkL_50 (d := 19)) rfl rfl (kk_ok hL0.iv rfl) rfl ?_
  obtain ⟨hq0, o, hv0⟩ := hL0
  refine j6_back 7 hq0 hv0 (fun M1 hq8 e3 hv9 => ?_)
  have c6 : mC M1 ≤ mC M + 1 := by rw [mC_1 e3]; exact c00
  have s7 : mS M1 ≤ mS M + 6 := by rw [mS_1 e3]; exact s00
  show Wf l (n, xs) uL 20 false (1000, 10000) 1804 [(0, .ref 4999), (1, .ref 1), (2, .ref 150), (3, .ref 167), (4, .int (nI i))] [.int (lft (fun A => aBack A (xs (nI i + 1 : Int32).toNatClampNeg)) 0 o).1] M1 kr
  refine Wf.sPop (tkL_50 (d := 19)) rfl rfl ?_
  refine Wf.sAl (tkL_50 (d := 19)) rfl rfl rfl ?_
  refine Wf.sAl (tkL_50 (d := 19)) rfl rfl rfl ?_
  refine Wf.sIl (tkL_50 (d := 19)) rfl rfl ?_
  refine Wf.sIc (tkL_50 (d := 19)) rfl ?_
  refine Wf.s2 (tkL_50 (d := 19)) rfl ?_
  refine Wf.sScd (tkL_50 (d := 19)) rfl (vi1 hi hn) ?_
  show Wf l (n, xs) uL 20 false (1000, 10000) 1812 [(0, .ref 4999), (1, .ref 1), (2, .ref 150), (3, .ref 167), (4, .int (nI i))] [.int (xs (nI i + 1 : Int32).toNatClampNeg), .ref 150] M1 kr
  refine Wf.sCv (as := [.int (xs (nI i + 1 : Int32).toNatClampNeg)]) (rest := []) (tkL_50 (d := 19)) rfl rfl (kk_ok hq8.iv rfl) rfl ?_
  refine j7_back 7 hq8 hv9 (fun M10 hq19 e12 hv18 => ?_)
  have hq17 : LX M10 := ⟨hq19, _, hv18⟩
  have c15 : mC M10 ≤ mC M + 1 := by rw [mC_1 e12]; exact c6
  have s16 : mS M10 ≤ mS M + 6 := by rw [mS_1 e12]; exact s7
  show Wf l (n, xs) uL 20 false (1000, 10000) 1815 [(0, .ref 4999), (1, .ref 1), (2, .ref 150), (3, .ref 167), (4, .int (nI i))] [.int (lft (fun A => aBack A (xs (nI i + 1 : Int32).toNatClampNeg)) 0 o).1] M10 kr
  refine Wf.sPop (tkL_50 (d := 19)) rfl rfl ?_
  refine Wf.sGo (tkL_50 (d := 19)) rfl ?_
  show Wf l (n, xs) uL 20 false (1000, 10000) 1885 [(0, .ref 4999), (1, .ref 1), (2, .ref 150), (3, .ref 167), (4, .int (nI i))] [] M10 kr
  exact h M10 hq17 c15 s16
set_option maxRecDepth 20000 in
theorem lawc_51 (hl0 : l.stackTraces = false) (hC : mC M + 1 ≤ 1000) (hS : mS M + 6 ≤ 10000) (hi : i + 6 ≤ n) (hn : n ≤ 3072) (hL0 : LX M) (h : ∀ M', LX M' → mC M' ≤ mC M + 1 → mS M' ≤ mS M + 6 → Wf l (n, xs) uL 20 false (1000, 10000) 1885 [(0, .ref 4999), (1, .ref 1), (2, .ref 150), (3, .ref 167), (4, .int (nI i))] [] M' kr) : Wf l (n, xs) uL 20 false (1000, 10000) 1819 [(0, .ref 4999), (1, .ref 1), (2, .ref 150), (3, .ref 167), (4, .int (nI i))] [] M kr := by
  have c00 : mC M ≤ mC M + 1 := Nat.le_succ _
  have s00 : mS M ≤ mS M + 6 := Nat.le_add_right _ _
  refine Wf.sAl (tkL_51 (d := 19)) rfl rfl rfl ?_
  refine Wf.sAl (tkL_51 (d := 19)) rfl rfl rfl ?_
  refine Wf.sIl (tkL_51 (d := 19)) rfl rfl ?_
  refine Wf.sIc (tkL_51 (d := 19)) rfl ?_
  refine Wf.s2 (tkL_51 (d := 19)) rfl ?_
  refine Wf.sScd (tkL_51 (d := 19)) rfl (vi1 hi hn) ?_
  show Wf l (n, xs) uL 20 false (1000, 10000) 1826 [(0, .ref 4999), (1, .ref 1), (2, .ref 150), (3, .ref 167), (4, .int (nI i))] [.int (xs (nI i + 1 : Int32).toNatClampNeg), .ref 1] M kr
  refine Wf.sAl (tkL_51 (d := 19)) rfl rfl rfl ?_
  have jn4 : ∀ (v1 : Int32) (M2 : Mm), LX M2 → mC M2 ≤ mC M + 1 → mS M2 ≤ mS M + 6 → Wf l (n, xs) uL 20 false (1000, 10000) 1830 [(0, .ref 4999), (1, .ref 1), (2, .ref 150), (3, .ref 167), (4, .int (nI i))] [.int v1] M2 kr := by
    intro v1 M2 hL3 c0 s0
    refine Wf.sIs (tkL_51 (d := 19)) rfl rfl ?_
    show Wf l (n, xs) uL 20 false (1000, 10000) 1832 [(0, .ref 4999), (1, .ref 1), (2, .ref 150), (3, .ref 167), (4, .int (nI i)), (5, .int v1)] [] M2 kr
    refine Wf.sAl (tkL_51 (d := 19)) rfl rfl rfl ?_
    refine Wf.sAl (tkL_51 (d := 19)) rfl rfl rfl ?_
    refine Wf.sIl (tkL_51 (d := 19)) rfl rfl ?_
    refine Wf.sIc (tkL_51 (d := 19)) rfl ?_
    refine Wf.s2 (tkL_51 (d := 19)) rfl ?_
    refine Wf.sScd (tkL_51 (d := 19)) rfl (vi1 hi hn) ?_
    show Wf l (n, xs) uL 20 false (1000, 10000) 1839 [(0, .ref 4999), (1, .ref 1), (2, .ref 150), (3, .ref 167), (4, .int (nI i)), (5, .int v1)] [.int (xs (nI i + 1 : Int32).toNatClampNeg), .ref 150] M2 kr
    refine Wf.sCv (as := [.int (xs (nI i + 1 : Int32).toNatClampNeg)]) (rest := []) (tkL_51 (d := 19)) rfl rfl (kk_ok hL3.iv rfl) rfl ?_
    refine p7_led 7 hL3.li (fun x8 M5 hl13 e7 k9 => ?_)
    have hq12 := LX_k hL3 hl13 e7 k9 (by decide +kernel)
    have c10 : mC M5 ≤ mC M + 1 := by rw [mC_1 e7]; exact c0
    have s11 : mS M5 ≤ mS M + 6 := by rw [mS_1 e7]; exact s0
    show Wf l (n, xs) uL 20 false (1000, 10000) 1842 [(0, .ref 4999), (1, .ref 1), (2, .ref 150), (3, .ref 167), (4, .int (nI i)), (5, .int v1)] [.int x8] M5 kr
    refine Wf.sIs (tkL_51 (d := 19)) rfl rfl ?_
    show Wf l (n, xs) uL 20 false (1000, 10000) 1844 [(0, .ref 4999), (1, .ref 1), (2, .ref 150), (3, .ref 167), (4, .int (nI i)), (5, .int v1), (6, .int x8)] [] M5 kr
    refine Wf.sGo (tkL_51 (d := 19)) rfl ?_
    show Wf l (n, xs) uL 20 false (1000, 10000) 1885 [(0, .ref 4999), (1, .ref 1), (2, .ref 150), (3, .ref 167), (4, .int (nI i)), (5, .int v1), (6, .int x8)] [] M5 kr
    refine Wf.keep [0, 1, 2, 3, 4] ?_
    exact h M5 hq12 c10 s11
  refine Wf.sCl (tkL_51 (d := 19)) rfl (rj_LS hL0.iv.1 hC hS) ?_
  exact fun D g ad A => ledL (d := 9) hl0 hL0.iv (LI_e hL0.li) (fun w => ⟨⟨rfl, rfl⟩, jn4 _ _ (LX_gw (LX_wL hL0)) (Nat.le_refl _) (Nat.le_refl _)⟩) ⟨⟨rfl, rfl⟩, jn4 _ _ (LX_gw hL0) (Nat.le_refl _) (Nat.le_refl _)⟩ D g ad A
set_option maxRecDepth 20000 in
theorem lawc_52 (hi : i + 6 ≤ n) (hn : n ≤ 3072) (hL0 : LX M) (h : ∀ M', LX M' → mC M' ≤ mC M + 1 → mS M' ≤ mS M + 6 → Wf l (n, xs) uL 20 false (1000, 10000) 1885 [(0, .ref 4999), (1, .ref 1), (2, .ref 150), (3, .ref 167), (4, .int (nI i))] [] M' kr) : Wf l (n, xs) uL 20 false (1000, 10000) 1847 [(0, .ref 4999), (1, .ref 1), (2, .ref 150), (3, .ref 167), (4, .int (nI i))] [] M kr := by
  have c00 : mC M ≤ mC M + 1 := Nat.le_succ _
  have s00 : mS M ≤ mS M + 6 := Nat.le_add_right _ _
  refine Wf.sAl (tkL_52 (d := 19)) rfl rfl rfl ?_
  refine Wf.sAl (tkL_52 (d := 19)) rfl rfl rfl ?_
  refine Wf.sIl (tkL_52 (d := 19)) rfl rfl ?_
  refine Wf.sIc (tkL_52 (d := 19)) rfl ?_
  refine Wf.s2 (tkL_52 (d := 19)) rfl ?_
  refine Wf.sScd (tkL_52 (d := 19)) rfl (vi1 hi hn) ?_
  show Wf l (n, xs) uL 20 false (1000, 10000) 1854 [(0, .ref 4999), (1, .ref 1), (2, .ref 150), (3, .ref 167), (4, .int (nI i))] [.int (xs (nI i + 1 : Int32).toNatClampNeg), .ref 1] M kr
  refine Wf.sCv (as := [.int (xs (nI i + 1 : Int32).toNatClampNeg)]) (rest := []) (tkL_52 (d := 19)) rfl rfl (kk_ok hL0.iv rfl) rfl ?_
  refine p6_size 7 hL0.li (fun x4 M1 hl9 e3 k5 => ?_)
  have hq8 := LX_k hL0 hl9 e3 k5 (by decide +kernel)
  have c6 : mC M1 ≤ mC M + 1 := by rw [mC_1 e3]; exact c00
  have s7 : mS M1 ≤ mS M + 6 := by rw [mS_1 e3]; exact s00
  show Wf l (n, xs) uL 20 false (1000, 10000) 1857 [(0, .ref 4999), (1, .ref 1), (2, .ref 150), (3, .ref 167), (4, .int (nI i))] [.int x4] M1 kr
  refine Wf.sPop (tkL_52 (d := 19)) rfl rfl ?_
  refine Wf.sAl (tkL_52 (d := 19)) rfl rfl rfl ?_
  refine Wf.sAl (tkL_52 (d := 19)) rfl rfl rfl ?_
  refine Wf.sIl (tkL_52 (d := 19)) rfl rfl ?_
  refine Wf.sIc (tkL_52 (d := 19)) rfl ?_
  refine Wf.s2 (tkL_52 (d := 19)) rfl ?_
  refine Wf.sScd (tkL_52 (d := 19)) rfl (vi1 hi hn) ?_
  show Wf l (n, xs) uL 20 false (1000, 10000) 1865 [(0, .ref 4999), (1, .ref 1), (2, .ref 150), (3, .ref 167), (4, .int (nI i))] [.int (xs (nI i + 1 : Int32).toNatClampNeg), .ref 150] M1 kr
  refine Wf.sCv (as := [.int (xs (nI i + 1 : Int32).toNatClampNeg)]) (rest := []) (tkL_52 (d := 19)) rfl rfl (kk_ok hq8.iv rfl) rfl ?_
  refine p7_size 7 hq8.li (fun x13 M10 hl18 e12 k14 => ?_)
  have hq17 := LX_k hq8 hl18 e12 k14 (by decide +kernel)
  have c15 : mC M10 ≤ mC M + 1 := by rw [mC_1 e12]; exact c6
  have s16 : mS M10 ≤ mS M + 6 := by rw [mS_1 e12]; exact s7
  show Wf l (n, xs) uL 20 false (1000, 10000) 1868 [(0, .ref 4999), (1, .ref 1), (2, .ref 150), (3, .ref 167), (4, .int (nI i))] [.int x13] M10 kr
  refine Wf.sPop (tkL_52 (d := 19)) rfl rfl ?_
  refine Wf.sGo (tkL_52 (d := 19)) rfl ?_
  show Wf l (n, xs) uL 20 false (1000, 10000) 1885 [(0, .ref 4999), (1, .ref 1), (2, .ref 150), (3, .ref 167), (4, .int (nI i))] [] M10 kr
  exact h M10 hq17 c15 s16
set_option maxRecDepth 20000 in
theorem lawc_53 (hi : i + 6 ≤ n) (hn : n ≤ 3072) (hL0 : LX M) (h : ∀ M', LX M' → mC M' ≤ mC M + 1 → mS M' ≤ mS M + 6 → Wf l (n, xs) uL 20 false (1000, 10000) 1885 [(0, .ref 4999), (1, .ref 1), (2, .ref 150), (3, .ref 167), (4, .int (nI i))] [] M' kr) : Wf l (n, xs) uL 20 false (1000, 10000) 1872 [(0, .ref 4999), (1, .ref 1), (2, .ref 150), (3, .ref 167), (4, .int (nI i))] [] M kr := by
  have c00 : mC M ≤ mC M + 1 := Nat.le_succ _
  have s00 : mS M ≤ mS M + 6 := Nat.le_add_right _ _
  refine Wf.sAl (tkL_53 (d := 19)) rfl rfl rfl ?_
  refine Wf.sCv (as := []) (rest := []) (tkL_53 (d := 19)) rfl rfl (kk_ok hL0.iv rfl) rfl ?_
  refine p6_trouble 7 hL0.li (fun x4 M1 hl9 e3 k5 => ?_)
  have hq8 := LX_k hL0 hl9 e3 k5 (by decide +kernel)
  have c6 : mC M1 ≤ mC M + 1 := by rw [mC_1 e3]; exact c00
  have s7 : mS M1 ≤ mS M + 6 := by rw [mS_1 e3]; exact s00
  show Wf l (n, xs) uL 20 false (1000, 10000) 1876 [(0, .ref 4999), (1, .ref 1), (2, .ref 150), (3, .ref 167), (4, .int (nI i))] [.int x4] M1 kr
  refine Wf.sPop (tkL_53 (d := 19)) rfl rfl ?_
  refine Wf.sAl (tkL_53 (d := 19)) rfl rfl rfl ?_
  refine Wf.sCv (as := []) (rest := []) (tkL_53 (d := 19)) rfl rfl (kk_ok hq8.iv rfl) rfl ?_
  refine p7_trouble 7 hq8.li (fun x13 M10 hl18 e12 k14 => ?_)
  have hq17 := LX_k hq8 hl18 e12 k14 (by decide +kernel)
  have c15 : mC M10 ≤ mC M + 1 := by rw [mC_1 e12]; exact c6
  have s16 : mS M10 ≤ mS M + 6 := by rw [mS_1 e12]; exact s7
  show Wf l (n, xs) uL 20 false (1000, 10000) 1881 [(0, .ref 4999), (1, .ref 1), (2, .ref 150), (3, .ref 167), (4, .int (nI i))] [.int x13] M10 kr
  refine Wf.sPop (tkL_53 (d := 19)) rfl rfl ?_
  refine Wf.sGo (tkL_53 (d := 19)) rfl ?_
  show Wf l (n, xs) uL 20 false (1000, 10000) 1885 [(0, .ref 4999), (1, .ref 1), (2, .ref 150), (3, .ref 167), (4, .int (nI i))] [] M10 kr
  exact h M10 hq17 c15 s16
end LAWC
end
section
/-! the law's beginning, its loop -/
section LAWP
variable {l : Launch} {X : Nat × (Nat → Int32)} {kr : KR}
noncomputable def MZ : Mm := mkD GZ 3864 (u2 I00 150 10 (-1))
set_option maxRecDepth 20000 in
/-- the law's beginning: the objects are made -/
theorem law_pre (h : Wf l X uL 20 false (1000, 10000) 23 [(0, .ref 4999), (1, .ref 1), (2, .ref 150), (3, .ref 167), (4, .int 0)] [] MZ kr) : Wf l X uL 20 false (1000, 10000) 0 [(0, .ref 4999)] [] (mkD [] 0 I00) kr := by
  refine OK.go (tkL_P (d := 19) (b := (1000, 10000)) (0, oNew (1000, 10000) 0 6 14) (List.mem_of_getElem? (i := 0) rfl)) ?_
  show Wf l X uL 20 false (1000, 10000) 3 [(0, .ref 4999)] [.ref 1] (wA (mkD [] 0 I00) (6, 0) 14) kr
  rw [wA_D (z := 14) (fun _ => rfl), E0_eq]
  refine OK.go (tkL_P (d := 19) (b := (1000, 10000)) (3, oDup 3) (List.mem_of_getElem? (i := 1) rfl)) ?_
  show Wf l X uL 20 false (1000, 10000) 4 [(0, .ref 4999)] [.ref 1, .ref 1] (mkD E0 14 I00) kr
  refine OK.go (tkL_P (d := 19) (b := (1000, 10000)) (4, oCi l X 19 (1000, 10000) 4 uX6_init 6 148 1873) (List.mem_of_getElem? (i := 2) rfl)) ?_
  show Ev l X uX6_init 19 false 148 1873 [.ref 1] (mkD E0 14 I00) (fun r M' => (mC M' = mC (mkD E0 14 I00) + 148 ∧ mS M' = mS (mkD E0 14 I00) + 1873) ∧ Wf l X uL 20 false (1000, 10000) (4 + 3) [(0, .ref 4999)] (r.toList ++ [.ref 1]) M' kr)
  refine sX6_init (d := 17) ⟨⟨by decide +kernel, by decide +kernel⟩, ?_⟩
  refine OK.go (tkL_P (d := 19) (b := (1000, 10000)) (7, oAs 7 1 1) (List.mem_of_getElem? (i := 3) rfl)) ?_
  show Wf l X uL 20 false (1000, 10000) 8 [(0, .ref 4999), (1, .ref 1)] [] (mkD E29 (14 + 1873) I00) kr
  refine OK.go (tkL_P (d := 19) (b := (1000, 10000)) (8, oNew (1000, 10000) 8 7 44) (List.mem_of_getElem? (i := 4) rfl)) ?_
  show Wf l X uL 20 false (1000, 10000) 11 [(0, .ref 4999), (1, .ref 1)] [.ref 150] (wA (mkD E29 (14 + 1873) I00) (7, 0) 44) kr
  rw [wA_D (z := 44) (fun _ => rfl), G0_eq]
  refine OK.go (tkL_P (d := 19) (b := (1000, 10000)) (11, oDup 11) (List.mem_of_getElem? (i := 5) rfl)) ?_
  show Wf l X uL 20 false (1000, 10000) 12 [(0, .ref 4999), (1, .ref 1)] [.ref 150, .ref 150] (mkD G0 (14 + 1873 + 44) I00) kr
  refine OK.go (tkL_P (d := 19) (b := (1000, 10000)) (12, oCi l X 19 (1000, 10000) 12 uX7_init 7 16 1932) (List.mem_of_getElem? (i := 6) rfl)) ?_
  show Ev l X uX7_init 19 false 16 1932 [.ref 150] (mkD G0 (14 + 1873 + 44) I00) (fun r M' => (mC M' = mC (mkD G0 (14 + 1873 + 44) I00) + 16 ∧ mS M' = mS (mkD G0 (14 + 1873 + 44) I00) + 1932) ∧ Wf l X uL 20 false (1000, 10000) (12 + 3) [(0, .ref 4999), (1, .ref 1)] (r.toList ++ [.ref 150]) M' kr)
  refine sX7_init (d := 18) (by unfold slf; decide +kernel) (by decide +kernel) ?_
  rw [cX7_eq]
  refine ⟨⟨by rfl, by rfl⟩, ?_⟩
  refine OK.go (tkL_P (d := 19) (b := (1000, 10000)) (15, oAs 15 1 2) (List.mem_of_getElem? (i := 7) rfl)) ?_
  show Wf l X uL 20 false (1000, 10000) 16 [(0, .ref 4999), (1, .ref 1), (2, .ref 150)] [] (mkD G16 3863 (u2 I00 150 10 (-1))) kr
  refine OK.go (tkL_P (d := 19) (b := (1000, 10000)) (16, oIc 16 1 1) (List.mem_of_getElem? (i := 8) rfl)) ?_
  show Wf l X uL 20 false (1000, 10000) 17 [(0, .ref 4999), (1, .ref 1), (2, .ref 150)] [.int 1] (mkD G16 3863 (u2 I00 150 10 (-1))) kr
  refine OK.go (tkL_P (d := 19) (b := (1000, 10000)) (17, oNa (1000, 10000) 17 10 1 1) (List.mem_of_getElem? (i := 9) rfl)) ?_
  show ((1 : Int32) = 1 ∧ Wf l X uL 20 false (1000, 10000) 19 [(0, .ref 4999), (1, .ref 1), (2, .ref 150)] [.ref 167] (wA (mkD G16 3863 (u2 I00 150 10 (-1))) (10, 1) 1) kr)
  refine ⟨rfl, ?_⟩
  rw [wA_D (z := 0) (fun j => rfl), GZ_eq]
  refine OK.go (tkL_P (d := 19) (b := (1000, 10000)) (19, oAs 19 1 3) (List.mem_of_getElem? (i := 10) rfl)) ?_
  show Wf l X uL 20 false (1000, 10000) 20 [(0, .ref 4999), (1, .ref 1), (2, .ref 150), (3, .ref 167)] [] (mkD GZ (3863 + 1) (u2 I00 150 10 (-1))) kr
  refine OK.go (tkL_P (d := 19) (b := (1000, 10000)) (20, oIc 20 1 0) (List.mem_of_getElem? (i := 11) rfl)) ?_
  refine OK.go (tkL_P (d := 19) (b := (1000, 10000)) (21, oIs 21 2 4) (List.mem_of_getElem? (i := 12) rfl)) ?_
  show Wf l X uL 20 false (1000, 10000) 23 [(0, .ref 4999), (1, .ref 1), (2, .ref 150), (3, .ref 167), (4, .int 0)] [] (mkD GZ 3864 (u2 I00 150 10 (-1))) kr
  exact h
end LAWP
section START
noncomputable def zrw (R : List (Nat × List Row)) : Bool := (List.range 168).all (fun a => (lkR R a).all (fun r => decide (r.2.2.1 ≤ 0) && decide (0 ≤ r.2.2.2)))
theorem rw_z {t : List Row} {k : Nat} : (t.all (fun r => decide (r.2.2.1 ≤ 0) && decide (0 ≤ r.2.2.2)) = true) → (rwB t k).1 ≤ 0 ∧ 0 ≤ (rwB t k).2 := by
  induction t with
  | nil => intro _; exact ⟨show iLo ≤ 0 by decide, show 0 ≤ iHi by decide⟩
  | cons r t ih =>
    intro h
    obtain ⟨h1, h2⟩ := andT h
    show (cond (rIn r k) (r.2.2.1, r.2.2.2) (rwB t k)).1 ≤ 0 ∧ 0 ≤ (cond (rIn r k) (r.2.2.1, r.2.2.2) (rwB t k)).2
    cases hr : rIn r k with
    | true => obtain ⟨h3, h4⟩ := andT h1; exact ⟨of_decide_eq_true h3, of_decide_eq_true h4⟩
    | false => exact ih h2
theorem mz_k : ∀ a, a < 168 → kd GZ a = kdT a := by decide +kernel
theorem mz_r : ∀ a, a < 168 → ∀ k, k < 60 → rd GZ a k ∈ rfN a k := by decide +kernel
theorem mz_l : ∀ a, a < 168 → ((GZ.getD (a - 1) (0, 0, [])).2.2).length ≤ 50 ∧ (rfT a).length ≤ 50 := by decide +kernel
theorem gd_z {t : List Nat} {k : Nat} (h : t.length ≤ k) : t.getD k 0 = 0 := by
  rw [List.getD_eq_getElem?_getD, List.getElem?_eq_none h]
  rfl
theorem mz_R {a k : Nat} (ha : a ≤ 167) : mR MZ a k ∈ rfN a k := by
  rcases Nat.lt_or_ge k 60 with h | h
  · exact mz_r a (by omega) k h
  · obtain ⟨l1, l2⟩ := mz_l a (by omega)
    have e2 : (rfT a).getD k 0 = 0 := gd_z (by omega)
    have e1 : rd GZ a k = 0 := by
      cases a with
      | zero => rfl
      | succ b => exact gd_z (t := (GZ.getD b (0, 0, [])).2.2) (Nat.le_trans l1 (by omega))
    show rd GZ a k ∈ rfN a k
    have e3 : rfN a k = [0] := by
      show cond (Nat.beq a 1 && (Nat.beq k 1 || Nat.beq k 2)) [7, 20] (cond (Nat.beq a 2 && Nat.beq k 3) [0, 7, 20] [(rfT a).getD k 0]) = [0]
      have q : ∀ c, c < 60 → Nat.beq k c = false := fun c hc => by
        cases hq : Nat.beq k c with
        | false => rfl
        | true => have := Nat.eq_of_beq_eq_true hq; omega
      rw [q 1 (by decide), q 2 (by decide), q 3 (by decide), e2]
      simp
    rw [e1, e3]
    exact List.mem_singleton.mpr rfl
theorem mz_I {R : List (Nat × List Row)} (h0 : zrw R = true) (h1 : rwB (lkR R 150) 10 = (iLo, iHi)) {a k : Nat} (ha : a ≤ 167) : (rwB (lkR R a) k).1 ≤ (mI MZ a k).toInt ∧ (mI MZ a k).toInt ≤ (rwB (lkR R a) k).2 := by
  by_cases e : a = 150 ∧ k = 10
  · obtain ⟨rfl, rfl⟩ := e
    rw [h1]
    exact ⟨i32_lo _, i32_hi _⟩
  · have e2 : mI MZ a k = 0 := by
      show (if a = 150 ∧ k = 10 then (-1 : Int32) else 0) = 0
      rw [if_neg e]
    rw [e2]
    exact rw_z (List.all_eq_true.mp h0 a (List.mem_range.mpr (by omega)))
theorem mz_n : 167 ≤ mN MZ := by
  show 167 ≤ GZ.length
  decide +kernel
theorem mz_g : GZ.length = 167 := by decide +kernel
theorem mz_c : 6 * mC MZ ≤ 1002 + 0 := by
  have e : mC MZ = 167 := mz_g
  rw [e]
  decide
theorem mz_Iv {R : List (Nat × List Row)} (h0 : zrw R = true) (h1 : rwB (lkR R 150) 10 = (iLo, iHi)) : Iv (mkP R) MZ :=
  ⟨mz_n, fun a ha => mz_k a (by omega), fun a k ha => mz_R ha, fun a k ha => mz_I h0 h1 ha⟩
set_option maxRecDepth 20000 in
theorem LI_MZ : LI MZ := ⟨mz_Iv (R := rwt8) (by decide +kernel) rfl, ⟨1, ⟨by decide, fun _ c _ h5 => by
  have e : (mI MZ 153 5).toInt = 0 := by decide +kernel
  rw [e] at h5
  omega⟩, mz_Iv (R := rwt6) (by decide +kernel) rfl⟩, 0, Nat.zero_le _, rfl, rfl⟩
theorem FM_MZ : FM MZ := ⟨mz_g, by decide +kernel⟩
theorem LQ_MZ : LQ MZ := ⟨⟨LI_MZ.1, LI_MZ.2.1, FM_MZ⟩, ⟨0, fun _ => 0, Nat.zero_le _, ⟨rfl, fun i hi => absurd hi (Nat.not_lt_zero _)⟩, rfl, fun i hi => absurd hi (Nat.not_lt_zero _)⟩, rfl⟩
theorem LX_MZ : LX MZ := by
  have e : mR MZ 1 1 = 7 := by decide +kernel
  refine ⟨LQ_MZ, none, trivial, ?_, rfl, rfl, rfl⟩
  rw [e]
  exact ⟨⟨⟨rfl, rfl, rfl, rfl, rfl, rfl, rfl, rfl⟩, fun f hf => absurd hf (Nat.not_lt_zero _), fun f hf => rfl, fun c hc => absurd hc (Nat.not_lt_zero _), fun c hc => absurd hc (Nat.not_lt_zero _), fun c hc => absurd hc (Nat.not_lt_zero _)⟩, rfl, rfl, rfl⟩
end START
end
section
/-! the law's loop -/
section LAWW
variable {l : Launch} {kr : KR} {xs : Nat → Int32} {i n : Nat} {M : Mm}
theorem nI_6 (i : Nat) : nI i + 6 = nI (i + 6) := nI_add i 6
set_option maxRecDepth 20000 in
theorem law_end (h : ∀ M', kr (some (.int 1)) M') : Wf l (n, xs) uL 20 false (1000, 10000) 1891 [(0, .ref 4999), (1, .ref 1), (2, .ref 150), (3, .ref 167), (4, .int (nI i))] [] M kr := by
  refine Wf.sIc (tkL_T (d := 19)) rfl ?_
  exact Wf.sZr (tkL_T (d := 19)) rfl (Or.inr rfl) (h M)
set_option maxRecDepth 20000 in
theorem law_tail (h : Wf l (n, xs) uL 20 false (1000, 10000) 23 [(0, .ref 4999), (1, .ref 1), (2, .ref 150), (3, .ref 167), (4, .int (nI (i + 6)))] [] M kr) : Wf l (n, xs) uL 20 false (1000, 10000) 1885 [(0, .ref 4999), (1, .ref 1), (2, .ref 150), (3, .ref 167), (4, .int (nI i))] [] M kr := by
  refine Wf.sInc (tkL_T (d := 19)) (ls' := [(0, .ref 4999), (1, .ref 1), (2, .ref 150), (3, .ref 167), (4, .int (nI (i + 6)))]) rfl rfl (by rw [← nI_6]; rfl) ?_
  refine Wf.sGo (tkL_T (d := 19)) rfl ?_
  exact h
set_option maxRecDepth 20000 in
/-- one turn -/
theorem law_turn (hl0 : l.stackTraces = false) (hn : n ≤ 3072) (hi : i ≤ n) (hL : LX M) (hC : 6 * mC M ≤ 1002 + i) (hS : mS M ≤ 3864 + i) (h : ∀ M', kr (some (.int 1)) M') (k : i + 6 ≤ n → ∀ M', LX M' → mC M' ≤ mC M + 1 → mS M' ≤ mS M + 6 → Wf l (n, xs) uL 20 false (1000, 10000) 23 [(0, .ref 4999), (1, .ref 1), (2, .ref 150), (3, .ref 167), (4, .int (nI (i + 6)))] [] M' kr) : Wf l (n, xs) uL 20 false (1000, 10000) 23 [(0, .ref 4999), (1, .ref 1), (2, .ref 150), (3, .ref 167), (4, .int (nI i))] [] M kr := by
  refine Wf.sIl (tkL_H (d := 19)) rfl rfl ?_
  refine Wf.sAl (tkL_H (d := 19)) rfl rfl rfl ?_
  refine Wf.sScl (tkL_H (d := 19)) rfl ?_
  refine Wf.sIc (tkL_H (d := 19)) rfl ?_
  refine Wf.s2 (tkL_H (d := 19)) rfl ?_
  show Wf l (n, xs) uL 20 false (1000, 10000) 30 [(0, .ref 4999), (1, .ref 1), (2, .ref 150), (3, .ref 167), (4, .int (nI i))] [.int (nI n - 6), .int (nI i)] M kr
  refine Wf.sCm (tkL_H (d := 19)) rfl (fun _ => law_end h) (fun z => ?_)
  have z : ¬ (nI n - 6 : Int32) < nI i := z
  rw [hd_gt hi hn] at z
  have h6 : i + 6 ≤ n := by omega
  have k := k h6
  refine Wf.sAl (tkL_H (d := 19)) rfl rfl rfl ?_
  refine Wf.sIl (tkL_H (d := 19)) rfl rfl ?_
  refine Wf.sScd (tkL_H (d := 19)) rfl (vi0 h6 hn) ?_
  refine Wf.sIc (tkL_H (d := 19)) rfl ?_
  refine Wf.s2 (tkL_H (d := 19)) rfl ?_
  refine Wf.sTs (tkL_H (d := 19)) rfl (fun j t hj _ => ?_) (law_tail (k M hL (Nat.le_succ _) (Nat.le_add_right _ _)))
  have tl : ∀ M', LX M' → mC M' ≤ mC M + 1 → mS M' ≤ mS M + 6 → Wf l (n, xs) uL 20 false (1000, 10000) 1885 [(0, .ref 4999), (1, .ref 1), (2, .ref 150), (3, .ref 167), (4, .int (nI i))] [] M' kr := fun M' a b c => law_tail (k M' a b c)
  have hlt : j < 54 := by
    rcases Nat.lt_or_ge j 54 with z | z
    · exact z
    · rw [List.getElem?_eq_none (by simpa using z)] at hj
      cases hj
  rcases (show j = 0 ∨ j = 1 ∨ j = 2 ∨ j = 3 ∨ j = 4 ∨ j = 5 ∨ j = 6 ∨ j = 7 ∨ j = 8 ∨ j = 9 ∨ j = 10 ∨ j = 11 ∨ j = 12 ∨ j = 13 ∨ j = 14 ∨ j = 15 ∨ j = 16 ∨ j = 17 ∨ j = 18 ∨ j = 19 ∨ j = 20 ∨ j = 21 ∨ j = 22 ∨ j = 23 ∨ j = 24 ∨ j = 25 ∨ j = 26 ∨ j = 27 ∨ j = 28 ∨ j = 29 ∨ j = 30 ∨ j = 31 ∨ j = 32 ∨ j = 33 ∨ j = 34 ∨ j = 35 ∨ j = 36 ∨ j = 37 ∨ j = 38 ∨ j = 39 ∨ j = 40 ∨ j = 41 ∨ j = 42 ∨ j = 43 ∨ j = 44 ∨ j = 45 ∨ j = 46 ∨ j = 47 ∨ j = 48 ∨ j = 49 ∨ j = 50 ∨ j = 51 ∨ j = 52 ∨ j = 53 by omega) with rfl | rfl | rfl | rfl | rfl | rfl | rfl | rfl | rfl | rfl | rfl | rfl | rfl | rfl | rfl | rfl | rfl | rfl | rfl | rfl | rfl | rfl | rfl | rfl | rfl | rfl | rfl | rfl | rfl | rfl | rfl | rfl | rfl | rfl | rfl | rfl | rfl | rfl | rfl | rfl | rfl | rfl | rfl | rfl | rfl | rfl | rfl | rfl | rfl | rfl | rfl | rfl | rfl | rfl
  · cases hj
    exact lawc_0 h6 hn hL tl
  · cases hj
    exact lawc_1 h6 hn hL tl
  · cases hj
    exact lawc_2 h6 hn hL tl
  · cases hj
    exact lawc_3 h6 hn hL tl
  · cases hj
    exact lawc_4 h6 hn hL tl
  · cases hj
    exact lawc_5 h6 hn hL tl
  · cases hj
    exact lawc_6 h6 hn hL tl
  · cases hj
    exact lawc_7 h6 hn hL tl
  · cases hj
    exact lawc_8 h6 hn hL tl
  · cases hj
    exact lawc_9 h6 hn hL tl
  · cases hj
    exact lawc_10 h6 hn hL tl
  · cases hj
    exact lawc_11 h6 hn hL tl
  · cases hj
    exact lawc_12 h6 hn hL tl
  · cases hj
    exact lawc_13 h6 hn hL tl
  · cases hj
    exact lawc_14 h6 hn hL tl
  · cases hj
    exact lawc_15 h6 hn hL tl
  · cases hj
    exact lawc_16 h6 hn hL tl
  · cases hj
    exact lawc_17 h6 hn hL tl
  · cases hj
    exact lawc_18 h6 hn hL tl
  · cases hj
    exact lawc_19 h6 hn hL tl
  · cases hj
    exact lawc_20 h6 hn hL tl
  · cases hj
    exact lawc_21 h6 hn hL tl
  · cases hj
    exact lawc_22 h6 hn hL tl
  · cases hj
    exact lawc_23 h6 hn hL tl
  · cases hj
    exact lawc_24 h6 hn hL tl
  · cases hj
    exact lawc_25 h6 hn hL tl
  · cases hj
    exact lawc_26 h6 hn hL tl
  · cases hj
    exact lawc_27 h6 hn hL tl
  · cases hj
    exact lawc_28 h6 hn hL tl
  · cases hj
    exact lawc_29 h6 hn hL tl
  · cases hj
    exact lawc_30 h6 hn hL tl
  · cases hj
    exact lawc_31 h6 hn hL tl
  · cases hj
    exact lawc_32 h6 hn hL tl
  · cases hj
    exact lawc_33 h6 hn hL tl
  · cases hj
    exact lawc_34 h6 hn hL tl
  · cases hj
    exact lawc_35 h6 hn hL tl
  · cases hj
    exact lawc_36 h6 hn hL tl
  · cases hj
    exact lawc_37 h6 hn hL tl
  · cases hj
    exact lawc_38 h6 hn hL tl
  · cases hj
    exact lawc_39 h6 hn hL tl
  · cases hj
    exact lawc_40 h6 hn hL tl
  · cases hj
    exact lawc_41 h6 hn hL tl
  · cases hj
    exact lawc_42 h6 hn hL tl
  · cases hj
    exact lawc_43 h6 hn hL tl
  · cases hj
    exact lawc_44 h6 hn hL tl
  · cases hj
    exact lawc_45 h6 hn hL tl
  · cases hj
    exact lawc_46 h6 hn hL tl
  · cases hj
    exact lawc_47 h6 hn hL tl
  · cases hj
    exact lawc_48 h6 hn hL tl
  · cases hj
    exact lawc_49 h6 hn hL tl
  · cases hj
    exact lawc_50 h6 hn hL tl
  · cases hj
    exact lawc_51 hl0 (by omega) (by omega) h6 hn hL tl
  · cases hj
    exact lawc_52 h6 hn hL tl
  · cases hj
    exact lawc_53 h6 hn hL tl
theorem law_loop (hl0 : l.stackTraces = false) (hn : n ≤ 3072) (h : ∀ M', kr (some (.int 1)) M') : ∀ (j i : Nat) (M : Mm), n ≤ i + j → i ≤ n → LX M → 6 * mC M ≤ 1002 + i → mS M ≤ 3864 + i → Wf l (n, xs) uL 20 false (1000, 10000) 23 [(0, .ref 4999), (1, .ref 1), (2, .ref 150), (3, .ref 167), (4, .int (nI i))] [] M kr := by
  intro j
  induction j with
  | zero =>
    intro i M h1 h2 hL hC hS
    exact law_turn hl0 hn h2 hL hC hS h (fun z => absurd z (by omega))
  | succ j ih =>
    intro i M h1 h2 hL hC hS
    exact law_turn hl0 hn h2 hL hC hS h (fun z M' hL' c s => ih (i + 6) M' (by omega) (by omega) hL' (by omega) (by omega))
end LAWW
theorem GargWhole {l : Launch} (hl0 : l.stackTraces = false) {kr : KR} {xs : Nat → Int32} {n : Nat} (hn : n ≤ 3072) (h : ∀ M', kr (some (.int 1)) M') : Wf l (n, xs) uL 20 false (1000, 10000) 0 [(0, .ref 4999)] [] (mkD [] 0 I00) kr :=
  law_pre (law_loop hl0 hn h n 0 MZ (by omega) (Nat.zero_le _) LX_MZ mz_c (Nat.le_refl 3864))
end
