/-! the law's cases over its states -/
section LAWC
variable {l : Launch} {xs : Nat → Int32} {kr : KR} {i n : Nat} {M : Mm}
set_option maxRecDepth 20000 in
theorem lawc_40 (hi : i + 6 ≤ n) (hn : n ≤ 3072) (hL0 : LI M) (h : ∀ M', LI M' → mC M' ≤ mC M + 1 → mS M' ≤ mS M + 6 → Wf l (n, xs) uL 20 false (1000, 10000) 1885 [(0, .ref 4999), (1, .ref 1), (2, .ref 150), (3, .ref 167), (4, .int (nI i))] [] M' kr) : Wf l (n, xs) uL 20 false (1000, 10000) 1440 [(0, .ref 4999), (1, .ref 1), (2, .ref 150), (3, .ref 167), (4, .int (nI i))] [] M kr := by
  have c00 : mC M ≤ mC M + 1 := Nat.le_succ _
  have s00 : mS M ≤ mS M + 6 := Nat.le_add_right _ _
  refine Wf.sAl (tkL_40 (d := 19)) rfl rfl rfl ?_
  refine Wf.sAl (tkL_40 (d := 19)) rfl rfl rfl ?_
  refine Wf.sIl (tkL_40 (d := 19)) rfl rfl ?_
  refine Wf.sIc (tkL_40 (d := 19)) rfl ?_
  refine Wf.s2 (tkL_40 (d := 19)) rfl ?_
  refine Wf.sScd (tkL_40 (d := 19)) rfl (vi1 hi hn) ?_
  show Wf l (n, xs) uL 20 false (1000, 10000) 1447 [(0, .ref 4999), (1, .ref 1), (2, .ref 150), (3, .ref 167), (4, .int (nI i))] [.int (xs (nI i + 1 : Int32).toNatClampNeg), .ref 1] M kr
  refine Wf.sAl (tkL_40 (d := 19)) rfl rfl rfl ?_
  refine Wf.sIl (tkL_40 (d := 19)) rfl rfl ?_
  refine Wf.sIc (tkL_40 (d := 19)) rfl ?_
  refine Wf.s2 (tkL_40 (d := 19)) rfl ?_
  refine Wf.sScd (tkL_40 (d := 19)) rfl (vi2 hi hn) ?_
  show Wf l (n, xs) uL 20 false (1000, 10000) 1453 [(0, .ref 4999), (1, .ref 1), (2, .ref 150), (3, .ref 167), (4, .int (nI i))] [.int (xs (nI i + 2 : Int32).toNatClampNeg), .int (xs (nI i + 1 : Int32).toNatClampNeg), .ref 1] M kr
  refine Wf.sAl (tkL_40 (d := 19)) rfl rfl rfl ?_
  refine Wf.sIl (tkL_40 (d := 19)) rfl rfl ?_
  refine Wf.sIc (tkL_40 (d := 19)) rfl ?_
  refine Wf.s2 (tkL_40 (d := 19)) rfl ?_
  refine Wf.sScd (tkL_40 (d := 19)) rfl (vi3 hi hn) ?_
  show Wf l (n, xs) uL 20 false (1000, 10000) 1459 [(0, .ref 4999), (1, .ref 1), (2, .ref 150), (3, .ref 167), (4, .int (nI i))] [.int (xs (nI i + 3 : Int32).toNatClampNeg), .int (xs (nI i + 2 : Int32).toNatClampNeg), .int (xs (nI i + 1 : Int32).toNatClampNeg), .ref 1] M kr
  have jn2 : ∀ b1 : Int32, Wf l (n, xs) uL 20 false (1000, 10000) 1467 [(0, .ref 4999), (1, .ref 1), (2, .ref 150), (3, .ref 167), (4, .int (nI i))] [.int b1, .int (xs (nI i + 2 : Int32).toNatClampNeg), .int (xs (nI i + 1 : Int32).toNatClampNeg), .ref 1] M kr := by
    intro b1
    refine Wf.sCv (as := [.int (xs (nI i + 1 : Int32).toNatClampNeg), .int (xs (nI i + 2 : Int32).toNatClampNeg), .int b1]) (rest := []) (tkL_40 (d := 19)) rfl rfl (kk_ok hL0.1 rfl) rfl ?_
    refine p6_odds 7 hL0 (fun x6 M3 hL4 e5 _ => ?_)
    have c7 : mC M3 ≤ mC M + 1 := by rw [mC_1 e5]; exact c00
    have s8 : mS M3 ≤ mS M + 6 := by rw [mS_1 e5]; exact s00
    show Wf l (n, xs) uL 20 false (1000, 10000) 1470 [(0, .ref 4999), (1, .ref 1), (2, .ref 150), (3, .ref 167), (4, .int (nI i))] [.long x6] M3 kr
    refine Wf.sPop2 (tkL_40 (d := 19)) rfl ?_
    refine Wf.sAl (tkL_40 (d := 19)) rfl rfl rfl ?_
    refine Wf.sAl (tkL_40 (d := 19)) rfl rfl rfl ?_
    refine Wf.sIl (tkL_40 (d := 19)) rfl rfl ?_
    refine Wf.sIc (tkL_40 (d := 19)) rfl ?_
    refine Wf.s2 (tkL_40 (d := 19)) rfl ?_
    refine Wf.sScd (tkL_40 (d := 19)) rfl (vi1 hi hn) ?_
    show Wf l (n, xs) uL 20 false (1000, 10000) 1478 [(0, .ref 4999), (1, .ref 1), (2, .ref 150), (3, .ref 167), (4, .int (nI i))] [.int (xs (nI i + 1 : Int32).toNatClampNeg), .ref 150] M3 kr
    refine Wf.sAl (tkL_40 (d := 19)) rfl rfl rfl ?_
    refine Wf.sIl (tkL_40 (d := 19)) rfl rfl ?_
    refine Wf.sIc (tkL_40 (d := 19)) rfl ?_
    refine Wf.s2 (tkL_40 (d := 19)) rfl ?_
    refine Wf.sScd (tkL_40 (d := 19)) rfl (vi2 hi hn) ?_
    show Wf l (n, xs) uL 20 false (1000, 10000) 1484 [(0, .ref 4999), (1, .ref 1), (2, .ref 150), (3, .ref 167), (4, .int (nI i))] [.int (xs (nI i + 2 : Int32).toNatClampNeg), .int (xs (nI i + 1 : Int32).toNatClampNeg), .ref 150] M3 kr
    refine Wf.sAl (tkL_40 (d := 19)) rfl rfl rfl ?_
    refine Wf.sIl (tkL_40 (d := 19)) rfl rfl ?_
    refine Wf.sIc (tkL_40 (d := 19)) rfl ?_
    refine Wf.s2 (tkL_40 (d := 19)) rfl ?_
    refine Wf.sScd (tkL_40 (d := 19)) rfl (vi3 hi hn) ?_
    show Wf l (n, xs) uL 20 false (1000, 10000) 1490 [(0, .ref 4999), (1, .ref 1), (2, .ref 150), (3, .ref 167), (4, .int (nI i))] [.int (xs (nI i + 3 : Int32).toNatClampNeg), .int (xs (nI i + 2 : Int32).toNatClampNeg), .int (xs (nI i + 1 : Int32).toNatClampNeg), .ref 150] M3 kr
    have jn10 : ∀ b9 : Int32, Wf l (n, xs) uL 20 false (1000, 10000) 1498 [(0, .ref 4999), (1, .ref 1), (2, .ref 150), (3, .ref 167), (4, .int (nI i))] [.int b9, .int (xs (nI i + 2 : Int32).toNatClampNeg), .int (xs (nI i + 1 : Int32).toNatClampNeg), .ref 150] M3 kr := by
      intro b9
      refine Wf.sCv (as := [.int (xs (nI i + 1 : Int32).toNatClampNeg), .int (xs (nI i + 2 : Int32).toNatClampNeg), .int b9]) (rest := []) (tkL_40 (d := 19)) rfl rfl (kk_ok hL4.1 rfl) rfl ?_
      refine p7_odds 7 hL4 (fun x14 M11 hL12 e13 _ => ?_)
      have c15 : mC M11 ≤ mC M + 1 := by rw [mC_1 e13]; exact c7
      have s16 : mS M11 ≤ mS M + 6 := by rw [mS_1 e13]; exact s8
      show Wf l (n, xs) uL 20 false (1000, 10000) 1501 [(0, .ref 4999), (1, .ref 1), (2, .ref 150), (3, .ref 167), (4, .int (nI i))] [.long x14] M11 kr
      refine Wf.sPop2 (tkL_40 (d := 19)) rfl ?_
      refine Wf.sGo (tkL_40 (d := 19)) rfl ?_
      show Wf l (n, xs) uL 20 false (1000, 10000) 1885 [(0, .ref 4999), (1, .ref 1), (2, .ref 150), (3, .ref 167), (4, .int (nI i))] [] M11 kr
      exact h M11 hL12 c15 s16
    refine Wf.sIf (tkL_40 (d := 19)) rfl (fun _ => ?_) (fun _ => ?_)
    · refine Wf.sIc (tkL_40 (d := 19)) rfl ?_
      exact jn10 _
    · refine Wf.sIc (tkL_40 (d := 19)) rfl ?_
      refine Wf.sGo (tkL_40 (d := 19)) rfl ?_
      exact jn10 _
  refine Wf.sIf (tkL_40 (d := 19)) rfl (fun _ => ?_) (fun _ => ?_)
  · refine Wf.sIc (tkL_40 (d := 19)) rfl ?_
    exact jn2 _
  · refine Wf.sIc (tkL_40 (d := 19)) rfl ?_
    refine Wf.sGo (tkL_40 (d := 19)) rfl ?_
    exact jn2 _
set_option maxRecDepth 20000 in
theorem lawc_41 (hi : i + 6 ≤ n) (hn : n ≤ 3072) (hL0 : LI M) (h : ∀ M', LI M' → mC M' ≤ mC M + 1 → mS M' ≤ mS M + 6 → Wf l (n, xs) uL 20 false (1000, 10000) 1885 [(0, .ref 4999), (1, .ref 1), (2, .ref 150), (3, .ref 167), (4, .int (nI i))] [] M' kr) : Wf l (n, xs) uL 20 false (1000, 10000) 1505 [(0, .ref 4999), (1, .ref 1), (2, .ref 150), (3, .ref 167), (4, .int (nI i))] [] M kr := by
  have c00 : mC M ≤ mC M + 1 := Nat.le_succ _
  have s00 : mS M ≤ mS M + 6 := Nat.le_add_right _ _
  refine Wf.sAl (tkL_41 (d := 19)) rfl rfl rfl ?_
  refine Wf.sAl (tkL_41 (d := 19)) rfl rfl rfl ?_
  refine Wf.sIl (tkL_41 (d := 19)) rfl rfl ?_
  refine Wf.sIc (tkL_41 (d := 19)) rfl ?_
  refine Wf.s2 (tkL_41 (d := 19)) rfl ?_
  refine Wf.sScd (tkL_41 (d := 19)) rfl (vi1 hi hn) ?_
  show Wf l (n, xs) uL 20 false (1000, 10000) 1512 [(0, .ref 4999), (1, .ref 1), (2, .ref 150), (3, .ref 167), (4, .int (nI i))] [.int (xs (nI i + 1 : Int32).toNatClampNeg), .ref 1] M kr
  refine Wf.sAl (tkL_41 (d := 19)) rfl rfl rfl ?_
  refine Wf.sIl (tkL_41 (d := 19)) rfl rfl ?_
  refine Wf.sIc (tkL_41 (d := 19)) rfl ?_
  refine Wf.s2 (tkL_41 (d := 19)) rfl ?_
  refine Wf.sScd (tkL_41 (d := 19)) rfl (vi2 hi hn) ?_
  show Wf l (n, xs) uL 20 false (1000, 10000) 1518 [(0, .ref 4999), (1, .ref 1), (2, .ref 150), (3, .ref 167), (4, .int (nI i))] [.int (xs (nI i + 2 : Int32).toNatClampNeg), .int (xs (nI i + 1 : Int32).toNatClampNeg), .ref 1] M kr
  refine Wf.sAl (tkL_41 (d := 19)) rfl rfl rfl ?_
  refine Wf.sIl (tkL_41 (d := 19)) rfl rfl ?_
  refine Wf.sIc (tkL_41 (d := 19)) rfl ?_
  refine Wf.s2 (tkL_41 (d := 19)) rfl ?_
  refine Wf.sScd (tkL_41 (d := 19)) rfl (vi3 hi hn) ?_
  show Wf l (n, xs) uL 20 false (1000, 10000) 1524 [(0, .ref 4999), (1, .ref 1), (2, .ref 150), (3, .ref 167), (4, .int (nI i))] [.int (xs (nI i + 3 : Int32).toNatClampNeg), .int (xs (nI i + 2 : Int32).toNatClampNeg), .int (xs (nI i + 1 : Int32).toNatClampNeg), .ref 1] M kr
  have jn2 : ∀ b1 : Int32, Wf l (n, xs) uL 20 false (1000, 10000) 1532 [(0, .ref 4999), (1, .ref 1), (2, .ref 150), (3, .ref 167), (4, .int (nI i))] [.int b1, .int (xs (nI i + 2 : Int32).toNatClampNeg), .int (xs (nI i + 1 : Int32).toNatClampNeg), .ref 1] M kr := by
    intro b1
    refine Wf.sCv (as := [.int (xs (nI i + 1 : Int32).toNatClampNeg), .int (xs (nI i + 2 : Int32).toNatClampNeg), .int b1]) (rest := []) (tkL_41 (d := 19)) rfl rfl (kk_ok hL0.1 rfl) rfl ?_
    refine p6_mean 7 hL0 (fun x6 M3 hL4 e5 _ => ?_)
    have c7 : mC M3 ≤ mC M + 1 := by rw [mC_1 e5]; exact c00
    have s8 : mS M3 ≤ mS M + 6 := by rw [mS_1 e5]; exact s00
    show Wf l (n, xs) uL 20 false (1000, 10000) 1535 [(0, .ref 4999), (1, .ref 1), (2, .ref 150), (3, .ref 167), (4, .int (nI i))] [.long x6] M3 kr
    refine Wf.sPop2 (tkL_41 (d := 19)) rfl ?_
    refine Wf.sAl (tkL_41 (d := 19)) rfl rfl rfl ?_
    refine Wf.sAl (tkL_41 (d := 19)) rfl rfl rfl ?_
    refine Wf.sIl (tkL_41 (d := 19)) rfl rfl ?_
    refine Wf.sIc (tkL_41 (d := 19)) rfl ?_
    refine Wf.s2 (tkL_41 (d := 19)) rfl ?_
    refine Wf.sScd (tkL_41 (d := 19)) rfl (vi1 hi hn) ?_
    show Wf l (n, xs) uL 20 false (1000, 10000) 1543 [(0, .ref 4999), (1, .ref 1), (2, .ref 150), (3, .ref 167), (4, .int (nI i))] [.int (xs (nI i + 1 : Int32).toNatClampNeg), .ref 150] M3 kr
    refine Wf.sAl (tkL_41 (d := 19)) rfl rfl rfl ?_
    refine Wf.sIl (tkL_41 (d := 19)) rfl rfl ?_
    refine Wf.sIc (tkL_41 (d := 19)) rfl ?_
    refine Wf.s2 (tkL_41 (d := 19)) rfl ?_
    refine Wf.sScd (tkL_41 (d := 19)) rfl (vi2 hi hn) ?_
    show Wf l (n, xs) uL 20 false (1000, 10000) 1549 [(0, .ref 4999), (1, .ref 1), (2, .ref 150), (3, .ref 167), (4, .int (nI i))] [.int (xs (nI i + 2 : Int32).toNatClampNeg), .int (xs (nI i + 1 : Int32).toNatClampNeg), .ref 150] M3 kr
    refine Wf.sAl (tkL_41 (d := 19)) rfl rfl rfl ?_
    refine Wf.sIl (tkL_41 (d := 19)) rfl rfl ?_
    refine Wf.sIc (tkL_41 (d := 19)) rfl ?_
    refine Wf.s2 (tkL_41 (d := 19)) rfl ?_
    refine Wf.sScd (tkL_41 (d := 19)) rfl (vi3 hi hn) ?_
    show Wf l (n, xs) uL 20 false (1000, 10000) 1555 [(0, .ref 4999), (1, .ref 1), (2, .ref 150), (3, .ref 167), (4, .int (nI i))] [.int (xs (nI i + 3 : Int32).toNatClampNeg), .int (xs (nI i + 2 : Int32).toNatClampNeg), .int (xs (nI i + 1 : Int32).toNatClampNeg), .ref 150] M3 kr
    have jn10 : ∀ b9 : Int32, Wf l (n, xs) uL 20 false (1000, 10000) 1563 [(0, .ref 4999), (1, .ref 1), (2, .ref 150), (3, .ref 167), (4, .int (nI i))] [.int b9, .int (xs (nI i + 2 : Int32).toNatClampNeg), .int (xs (nI i + 1 : Int32).toNatClampNeg), .ref 150] M3 kr := by
      intro b9
      refine Wf.sCv (as := [.int (xs (nI i + 1 : Int32).toNatClampNeg), .int (xs (nI i + 2 : Int32).toNatClampNeg), .int b9]) (rest := []) (tkL_41 (d := 19)) rfl rfl (kk_ok hL4.1 rfl) rfl ?_
      refine p7_mean 7 hL4 (fun x14 M11 hL12 e13 _ => ?_)
      have c15 : mC M11 ≤ mC M + 1 := by rw [mC_1 e13]; exact c7
      have s16 : mS M11 ≤ mS M + 6 := by rw [mS_1 e13]; exact s8
      show Wf l (n, xs) uL 20 false (1000, 10000) 1566 [(0, .ref 4999), (1, .ref 1), (2, .ref 150), (3, .ref 167), (4, .int (nI i))] [.long x14] M11 kr
      refine Wf.sPop2 (tkL_41 (d := 19)) rfl ?_
      refine Wf.sGo (tkL_41 (d := 19)) rfl ?_
      show Wf l (n, xs) uL 20 false (1000, 10000) 1885 [(0, .ref 4999), (1, .ref 1), (2, .ref 150), (3, .ref 167), (4, .int (nI i))] [] M11 kr
      exact h M11 hL12 c15 s16
    refine Wf.sIf (tkL_41 (d := 19)) rfl (fun _ => ?_) (fun _ => ?_)
    · refine Wf.sIc (tkL_41 (d := 19)) rfl ?_
      exact jn10 _
    · refine Wf.sIc (tkL_41 (d := 19)) rfl ?_
      refine Wf.sGo (tkL_41 (d := 19)) rfl ?_
      exact jn10 _
  refine Wf.sIf (tkL_41 (d := 19)) rfl (fun _ => ?_) (fun _ => ?_)
  · refine Wf.sIc (tkL_41 (d := 19)) rfl ?_
    exact jn2 _
  · refine Wf.sIc (tkL_41 (d := 19)) rfl ?_
    refine Wf.sGo (tkL_41 (d := 19)) rfl ?_
    exact jn2 _
set_option maxRecDepth 20000 in
theorem lawc_42 (hi : i + 6 ≤ n) (hn : n ≤ 3072) (hL0 : LI M) (h : ∀ M', LI M' → mC M' ≤ mC M + 1 → mS M' ≤ mS M + 6 → Wf l (n, xs) uL 20 false (1000, 10000) 1885 [(0, .ref 4999), (1, .ref 1), (2, .ref 150), (3, .ref 167), (4, .int (nI i))] [] M' kr) : Wf l (n, xs) uL 20 false (1000, 10000) 1570 [(0, .ref 4999), (1, .ref 1), (2, .ref 150), (3, .ref 167), (4, .int (nI i))] [] M kr := by
  have c00 : mC M ≤ mC M + 1 := Nat.le_succ _
  have s00 : mS M ≤ mS M + 6 := Nat.le_add_right _ _
  refine Wf.sAl (tkL_42 (d := 19)) rfl rfl rfl ?_
  refine Wf.sAl (tkL_42 (d := 19)) rfl rfl rfl ?_
  refine Wf.sIl (tkL_42 (d := 19)) rfl rfl ?_
  refine Wf.sIc (tkL_42 (d := 19)) rfl ?_
  refine Wf.s2 (tkL_42 (d := 19)) rfl ?_
  refine Wf.sScd (tkL_42 (d := 19)) rfl (vi1 hi hn) ?_
  show Wf l (n, xs) uL 20 false (1000, 10000) 1577 [(0, .ref 4999), (1, .ref 1), (2, .ref 150), (3, .ref 167), (4, .int (nI i))] [.int (xs (nI i + 1 : Int32).toNatClampNeg), .ref 1] M kr
  refine Wf.sAl (tkL_42 (d := 19)) rfl rfl rfl ?_
  refine Wf.sIl (tkL_42 (d := 19)) rfl rfl ?_
  refine Wf.sIc (tkL_42 (d := 19)) rfl ?_
  refine Wf.s2 (tkL_42 (d := 19)) rfl ?_
  refine Wf.sScd (tkL_42 (d := 19)) rfl (vi2 hi hn) ?_
  show Wf l (n, xs) uL 20 false (1000, 10000) 1583 [(0, .ref 4999), (1, .ref 1), (2, .ref 150), (3, .ref 167), (4, .int (nI i))] [.int (xs (nI i + 2 : Int32).toNatClampNeg), .int (xs (nI i + 1 : Int32).toNatClampNeg), .ref 1] M kr
  refine Wf.sAl (tkL_42 (d := 19)) rfl rfl rfl ?_
  refine Wf.sIl (tkL_42 (d := 19)) rfl rfl ?_
  refine Wf.sIc (tkL_42 (d := 19)) rfl ?_
  refine Wf.s2 (tkL_42 (d := 19)) rfl ?_
  refine Wf.sScd (tkL_42 (d := 19)) rfl (vi3 hi hn) ?_
  show Wf l (n, xs) uL 20 false (1000, 10000) 1589 [(0, .ref 4999), (1, .ref 1), (2, .ref 150), (3, .ref 167), (4, .int (nI i))] [.int (xs (nI i + 3 : Int32).toNatClampNeg), .int (xs (nI i + 2 : Int32).toNatClampNeg), .int (xs (nI i + 1 : Int32).toNatClampNeg), .ref 1] M kr
  refine Wf.sCv (as := [.int (xs (nI i + 1 : Int32).toNatClampNeg), .int (xs (nI i + 2 : Int32).toNatClampNeg), .int (xs (nI i + 3 : Int32).toNatClampNeg)]) (rest := []) (tkL_42 (d := 19)) rfl rfl (kk_ok hL0.1 rfl) rfl ?_
  refine p6_borne 7 hL0 (fun x4 M1 hL2 e3 _ => ?_)
  have c5 : mC M1 ≤ mC M + 1 := by rw [mC_1 e3]; exact c00
  have s6 : mS M1 ≤ mS M + 6 := by rw [mS_1 e3]; exact s00
  show Wf l (n, xs) uL 20 false (1000, 10000) 1592 [(0, .ref 4999), (1, .ref 1), (2, .ref 150), (3, .ref 167), (4, .int (nI i))] [.int x4] M1 kr
  refine Wf.sPop (tkL_42 (d := 19)) rfl rfl ?_
  refine Wf.sAl (tkL_42 (d := 19)) rfl rfl rfl ?_
  refine Wf.sAl (tkL_42 (d := 19)) rfl rfl rfl ?_
  refine Wf.sIl (tkL_42 (d := 19)) rfl rfl ?_
  refine Wf.sIc (tkL_42 (d := 19)) rfl ?_
  refine Wf.s2 (tkL_42 (d := 19)) rfl ?_
  refine Wf.sScd (tkL_42 (d := 19)) rfl (vi1 hi hn) ?_
  show Wf l (n, xs) uL 20 false (1000, 10000) 1600 [(0, .ref 4999), (1, .ref 1), (2, .ref 150), (3, .ref 167), (4, .int (nI i))] [.int (xs (nI i + 1 : Int32).toNatClampNeg), .ref 150] M1 kr
  refine Wf.sAl (tkL_42 (d := 19)) rfl rfl rfl ?_
  refine Wf.sIl (tkL_42 (d := 19)) rfl rfl ?_
  refine Wf.sIc (tkL_42 (d := 19)) rfl ?_
  refine Wf.s2 (tkL_42 (d := 19)) rfl ?_
  refine Wf.sScd (tkL_42 (d := 19)) rfl (vi2 hi hn) ?_
  show Wf l (n, xs) uL 20 false (1000, 10000) 1606 [(0, .ref 4999), (1, .ref 1), (2, .ref 150), (3, .ref 167), (4, .int (nI i))] [.int (xs (nI i + 2 : Int32).toNatClampNeg), .int (xs (nI i + 1 : Int32).toNatClampNeg), .ref 150] M1 kr
  refine Wf.sAl (tkL_42 (d := 19)) rfl rfl rfl ?_
  refine Wf.sIl (tkL_42 (d := 19)) rfl rfl ?_
  refine Wf.sIc (tkL_42 (d := 19)) rfl ?_
  refine Wf.s2 (tkL_42 (d := 19)) rfl ?_
  refine Wf.sScd (tkL_42 (d := 19)) rfl (vi3 hi hn) ?_
  show Wf l (n, xs) uL 20 false (1000, 10000) 1612 [(0, .ref 4999), (1, .ref 1), (2, .ref 150), (3, .ref 167), (4, .int (nI i))] [.int (xs (nI i + 3 : Int32).toNatClampNeg), .int (xs (nI i + 2 : Int32).toNatClampNeg), .int (xs (nI i + 1 : Int32).toNatClampNeg), .ref 150] M1 kr
  refine Wf.sCv (as := [.int (xs (nI i + 1 : Int32).toNatClampNeg), .int (xs (nI i + 2 : Int32).toNatClampNeg), .int (xs (nI i + 3 : Int32).toNatClampNeg)]) (rest := []) (tkL_42 (d := 19)) rfl rfl (kk_ok hL2.1 rfl) rfl ?_
  refine p7_borne 7 hL2 (fun x10 M7 hL8 e9 _ => ?_)
  have c11 : mC M7 ≤ mC M + 1 := by rw [mC_1 e9]; exact c5
  have s12 : mS M7 ≤ mS M + 6 := by rw [mS_1 e9]; exact s6
  show Wf l (n, xs) uL 20 false (1000, 10000) 1615 [(0, .ref 4999), (1, .ref 1), (2, .ref 150), (3, .ref 167), (4, .int (nI i))] [.int x10] M7 kr
  refine Wf.sPop (tkL_42 (d := 19)) rfl rfl ?_
  refine Wf.sGo (tkL_42 (d := 19)) rfl ?_
  show Wf l (n, xs) uL 20 false (1000, 10000) 1885 [(0, .ref 4999), (1, .ref 1), (2, .ref 150), (3, .ref 167), (4, .int (nI i))] [] M7 kr
  exact h M7 hL8 c11 s12
set_option maxRecDepth 20000 in
theorem lawc_43 (hi : i + 6 ≤ n) (hn : n ≤ 3072) (hL0 : LI M) (h : ∀ M', LI M' → mC M' ≤ mC M + 1 → mS M' ≤ mS M + 6 → Wf l (n, xs) uL 20 false (1000, 10000) 1885 [(0, .ref 4999), (1, .ref 1), (2, .ref 150), (3, .ref 167), (4, .int (nI i))] [] M' kr) : Wf l (n, xs) uL 20 false (1000, 10000) 1619 [(0, .ref 4999), (1, .ref 1), (2, .ref 150), (3, .ref 167), (4, .int (nI i))] [] M kr := by
  have c00 : mC M ≤ mC M + 1 := Nat.le_succ _
  have s00 : mS M ≤ mS M + 6 := Nat.le_add_right _ _
  refine Wf.sAl (tkL_43 (d := 19)) rfl rfl rfl ?_
  refine Wf.sAl (tkL_43 (d := 19)) rfl rfl rfl ?_
  refine Wf.sIl (tkL_43 (d := 19)) rfl rfl ?_
  refine Wf.sIc (tkL_43 (d := 19)) rfl ?_
  refine Wf.s2 (tkL_43 (d := 19)) rfl ?_
  refine Wf.sScd (tkL_43 (d := 19)) rfl (vi1 hi hn) ?_
  show Wf l (n, xs) uL 20 false (1000, 10000) 1626 [(0, .ref 4999), (1, .ref 1), (2, .ref 150), (3, .ref 167), (4, .int (nI i))] [.int (xs (nI i + 1 : Int32).toNatClampNeg), .ref 1] M kr
  refine Wf.sAl (tkL_43 (d := 19)) rfl rfl rfl ?_
  refine Wf.sIl (tkL_43 (d := 19)) rfl rfl ?_
  refine Wf.sIc (tkL_43 (d := 19)) rfl ?_
  refine Wf.s2 (tkL_43 (d := 19)) rfl ?_
  refine Wf.sScd (tkL_43 (d := 19)) rfl (vi2 hi hn) ?_
  show Wf l (n, xs) uL 20 false (1000, 10000) 1632 [(0, .ref 4999), (1, .ref 1), (2, .ref 150), (3, .ref 167), (4, .int (nI i))] [.int (xs (nI i + 2 : Int32).toNatClampNeg), .int (xs (nI i + 1 : Int32).toNatClampNeg), .ref 1] M kr
  refine Wf.sCv (as := [.int (xs (nI i + 1 : Int32).toNatClampNeg), .int (xs (nI i + 2 : Int32).toNatClampNeg)]) (rest := []) (tkL_43 (d := 19)) rfl rfl (kk_ok hL0.1 rfl) rfl ?_
  refine p6_firstWet 7 hL0 (fun x4 M1 hL2 e3 _ => ?_)
  have c5 : mC M1 ≤ mC M + 1 := by rw [mC_1 e3]; exact c00
  have s6 : mS M1 ≤ mS M + 6 := by rw [mS_1 e3]; exact s00
  show Wf l (n, xs) uL 20 false (1000, 10000) 1635 [(0, .ref 4999), (1, .ref 1), (2, .ref 150), (3, .ref 167), (4, .int (nI i))] [.int x4] M1 kr
  refine Wf.sPop (tkL_43 (d := 19)) rfl rfl ?_
  refine Wf.sAl (tkL_43 (d := 19)) rfl rfl rfl ?_
  refine Wf.sAl (tkL_43 (d := 19)) rfl rfl rfl ?_
  refine Wf.sIl (tkL_43 (d := 19)) rfl rfl ?_
  refine Wf.sIc (tkL_43 (d := 19)) rfl ?_
  refine Wf.s2 (tkL_43 (d := 19)) rfl ?_
  refine Wf.sScd (tkL_43 (d := 19)) rfl (vi1 hi hn) ?_
  show Wf l (n, xs) uL 20 false (1000, 10000) 1643 [(0, .ref 4999), (1, .ref 1), (2, .ref 150), (3, .ref 167), (4, .int (nI i))] [.int (xs (nI i + 1 : Int32).toNatClampNeg), .ref 150] M1 kr
  refine Wf.sAl (tkL_43 (d := 19)) rfl rfl rfl ?_
  refine Wf.sIl (tkL_43 (d := 19)) rfl rfl ?_
  refine Wf.sIc (tkL_43 (d := 19)) rfl ?_
  refine Wf.s2 (tkL_43 (d := 19)) rfl ?_
  refine Wf.sScd (tkL_43 (d := 19)) rfl (vi2 hi hn) ?_
  show Wf l (n, xs) uL 20 false (1000, 10000) 1649 [(0, .ref 4999), (1, .ref 1), (2, .ref 150), (3, .ref 167), (4, .int (nI i))] [.int (xs (nI i + 2 : Int32).toNatClampNeg), .int (xs (nI i + 1 : Int32).toNatClampNeg), .ref 150] M1 kr
  refine Wf.sCv (as := [.int (xs (nI i + 1 : Int32).toNatClampNeg), .int (xs (nI i + 2 : Int32).toNatClampNeg)]) (rest := []) (tkL_43 (d := 19)) rfl rfl (kk_ok hL2.1 rfl) rfl ?_
  refine p7_firstWet 7 hL2 (fun x10 M7 hL8 e9 _ => ?_)
  have c11 : mC M7 ≤ mC M + 1 := by rw [mC_1 e9]; exact c5
  have s12 : mS M7 ≤ mS M + 6 := by rw [mS_1 e9]; exact s6
  show Wf l (n, xs) uL 20 false (1000, 10000) 1652 [(0, .ref 4999), (1, .ref 1), (2, .ref 150), (3, .ref 167), (4, .int (nI i))] [.int x10] M7 kr
  refine Wf.sPop (tkL_43 (d := 19)) rfl rfl ?_
  refine Wf.sGo (tkL_43 (d := 19)) rfl ?_
  show Wf l (n, xs) uL 20 false (1000, 10000) 1885 [(0, .ref 4999), (1, .ref 1), (2, .ref 150), (3, .ref 167), (4, .int (nI i))] [] M7 kr
  exact h M7 hL8 c11 s12
set_option maxRecDepth 20000 in
theorem lawc_44 (hi : i + 6 ≤ n) (hn : n ≤ 3072) (hL0 : LI M) (h : ∀ M', LI M' → mC M' ≤ mC M + 1 → mS M' ≤ mS M + 6 → Wf l (n, xs) uL 20 false (1000, 10000) 1885 [(0, .ref 4999), (1, .ref 1), (2, .ref 150), (3, .ref 167), (4, .int (nI i))] [] M' kr) : Wf l (n, xs) uL 20 false (1000, 10000) 1656 [(0, .ref 4999), (1, .ref 1), (2, .ref 150), (3, .ref 167), (4, .int (nI i))] [] M kr := by
  have c00 : mC M ≤ mC M + 1 := Nat.le_succ _
  have s00 : mS M ≤ mS M + 6 := Nat.le_add_right _ _
  refine Wf.sAl (tkL_44 (d := 19)) rfl rfl rfl ?_
  refine Wf.sCv (as := []) (rest := []) (tkL_44 (d := 19)) rfl rfl (kk_ok hL0.1 rfl) rfl ?_
  refine p6_day 7 hL0 (fun x4 M1 hL2 e3 _ => ?_)
  have c5 : mC M1 ≤ mC M + 1 := by rw [mC_1 e3]; exact c00
  have s6 : mS M1 ≤ mS M + 6 := by rw [mS_1 e3]; exact s00
  show Wf l (n, xs) uL 20 false (1000, 10000) 1660 [(0, .ref 4999), (1, .ref 1), (2, .ref 150), (3, .ref 167), (4, .int (nI i))] [.int x4] M1 kr
  refine Wf.sPop (tkL_44 (d := 19)) rfl rfl ?_
  refine Wf.sAl (tkL_44 (d := 19)) rfl rfl rfl ?_
  refine Wf.sCv (as := []) (rest := []) (tkL_44 (d := 19)) rfl rfl (kk_ok hL2.1 rfl) rfl ?_
  refine p7_day 7 hL2 (fun x10 M7 hL8 e9 _ => ?_)
  have c11 : mC M7 ≤ mC M + 1 := by rw [mC_1 e9]; exact c5
  have s12 : mS M7 ≤ mS M + 6 := by rw [mS_1 e9]; exact s6
  show Wf l (n, xs) uL 20 false (1000, 10000) 1665 [(0, .ref 4999), (1, .ref 1), (2, .ref 150), (3, .ref 167), (4, .int (nI i))] [.int x10] M7 kr
  refine Wf.sPop (tkL_44 (d := 19)) rfl rfl ?_
  refine Wf.sGo (tkL_44 (d := 19)) rfl ?_
  show Wf l (n, xs) uL 20 false (1000, 10000) 1885 [(0, .ref 4999), (1, .ref 1), (2, .ref 150), (3, .ref 167), (4, .int (nI i))] [] M7 kr
  exact h M7 hL8 c11 s12
set_option maxRecDepth 20000 in
theorem lawc_45 (hi : i + 6 ≤ n) (hn : n ≤ 3072) (hL0 : LI M) (h : ∀ M', LI M' → mC M' ≤ mC M + 1 → mS M' ≤ mS M + 6 → Wf l (n, xs) uL 20 false (1000, 10000) 1885 [(0, .ref 4999), (1, .ref 1), (2, .ref 150), (3, .ref 167), (4, .int (nI i))] [] M' kr) : Wf l (n, xs) uL 20 false (1000, 10000) 1669 [(0, .ref 4999), (1, .ref 1), (2, .ref 150), (3, .ref 167), (4, .int (nI i))] [] M kr := by
  have c00 : mC M ≤ mC M + 1 := Nat.le_succ _
  have s00 : mS M ≤ mS M + 6 := Nat.le_add_right _ _
  refine Wf.sAl (tkL_45 (d := 19)) rfl rfl rfl ?_
  refine Wf.sAl (tkL_45 (d := 19)) rfl rfl rfl ?_
  refine Wf.sIl (tkL_45 (d := 19)) rfl rfl ?_
  refine Wf.sIc (tkL_45 (d := 19)) rfl ?_
  refine Wf.s2 (tkL_45 (d := 19)) rfl ?_
  refine Wf.sScd (tkL_45 (d := 19)) rfl (vi1 hi hn) ?_
  show Wf l (n, xs) uL 20 false (1000, 10000) 1676 [(0, .ref 4999), (1, .ref 1), (2, .ref 150), (3, .ref 167), (4, .int (nI i))] [.int (xs (nI i + 1 : Int32).toNatClampNeg), .ref 1] M kr
  refine Wf.sAl (tkL_45 (d := 19)) rfl rfl rfl ?_
  refine Wf.sIl (tkL_45 (d := 19)) rfl rfl ?_
  refine Wf.sIc (tkL_45 (d := 19)) rfl ?_
  refine Wf.s2 (tkL_45 (d := 19)) rfl ?_
  refine Wf.sScd (tkL_45 (d := 19)) rfl (vi2 hi hn) ?_
  show Wf l (n, xs) uL 20 false (1000, 10000) 1682 [(0, .ref 4999), (1, .ref 1), (2, .ref 150), (3, .ref 167), (4, .int (nI i))] [.int (xs (nI i + 2 : Int32).toNatClampNeg), .int (xs (nI i + 1 : Int32).toNatClampNeg), .ref 1] M kr
  refine Wf.sCv (as := [.int (xs (nI i + 1 : Int32).toNatClampNeg), .int (xs (nI i + 2 : Int32).toNatClampNeg)]) (rest := []) (tkL_45 (d := 19)) rfl rfl (kk_ok hL0.1 rfl) rfl ?_
  refine p6_give 7 hL0 (fun x4 M1 hL2 e3 _ => ?_)
  have c5 : mC M1 ≤ mC M + 1 := by rw [mC_1 e3]; exact c00
  have s6 : mS M1 ≤ mS M + 6 := by rw [mS_1 e3]; exact s00
  show Wf l (n, xs) uL 20 false (1000, 10000) 1685 [(0, .ref 4999), (1, .ref 1), (2, .ref 150), (3, .ref 167), (4, .int (nI i))] [.int x4] M1 kr
  refine Wf.sPop (tkL_45 (d := 19)) rfl rfl ?_
  refine Wf.sAl (tkL_45 (d := 19)) rfl rfl rfl ?_
  refine Wf.sAl (tkL_45 (d := 19)) rfl rfl rfl ?_
  refine Wf.sIl (tkL_45 (d := 19)) rfl rfl ?_
  refine Wf.sIc (tkL_45 (d := 19)) rfl ?_
  refine Wf.s2 (tkL_45 (d := 19)) rfl ?_
  refine Wf.sScd (tkL_45 (d := 19)) rfl (vi1 hi hn) ?_
  show Wf l (n, xs) uL 20 false (1000, 10000) 1693 [(0, .ref 4999), (1, .ref 1), (2, .ref 150), (3, .ref 167), (4, .int (nI i))] [.int (xs (nI i + 1 : Int32).toNatClampNeg), .ref 150] M1 kr
  refine Wf.sAl (tkL_45 (d := 19)) rfl rfl rfl ?_
  refine Wf.sIl (tkL_45 (d := 19)) rfl rfl ?_
  refine Wf.sIc (tkL_45 (d := 19)) rfl ?_
  refine Wf.s2 (tkL_45 (d := 19)) rfl ?_
  refine Wf.sScd (tkL_45 (d := 19)) rfl (vi2 hi hn) ?_
  show Wf l (n, xs) uL 20 false (1000, 10000) 1699 [(0, .ref 4999), (1, .ref 1), (2, .ref 150), (3, .ref 167), (4, .int (nI i))] [.int (xs (nI i + 2 : Int32).toNatClampNeg), .int (xs (nI i + 1 : Int32).toNatClampNeg), .ref 150] M1 kr
  refine Wf.sCv (as := [.int (xs (nI i + 1 : Int32).toNatClampNeg), .int (xs (nI i + 2 : Int32).toNatClampNeg)]) (rest := []) (tkL_45 (d := 19)) rfl rfl (kk_ok hL2.1 rfl) rfl ?_
  refine p7_give 7 hL2 (fun x10 M7 hL8 e9 _ => ?_)
  have c11 : mC M7 ≤ mC M + 1 := by rw [mC_1 e9]; exact c5
  have s12 : mS M7 ≤ mS M + 6 := by rw [mS_1 e9]; exact s6
  show Wf l (n, xs) uL 20 false (1000, 10000) 1702 [(0, .ref 4999), (1, .ref 1), (2, .ref 150), (3, .ref 167), (4, .int (nI i))] [.int x10] M7 kr
  refine Wf.sPop (tkL_45 (d := 19)) rfl rfl ?_
  refine Wf.sGo (tkL_45 (d := 19)) rfl ?_
  show Wf l (n, xs) uL 20 false (1000, 10000) 1885 [(0, .ref 4999), (1, .ref 1), (2, .ref 150), (3, .ref 167), (4, .int (nI i))] [] M7 kr
  exact h M7 hL8 c11 s12
set_option maxRecDepth 20000 in
theorem lawc_46 (hi : i + 6 ≤ n) (hn : n ≤ 3072) (hL0 : LI M) (h : ∀ M', LI M' → mC M' ≤ mC M + 1 → mS M' ≤ mS M + 6 → Wf l (n, xs) uL 20 false (1000, 10000) 1885 [(0, .ref 4999), (1, .ref 1), (2, .ref 150), (3, .ref 167), (4, .int (nI i))] [] M' kr) : Wf l (n, xs) uL 20 false (1000, 10000) 1706 [(0, .ref 4999), (1, .ref 1), (2, .ref 150), (3, .ref 167), (4, .int (nI i))] [] M kr := by
  have c00 : mC M ≤ mC M + 1 := Nat.le_succ _
  have s00 : mS M ≤ mS M + 6 := Nat.le_add_right _ _
  refine Wf.sAl (tkL_46 (d := 19)) rfl rfl rfl ?_
  refine Wf.sAl (tkL_46 (d := 19)) rfl rfl rfl ?_
  refine Wf.sIl (tkL_46 (d := 19)) rfl rfl ?_
  refine Wf.sIc (tkL_46 (d := 19)) rfl ?_
  refine Wf.s2 (tkL_46 (d := 19)) rfl ?_
  refine Wf.sScd (tkL_46 (d := 19)) rfl (vi1 hi hn) ?_
  show Wf l (n, xs) uL 20 false (1000, 10000) 1713 [(0, .ref 4999), (1, .ref 1), (2, .ref 150), (3, .ref 167), (4, .int (nI i))] [.int (xs (nI i + 1 : Int32).toNatClampNeg), .ref 1] M kr
  refine Wf.sCv (as := [.int (xs (nI i + 1 : Int32).toNatClampNeg)]) (rest := []) (tkL_46 (d := 19)) rfl rfl (kk_ok hL0.1 rfl) rfl ?_
  refine p6_mend 7 hL0 (fun x4 M1 hL2 e3 _ => ?_)
  have c5 : mC M1 ≤ mC M + 1 := by rw [mC_1 e3]; exact c00
  have s6 : mS M1 ≤ mS M + 6 := by rw [mS_1 e3]; exact s00
  show Wf l (n, xs) uL 20 false (1000, 10000) 1716 [(0, .ref 4999), (1, .ref 1), (2, .ref 150), (3, .ref 167), (4, .int (nI i))] [.int x4] M1 kr
  refine Wf.sPop (tkL_46 (d := 19)) rfl rfl ?_
  refine Wf.sAl (tkL_46 (d := 19)) rfl rfl rfl ?_
  refine Wf.sAl (tkL_46 (d := 19)) rfl rfl rfl ?_
  refine Wf.sIl (tkL_46 (d := 19)) rfl rfl ?_
  refine Wf.sIc (tkL_46 (d := 19)) rfl ?_
  refine Wf.s2 (tkL_46 (d := 19)) rfl ?_
  refine Wf.sScd (tkL_46 (d := 19)) rfl (vi1 hi hn) ?_
  show Wf l (n, xs) uL 20 false (1000, 10000) 1724 [(0, .ref 4999), (1, .ref 1), (2, .ref 150), (3, .ref 167), (4, .int (nI i))] [.int (xs (nI i + 1 : Int32).toNatClampNeg), .ref 150] M1 kr
  refine Wf.sCv (as := [.int (xs (nI i + 1 : Int32).toNatClampNeg)]) (rest := []) (tkL_46 (d := 19)) rfl rfl (kk_ok hL2.1 rfl) rfl ?_
  refine p7_mend 7 hL2 (fun x10 M7 hL8 e9 _ => ?_)
  have c11 : mC M7 ≤ mC M + 1 := by rw [mC_1 e9]; exact c5
  have s12 : mS M7 ≤ mS M + 6 := by rw [mS_1 e9]; exact s6
  show Wf l (n, xs) uL 20 false (1000, 10000) 1727 [(0, .ref 4999), (1, .ref 1), (2, .ref 150), (3, .ref 167), (4, .int (nI i))] [.int x10] M7 kr
  refine Wf.sPop (tkL_46 (d := 19)) rfl rfl ?_
  refine Wf.sGo (tkL_46 (d := 19)) rfl ?_
  show Wf l (n, xs) uL 20 false (1000, 10000) 1885 [(0, .ref 4999), (1, .ref 1), (2, .ref 150), (3, .ref 167), (4, .int (nI i))] [] M7 kr
  exact h M7 hL8 c11 s12
end LAWC
