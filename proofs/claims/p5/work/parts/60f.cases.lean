/-! the law's cases over its states -/
section LAWC
variable {l : Launch} {xs : Nat → Int32} {kr : KR} {i n : Nat} {M : Mm}
set_option maxRecDepth 20000 in
theorem lawc_40 (hi : i + 6 ≤ n) (hn : n ≤ 3072) (hL0 : LW M) (h : ∀ M', LW M' → mC M' ≤ mC M + 1 → mS M' ≤ mS M + 6 → Wf l (n, xs) uL 20 false (1000, 10000) 1885 [(0, .ref 4999), (1, .ref 1), (2, .ref 150), (3, .ref 167), (4, .int (nI i))] [] M' kr) : Wf l (n, xs) uL 20 false (1000, 10000) 1440 [(0, .ref 4999), (1, .ref 1), (2, .ref 150), (3, .ref 167), (4, .int (nI i))] [] M kr := by
  have c00 : mC M ≤ mC M + 1 := Nat.le_succ _
  have s00 : mS M ≤ mS M + 6 := Nat.le_add_right _ _
  refine Wf.sAl (tkL_40 (d := 19)) rfl rfl rfl ?_
  refine Wf.sAl (tkL_40 (d := 19)) rfl rfl rfl ?_
  refine Wf.sIl (tkL_40 (d := 19)) rfl rfl ?_
  refine Wf.sIc (tkL_40 (d := 19)) rfl ?_
  refine Wf.s2 (tkL_40 (d := 19)) rfl ?_
  refine Wf.sScd (tkL_40 (d := 19)) rfl (vi1 hi hn) ?_
  show Wf l (n, xs) uL 20 false (1000, 10000) 1447 [(0, .ref 4999), (1, .ref 1), (2, .ref 150), (3, .ref 167), (4, .int (nI i))] [.int (xs (nI i + 1 : Int32).toNatClampNeg), .ref 1] M kr
  refine Wf.sAl (tkL_40 (d := 19)) rfl rfl rfl ?_
  refine Wf.sIl (tkL_40 (d := 19)) rfl rfl ?_
  refine Wf.sIc (tkL_40 (d := 19)) rfl ?_
  refine Wf.s2 (tkL_40 (d := 19)) rfl ?_
  refine Wf.sScd (tkL_40 (d := 19)) rfl (vi2 hi hn) ?_
  show Wf l (n, xs) uL 20 false (1000, 10000) 1453 [(0, .ref 4999), (1, .ref 1), (2, .ref 150), (3, .ref 167), (4, .int (nI i))] [.int (xs (nI i + 2 : Int32).toNatClampNeg), .int (xs (nI i + 1 : Int32).toNatClampNeg), .ref 1] M kr
  refine Wf.sAl (tkL_40 (d := 19)) rfl rfl rfl ?_
  refine Wf.sIl (tkL_40 (d := 19)) rfl rfl ?_
  refine Wf.sIc (tkL_40 (d := 19)) rfl ?_
  refine Wf.s2 (tkL_40 (d := 19)) rfl ?_
  refine Wf.sScd (tkL_40 (d := 19)) rfl (vi3 hi hn) ?_
  show Wf l (n, xs) uL 20 false (1000, 10000) 1459 [(0, .ref 4999), (1, .ref 1), (2, .ref 150), (3, .ref 167), (4, .int (nI i))] [.int (xs (nI i + 3 : Int32).toNatClampNeg), .int (xs (nI i + 2 : Int32).toNatClampNeg), .int (xs (nI i + 1 : Int32).toNatClampNeg), .ref 1] M kr
  have jn1 : Wf l (n, xs) uL 20 false (1000, 10000) 1467 [(0, .ref 4999), (1, .ref 1), (2, .ref 150), (3, .ref 167), (4, .int (nI i))] [.int (bz (xs (nI i + 3 : Int32).toNatClampNeg)), .int (xs (nI i + 2 : Int32).toNatClampNeg), .int (xs (nI i + 1 : Int32).toNatClampNeg), .ref 1] M kr := by
    refine Wf.sCv (as := [.int (xs (nI i + 1 : Int32).toNatClampNeg), .int (xs (nI i + 2 : Int32).toNatClampNeg), .int (bz (xs (nI i + 3 : Int32).toNatClampNeg))]) (rest := []) (tkL_40 (d := 19)) rfl rfl (kk_ok hL0.iv rfl) rfl ?_
    refine p6t_odds 7 hL0.li (fun x5 M2 hl10 e4 k6 n11 => ?_)
    have hq9 := LV_k hL0.q hl10 e4 k6 (by decide +kernel) n11
    have c7 : mC M2 ≤ mC M + 1 := by rw [mC_1 e4]; exact c00
    have s8 : mS M2 ≤ mS M + 6 := by rw [mS_1 e4]; exact s00
    show Wf l (n, xs) uL 20 false (1000, 10000) 1470 [(0, .ref 4999), (1, .ref 1), (2, .ref 150), (3, .ref 167), (4, .int (nI i))] [.long x5] M2 kr
    refine Wf.sPop2 (tkL_40 (d := 19)) rfl ?_
    refine Wf.sAl (tkL_40 (d := 19)) rfl rfl rfl ?_
    refine Wf.sAl (tkL_40 (d := 19)) rfl rfl rfl ?_
    refine Wf.sIl (tkL_40 (d := 19)) rfl rfl ?_
    refine Wf.sIc (tkL_40 (d := 19)) rfl ?_
    refine Wf.s2 (tkL_40 (d := 19)) rfl ?_
    refine Wf.sScd (tkL_40 (d := 19)) rfl (vi1 hi hn) ?_
    show Wf l (n, xs) uL 20 false (1000, 10000) 1478 [(0, .ref 4999), (1, .ref 1), (2, .ref 150), (3, .ref 167), (4, .int (nI i))] [.int (xs (nI i + 1 : Int32).toNatClampNeg), .ref 150] M2 kr
    refine Wf.sAl (tkL_40 (d := 19)) rfl rfl rfl ?_
    refine Wf.sIl (tkL_40 (d := 19)) rfl rfl ?_
    refine Wf.sIc (tkL_40 (d := 19)) rfl ?_
    refine Wf.s2 (tkL_40 (d := 19)) rfl ?_
    refine Wf.sScd (tkL_40 (d := 19)) rfl (vi2 hi hn) ?_
    show Wf l (n, xs) uL 20 false (1000, 10000) 1484 [(0, .ref 4999), (1, .ref 1), (2, .ref 150), (3, .ref 167), (4, .int (nI i))] [.int (xs (nI i + 2 : Int32).toNatClampNeg), .int (xs (nI i + 1 : Int32).toNatClampNeg), .ref 150] M2 kr
    refine Wf.sAl (tkL_40 (d := 19)) rfl rfl rfl ?_
    refine Wf.sIl (tkL_40 (d := 19)) rfl rfl ?_
    refine Wf.sIc (tkL_40 (d := 19)) rfl ?_
    refine Wf.s2 (tkL_40 (d := 19)) rfl ?_
    refine Wf.sScd (tkL_40 (d := 19)) rfl (vi3 hi hn) ?_
    show Wf l (n, xs) uL 20 false (1000, 10000) 1490 [(0, .ref 4999), (1, .ref 1), (2, .ref 150), (3, .ref 167), (4, .int (nI i))] [.int (xs (nI i + 3 : Int32).toNatClampNeg), .int (xs (nI i + 2 : Int32).toNatClampNeg), .int (xs (nI i + 1 : Int32).toNatClampNeg), .ref 150] M2 kr
    have jn12 : Wf l (n, xs) uL 20 false (1000, 10000) 1498 [(0, .ref 4999), (1, .ref 1), (2, .ref 150), (3, .ref 167), (4, .int (nI i))] [.int (bz (xs (nI i + 3 : Int32).toNatClampNeg)), .int (xs (nI i + 2 : Int32).toNatClampNeg), .int (xs (nI i + 1 : Int32).toNatClampNeg), .ref 150] M2 kr := by
      refine Wf.sCv (as := [.int (xs (nI i + 1 : Int32).toNatClampNeg), .int (xs (nI i + 2 : Int32).toNatClampNeg), .int (bz (xs (nI i + 3 : Int32).toNatClampNeg))]) (rest := []) (tkL_40 (d := 19)) rfl rfl (kk_ok hq9.iv rfl) rfl ?_
      refine p7t_odds 7 hq9.li (fun x16 M13 hl21 e15 k17 n22 => ?_)
      have hq20 := LW_v hq9 hl21 e15 k17 (by decide +kernel) n22
      have c18 : mC M13 ≤ mC M + 1 := by rw [mC_1 e15]; exact c7
      have s19 : mS M13 ≤ mS M + 6 := by rw [mS_1 e15]; exact s8
      show Wf l (n, xs) uL 20 false (1000, 10000) 1501 [(0, .ref 4999), (1, .ref 1), (2, .ref 150), (3, .ref 167), (4, .int (nI i))] [.long x16] M13 kr
      refine Wf.sPop2 (tkL_40 (d := 19)) rfl ?_
      refine Wf.sGo (tkL_40 (d := 19)) rfl ?_
      show Wf l (n, xs) uL 20 false (1000, 10000) 1885 [(0, .ref 4999), (1, .ref 1), (2, .ref 150), (3, .ref 167), (4, .int (nI i))] [] M13 kr
      exact h M13 hq20 c18 s19
    refine Wf.sIf (tkL_40 (d := 19)) rfl (fun z => ?_) (fun z => ?_)
    · have z : (xs (nI i + 3 : Int32).toNatClampNeg) = 0 := z
      refine Wf.sIc (tkL_40 (d := 19)) rfl ?_
      rw [bz_0 z] at jn12
      exact jn12
    · have z : ¬ (xs (nI i + 3 : Int32).toNatClampNeg) = 0 := z
      refine Wf.sIc (tkL_40 (d := 19)) rfl ?_
      refine Wf.sGo (tkL_40 (d := 19)) rfl ?_
      rw [bz_1 z] at jn12
      exact jn12
  refine Wf.sIf (tkL_40 (d := 19)) rfl (fun z => ?_) (fun z => ?_)
  · have z : (xs (nI i + 3 : Int32).toNatClampNeg) = 0 := z
    refine Wf.sIc (tkL_40 (d := 19)) rfl ?_
    rw [bz_0 z] at jn1
    exact jn1
  · have z : ¬ (xs (nI i + 3 : Int32).toNatClampNeg) = 0 := z
    refine Wf.sIc (tkL_40 (d := 19)) rfl ?_
    refine Wf.sGo (tkL_40 (d := 19)) rfl ?_
    rw [bz_1 z] at jn1
    exact jn1
set_option maxRecDepth 20000 in
theorem lawc_41 (hi : i + 6 ≤ n) (hn : n ≤ 3072) (hL0 : LW M) (h : ∀ M', LW M' → mC M' ≤ mC M + 1 → mS M' ≤ mS M + 6 → Wf l (n, xs) uL 20 false (1000, 10000) 1885 [(0, .ref 4999), (1, .ref 1), (2, .ref 150), (3, .ref 167), (4, .int (nI i))] [] M' kr) : Wf l (n, xs) uL 20 false (1000, 10000) 1505 [(0, .ref 4999), (1, .ref 1), (2, .ref 150), (3, .ref 167), (4, .int (nI i))] [] M kr := by
  have c00 : mC M ≤ mC M + 1 := Nat.le_succ _
  have s00 : mS M ≤ mS M + 6 := Nat.le_add_right _ _
  refine Wf.sAl (tkL_41 (d := 19)) rfl rfl rfl ?_
  refine Wf.sAl (tkL_41 (d := 19)) rfl rfl rfl ?_
  refine Wf.sIl (tkL_41 (d := 19)) rfl rfl ?_
  refine Wf.sIc (tkL_41 (d := 19)) rfl ?_
  refine Wf.s2 (tkL_41 (d := 19)) rfl ?_
  refine Wf.sScd (tkL_41 (d := 19)) rfl (vi1 hi hn) ?_
  show Wf l (n, xs) uL 20 false (1000, 10000) 1512 [(0, .ref 4999), (1, .ref 1), (2, .ref 150), (3, .ref 167), (4, .int (nI i))] [.int (xs (nI i + 1 : Int32).toNatClampNeg), .ref 1] M kr
  refine Wf.sAl (tkL_41 (d := 19)) rfl rfl rfl ?_
  refine Wf.sIl (tkL_41 (d := 19)) rfl rfl ?_
  refine Wf.sIc (tkL_41 (d := 19)) rfl ?_
  refine Wf.s2 (tkL_41 (d := 19)) rfl ?_
  refine Wf.sScd (tkL_41 (d := 19)) rfl (vi2 hi hn) ?_
  show Wf l (n, xs) uL 20 false (1000, 10000) 1518 [(0, .ref 4999), (1, .ref 1), (2, .ref 150), (3, .ref 167), (4, .int (nI i))] [.int (xs (nI i + 2 : Int32).toNatClampNeg), .int (xs (nI i + 1 : Int32).toNatClampNeg), .ref 1] M kr
  refine Wf.sAl (tkL_41 (d := 19)) rfl rfl rfl ?_
  refine Wf.sIl (tkL_41 (d := 19)) rfl rfl ?_
  refine Wf.sIc (tkL_41 (d := 19)) rfl ?_
  refine Wf.s2 (tkL_41 (d := 19)) rfl ?_
  refine Wf.sScd (tkL_41 (d := 19)) rfl (vi3 hi hn) ?_
  show Wf l (n, xs) uL 20 false (1000, 10000) 1524 [(0, .ref 4999), (1, .ref 1), (2, .ref 150), (3, .ref 167), (4, .int (nI i))] [.int (xs (nI i + 3 : Int32).toNatClampNeg), .int (xs (nI i + 2 : Int32).toNatClampNeg), .int (xs (nI i + 1 : Int32).toNatClampNeg), .ref 1] M kr
  have jn1 : Wf l (n, xs) uL 20 false (1000, 10000) 1532 [(0, .ref 4999), (1, .ref 1), (2, .ref 150), (3, .ref 167), (4, .int (nI i))] [.int (bz (xs (nI i + 3 : Int32).toNatClampNeg)), .int (xs (nI i + 2 : Int32).toNatClampNeg), .int (xs (nI i + 1 : Int32).toNatClampNeg), .ref 1] M kr := by
    refine Wf.sCv (as := [.int (xs (nI i + 1 : Int32).toNatClampNeg), .int (xs (nI i + 2 : Int32).toNatClampNeg), .int (bz (xs (nI i + 3 : Int32).toNatClampNeg))]) (rest := []) (tkL_41 (d := 19)) rfl rfl (kk_ok hL0.iv rfl) rfl ?_
    refine p6t_mean 7 hL0.li (fun x5 M2 hl10 e4 k6 n11 => ?_)
    have hq9 := LV_k hL0.q hl10 e4 k6 (by decide +kernel) n11
    have c7 : mC M2 ≤ mC M + 1 := by rw [mC_1 e4]; exact c00
    have s8 : mS M2 ≤ mS M + 6 := by rw [mS_1 e4]; exact s00
    show Wf l (n, xs) uL 20 false (1000, 10000) 1535 [(0, .ref 4999), (1, .ref 1), (2, .ref 150), (3, .ref 167), (4, .int (nI i))] [.long x5] M2 kr
    refine Wf.sPop2 (tkL_41 (d := 19)) rfl ?_
    refine Wf.sAl (tkL_41 (d := 19)) rfl rfl rfl ?_
    refine Wf.sAl (tkL_41 (d := 19)) rfl rfl rfl ?_
    refine Wf.sIl (tkL_41 (d := 19)) rfl rfl ?_
    refine Wf.sIc (tkL_41 (d := 19)) rfl ?_
    refine Wf.s2 (tkL_41 (d := 19)) rfl ?_
    refine Wf.sScd (tkL_41 (d := 19)) rfl (vi1 hi hn) ?_
    show Wf l (n, xs) uL 20 false (1000, 10000) 1543 [(0, .ref 4999), (1, .ref 1), (2, .ref 150), (3, .ref 167), (4, .int (nI i))] [.int (xs (nI i + 1 : Int32).toNatClampNeg), .ref 150] M2 kr
    refine Wf.sAl (tkL_41 (d := 19)) rfl rfl rfl ?_
    refine Wf.sIl (tkL_41 (d := 19)) rfl rfl ?_
    refine Wf.sIc (tkL_41 (d := 19)) rfl ?_
    refine Wf.s2 (tkL_41 (d := 19)) rfl ?_
    refine Wf.sScd (tkL_41 (d := 19)) rfl (vi2 hi hn) ?_
    show Wf l (n, xs) uL 20 false (1000, 10000) 1549 [(0, .ref 4999), (1, .ref 1), (2, .ref 150), (3, .ref 167), (4, .int (nI i))] [.int (xs (nI i + 2 : Int32).toNatClampNeg), .int (xs (nI i + 1 : Int32).toNatClampNeg), .ref 150] M2 kr
    refine Wf.sAl (tkL_41 (d := 19)) rfl rfl rfl ?_
    refine Wf.sIl (tkL_41 (d := 19)) rfl rfl ?_
    refine Wf.sIc (tkL_41 (d := 19)) rfl ?_
    refine Wf.s2 (tkL_41 (d := 19)) rfl ?_
    refine Wf.sScd (tkL_41 (d := 19)) rfl (vi3 hi hn) ?_
    show Wf l (n, xs) uL 20 false (1000, 10000) 1555 [(0, .ref 4999), (1, .ref 1), (2, .ref 150), (3, .ref 167), (4, .int (nI i))] [.int (xs (nI i + 3 : Int32).toNatClampNeg), .int (xs (nI i + 2 : Int32).toNatClampNeg), .int (xs (nI i + 1 : Int32).toNatClampNeg), .ref 150] M2 kr
    have jn12 : Wf l (n, xs) uL 20 false (1000, 10000) 1563 [(0, .ref 4999), (1, .ref 1), (2, .ref 150), (3, .ref 167), (4, .int (nI i))] [.int (bz (xs (nI i + 3 : Int32).toNatClampNeg)), .int (xs (nI i + 2 : Int32).toNatClampNeg), .int (xs (nI i + 1 : Int32).toNatClampNeg), .ref 150] M2 kr := by
      refine Wf.sCv (as := [.int (xs (nI i + 1 : Int32).toNatClampNeg), .int (xs (nI i + 2 : Int32).toNatClampNeg), .int (bz (xs (nI i + 3 : Int32).toNatClampNeg))]) (rest := []) (tkL_41 (d := 19)) rfl rfl (kk_ok hq9.iv rfl) rfl ?_
      refine p7t_mean 7 hq9.li (fun x16 M13 hl21 e15 k17 n22 => ?_)
      have hq20 := LW_v hq9 hl21 e15 k17 (by decide +kernel) n22
      have c18 : mC M13 ≤ mC M + 1 := by rw [mC_1 e15]; exact c7
      have s19 : mS M13 ≤ mS M + 6 := by rw [mS_1 e15]; exact s8
      show Wf l (n, xs) uL 20 false (1000, 10000) 1566 [(0, .ref 4999), (1, .ref 1), (2, .ref 150), (3, .ref 167), (4, .int (nI i))] [.long x16] M13 kr
      refine Wf.sPop2 (tkL_41 (d := 19)) rfl ?_
      refine Wf.sGo (tkL_41 (d := 19)) rfl ?_
      show Wf l (n, xs) uL 20 false (1000, 10000) 1885 [(0, .ref 4999), (1, .ref 1), (2, .ref 150), (3, .ref 167), (4, .int (nI i))] [] M13 kr
      exact h M13 hq20 c18 s19
    refine Wf.sIf (tkL_41 (d := 19)) rfl (fun z => ?_) (fun z => ?_)
    · have z : (xs (nI i + 3 : Int32).toNatClampNeg) = 0 := z
      refine Wf.sIc (tkL_41 (d := 19)) rfl ?_
      rw [bz_0 z] at jn12
      exact jn12
    · have z : ¬ (xs (nI i + 3 : Int32).toNatClampNeg) = 0 := z
      refine Wf.sIc (tkL_41 (d := 19)) rfl ?_
      refine Wf.sGo (tkL_41 (d := 19)) rfl ?_
      rw [bz_1 z] at jn12
      exact jn12
  refine Wf.sIf (tkL_41 (d := 19)) rfl (fun z => ?_) (fun z => ?_)
  · have z : (xs (nI i + 3 : Int32).toNatClampNeg) = 0 := z
    refine Wf.sIc (tkL_41 (d := 19)) rfl ?_
    rw [bz_0 z] at jn1
    exact jn1
  · have z : ¬ (xs (nI i + 3 : Int32).toNatClampNeg) = 0 := z
    refine Wf.sIc (tkL_41 (d := 19)) rfl ?_
    refine Wf.sGo (tkL_41 (d := 19)) rfl ?_
    rw [bz_1 z] at jn1
    exact jn1
set_option maxRecDepth 20000 in
theorem lawc_42 (hi : i + 6 ≤ n) (hn : n ≤ 3072) (hL0 : LW M) (h : ∀ M', LW M' → mC M' ≤ mC M + 1 → mS M' ≤ mS M + 6 → Wf l (n, xs) uL 20 false (1000, 10000) 1885 [(0, .ref 4999), (1, .ref 1), (2, .ref 150), (3, .ref 167), (4, .int (nI i))] [] M' kr) : Wf l (n, xs) uL 20 false (1000, 10000) 1570 [(0, .ref 4999), (1, .ref 1), (2, .ref 150), (3, .ref 167), (4, .int (nI i))] [] M kr := by
  have c00 : mC M ≤ mC M + 1 := Nat.le_succ _
  have s00 : mS M ≤ mS M + 6 := Nat.le_add_right _ _
  refine Wf.sAl (tkL_42 (d := 19)) rfl rfl rfl ?_
  refine Wf.sAl (tkL_42 (d := 19)) rfl rfl rfl ?_
  refine Wf.sIl (tkL_42 (d := 19)) rfl rfl ?_
  refine Wf.sIc (tkL_42 (d := 19)) rfl ?_
  refine Wf.s2 (tkL_42 (d := 19)) rfl ?_
  refine Wf.sScd (tkL_42 (d := 19)) rfl (vi1 hi hn) ?_
  show Wf l (n, xs) uL 20 false (1000, 10000) 1577 [(0, .ref 4999), (1, .ref 1), (2, .ref 150), (3, .ref 167), (4, .int (nI i))] [.int (xs (nI i + 1 : Int32).toNatClampNeg), .ref 1] M kr
  refine Wf.sAl (tkL_42 (d := 19)) rfl rfl rfl ?_
  refine Wf.sIl (tkL_42 (d := 19)) rfl rfl ?_
  refine Wf.sIc (tkL_42 (d := 19)) rfl ?_
  refine Wf.s2 (tkL_42 (d := 19)) rfl ?_
  refine Wf.sScd (tkL_42 (d := 19)) rfl (vi2 hi hn) ?_
  show Wf l (n, xs) uL 20 false (1000, 10000) 1583 [(0, .ref 4999), (1, .ref 1), (2, .ref 150), (3, .ref 167), (4, .int (nI i))] [.int (xs (nI i + 2 : Int32).toNatClampNeg), .int (xs (nI i + 1 : Int32).toNatClampNeg), .ref 1] M kr
  refine Wf.sAl (tkL_42 (d := 19)) rfl rfl rfl ?_
  refine Wf.sIl (tkL_42 (d := 19)) rfl rfl ?_
  refine Wf.sIc (tkL_42 (d := 19)) rfl ?_
  refine Wf.s2 (tkL_42 (d := 19)) rfl ?_
  refine Wf.sScd (tkL_42 (d := 19)) rfl (vi3 hi hn) ?_
  show Wf l (n, xs) uL 20 false (1000, 10000) 1589 [(0, .ref 4999), (1, .ref 1), (2, .ref 150), (3, .ref 167), (4, .int (nI i))] [.int (xs (nI i + 3 : Int32).toNatClampNeg), .int (xs (nI i + 2 : Int32).toNatClampNeg), .int (xs (nI i + 1 : Int32).toNatClampNeg), .ref 1] M kr
  refine Wf.sCv (as := [.int (xs (nI i + 1 : Int32).toNatClampNeg), .int (xs (nI i + 2 : Int32).toNatClampNeg), .int (xs (nI i + 3 : Int32).toNatClampNeg)]) (rest := []) (tkL_42 (d := 19)) rfl rfl (kk_ok hL0.iv rfl) rfl ?_
  refine p6t_borne 7 hL0.li (fun x4 M1 hl9 e3 k5 n10 => ?_)
  have hq8 := LV_k hL0.q hl9 e3 k5 (by decide +kernel) n10
  have c6 : mC M1 ≤ mC M + 1 := by rw [mC_1 e3]; exact c00
  have s7 : mS M1 ≤ mS M + 6 := by rw [mS_1 e3]; exact s00
  show Wf l (n, xs) uL 20 false (1000, 10000) 1592 [(0, .ref 4999), (1, .ref 1), (2, .ref 150), (3, .ref 167), (4, .int (nI i))] [.int x4] M1 kr
  refine Wf.sPop (tkL_42 (d := 19)) rfl rfl ?_
  refine Wf.sAl (tkL_42 (d := 19)) rfl rfl rfl ?_
  refine Wf.sAl (tkL_42 (d := 19)) rfl rfl rfl ?_
  refine Wf.sIl (tkL_42 (d := 19)) rfl rfl ?_
  refine Wf.sIc (tkL_42 (d := 19)) rfl ?_
  refine Wf.s2 (tkL_42 (d := 19)) rfl ?_
  refine Wf.sScd (tkL_42 (d := 19)) rfl (vi1 hi hn) ?_
  show Wf l (n, xs) uL 20 false (1000, 10000) 1600 [(0, .ref 4999), (1, .ref 1), (2, .ref 150), (3, .ref 167), (4, .int (nI i))] [.int (xs (nI i + 1 : Int32).toNatClampNeg), .ref 150] M1 kr
  refine Wf.sAl (tkL_42 (d := 19)) rfl rfl rfl ?_
  refine Wf.sIl (tkL_42 (d := 19)) rfl rfl ?_
  refine Wf.sIc (tkL_42 (d := 19)) rfl ?_
  refine Wf.s2 (tkL_42 (d := 19)) rfl ?_
  refine Wf.sScd (tkL_42 (d := 19)) rfl (vi2 hi hn) ?_
  show Wf l (n, xs) uL 20 false (1000, 10000) 1606 [(0, .ref 4999), (1, .ref 1), (2, .ref 150), (3, .ref 167), (4, .int (nI i))] [.int (xs (nI i + 2 : Int32).toNatClampNeg), .int (xs (nI i + 1 : Int32).toNatClampNeg), .ref 150] M1 kr
  refine Wf.sAl (tkL_42 (d := 19)) rfl rfl rfl ?_
  refine Wf.sIl (tkL_42 (d := 19)) rfl rfl ?_
  refine Wf.sIc (tkL_42 (d := 19)) rfl ?_
  refine Wf.s2 (tkL_42 (d := 19)) rfl ?_
  refine Wf.sScd (tkL_42 (d := 19)) rfl (vi3 hi hn) ?_
  show Wf l (n, xs) uL 20 false (1000, 10000) 1612 [(0, .ref 4999), (1, .ref 1), (2, .ref 150), (3, .ref 167), (4, .int (nI i))] [.int (xs (nI i + 3 : Int32).toNatClampNeg), .int (xs (nI i + 2 : Int32).toNatClampNeg), .int (xs (nI i + 1 : Int32).toNatClampNeg), .ref 150] M1 kr
  refine Wf.sCv (as := [.int (xs (nI i + 1 : Int32).toNatClampNeg), .int (xs (nI i + 2 : Int32).toNatClampNeg), .int (xs (nI i + 3 : Int32).toNatClampNeg)]) (rest := []) (tkL_42 (d := 19)) rfl rfl (kk_ok hq8.iv rfl) rfl ?_
  refine p7t_borne 7 hq8.li (fun x14 M11 hl19 e13 k15 n20 => ?_)
  have hq18 := LW_v hq8 hl19 e13 k15 (by decide +kernel) n20
  have c16 : mC M11 ≤ mC M + 1 := by rw [mC_1 e13]; exact c6
  have s17 : mS M11 ≤ mS M + 6 := by rw [mS_1 e13]; exact s7
  show Wf l (n, xs) uL 20 false (1000, 10000) 1615 [(0, .ref 4999), (1, .ref 1), (2, .ref 150), (3, .ref 167), (4, .int (nI i))] [.int x14] M11 kr
  refine Wf.sPop (tkL_42 (d := 19)) rfl rfl ?_
  refine Wf.sGo (tkL_42 (d := 19)) rfl ?_
  show Wf l (n, xs) uL 20 false (1000, 10000) 1885 [(0, .ref 4999), (1, .ref 1), (2, .ref 150), (3, .ref 167), (4, .int (nI i))] [] M11 kr
  exact h M11 hq18 c16 s17
set_option maxRecDepth 20000 in
theorem lawc_43 (hi : i + 6 ≤ n) (hn : n ≤ 3072) (hL0 : LW M) (h : ∀ M', LW M' → mC M' ≤ mC M + 1 → mS M' ≤ mS M + 6 → Wf l (n, xs) uL 20 false (1000, 10000) 1885 [(0, .ref 4999), (1, .ref 1), (2, .ref 150), (3, .ref 167), (4, .int (nI i))] [] M' kr) : Wf l (n, xs) uL 20 false (1000, 10000) 1619 [(0, .ref 4999), (1, .ref 1), (2, .ref 150), (3, .ref 167), (4, .int (nI i))] [] M kr := by
  have c00 : mC M ≤ mC M + 1 := Nat.le_succ _
  have s00 : mS M ≤ mS M + 6 := Nat.le_add_right _ _
  refine Wf.sAl (tkL_43 (d := 19)) rfl rfl rfl ?_
  refine Wf.sAl (tkL_43 (d := 19)) rfl rfl rfl ?_
  refine Wf.sIl (tkL_43 (d := 19)) rfl rfl ?_
  refine Wf.sIc (tkL_43 (d := 19)) rfl ?_
  refine Wf.s2 (tkL_43 (d := 19)) rfl ?_
  refine Wf.sScd (tkL_43 (d := 19)) rfl (vi1 hi hn) ?_
  show Wf l (n, xs) uL 20 false (1000, 10000) 1626 [(0, .ref 4999), (1, .ref 1), (2, .ref 150), (3, .ref 167), (4, .int (nI i))] [.int (xs (nI i + 1 : Int32).toNatClampNeg), .ref 1] M kr
  refine Wf.sAl (tkL_43 (d := 19)) rfl rfl rfl ?_
  refine Wf.sIl (tkL_43 (d := 19)) rfl rfl ?_
  refine Wf.sIc (tkL_43 (d := 19)) rfl ?_
  refine Wf.s2 (tkL_43 (d := 19)) rfl ?_
  refine Wf.sScd (tkL_43 (d := 19)) rfl (vi2 hi hn) ?_
  show Wf l (n, xs) uL 20 false (1000, 10000) 1632 [(0, .ref 4999), (1, .ref 1), (2, .ref 150), (3, .ref 167), (4, .int (nI i))] [.int (xs (nI i + 2 : Int32).toNatClampNeg), .int (xs (nI i + 1 : Int32).toNatClampNeg), .ref 1] M kr
  refine Wf.sCv (as := [.int (xs (nI i + 1 : Int32).toNatClampNeg), .int (xs (nI i + 2 : Int32).toNatClampNeg)]) (rest := []) (tkL_43 (d := 19)) rfl rfl (kk_ok hL0.iv rfl) rfl ?_
  refine p6t_firstWet 7 hL0.li (fun x4 M1 hl9 e3 k5 n10 => ?_)
  have hq8 := LV_k hL0.q hl9 e3 k5 (by decide +kernel) n10
  have c6 : mC M1 ≤ mC M + 1 := by rw [mC_1 e3]; exact c00
  have s7 : mS M1 ≤ mS M + 6 := by rw [mS_1 e3]; exact s00
  show Wf l (n, xs) uL 20 false (1000, 10000) 1635 [(0, .ref 4999), (1, .ref 1), (2, .ref 150), (3, .ref 167), (4, .int (nI i))] [.int x4] M1 kr
  refine Wf.sPop (tkL_43 (d := 19)) rfl rfl ?_
  refine Wf.sAl (tkL_43 (d := 19)) rfl rfl rfl ?_
  refine Wf.sAl (tkL_43 (d := 19)) rfl rfl rfl ?_
  refine Wf.sIl (tkL_43 (d := 19)) rfl rfl ?_
  refine Wf.sIc (tkL_43 (d := 19)) rfl ?_
  refine Wf.s2 (tkL_43 (d := 19)) rfl ?_
  refine Wf.sScd (tkL_43 (d := 19)) rfl (vi1 hi hn) ?_
  show Wf l (n, xs) uL 20 false (1000, 10000) 1643 [(0, .ref 4999), (1, .ref 1), (2, .ref 150), (3, .ref 167), (4, .int (nI i))] [.int (xs (nI i + 1 : Int32).toNatClampNeg), .ref 150] M1 kr
  refine Wf.sAl (tkL_43 (d := 19)) rfl rfl rfl ?_
  refine Wf.sIl (tkL_43 (d := 19)) rfl rfl ?_
  refine Wf.sIc (tkL_43 (d := 19)) rfl ?_
  refine Wf.s2 (tkL_43 (d := 19)) rfl ?_
  refine Wf.sScd (tkL_43 (d := 19)) rfl (vi2 hi hn) ?_
  show Wf l (n, xs) uL 20 false (1000, 10000) 1649 [(0, .ref 4999), (1, .ref 1), (2, .ref 150), (3, .ref 167), (4, .int (nI i))] [.int (xs (nI i + 2 : Int32).toNatClampNeg), .int (xs (nI i + 1 : Int32).toNatClampNeg), .ref 150] M1 kr
  refine Wf.sCv (as := [.int (xs (nI i + 1 : Int32).toNatClampNeg), .int (xs (nI i + 2 : Int32).toNatClampNeg)]) (rest := []) (tkL_43 (d := 19)) rfl rfl (kk_ok hq8.iv rfl) rfl ?_
  refine p7t_firstWet 7 hq8.li (fun x14 M11 hl19 e13 k15 n20 => ?_)
  have hq18 := LW_v hq8 hl19 e13 k15 (by decide +kernel) n20
  have c16 : mC M11 ≤ mC M + 1 := by rw [mC_1 e13]; exact c6
  have s17 : mS M11 ≤ mS M + 6 := by rw [mS_1 e13]; exact s7
  show Wf l (n, xs) uL 20 false (1000, 10000) 1652 [(0, .ref 4999), (1, .ref 1), (2, .ref 150), (3, .ref 167), (4, .int (nI i))] [.int x14] M11 kr
  refine Wf.sPop (tkL_43 (d := 19)) rfl rfl ?_
  refine Wf.sGo (tkL_43 (d := 19)) rfl ?_
  show Wf l (n, xs) uL 20 false (1000, 10000) 1885 [(0, .ref 4999), (1, .ref 1), (2, .ref 150), (3, .ref 167), (4, .int (nI i))] [] M11 kr
  exact h M11 hq18 c16 s17
set_option maxRecDepth 20000 in
theorem lawc_44 (hi : i + 6 ≤ n) (hn : n ≤ 3072) (hL0 : LW M) (h : ∀ M', LW M' → mC M' ≤ mC M + 1 → mS M' ≤ mS M + 6 → Wf l (n, xs) uL 20 false (1000, 10000) 1885 [(0, .ref 4999), (1, .ref 1), (2, .ref 150), (3, .ref 167), (4, .int (nI i))] [] M' kr) : Wf l (n, xs) uL 20 false (1000, 10000) 1656 [(0, .ref 4999), (1, .ref 1), (2, .ref 150), (3, .ref 167), (4, .int (nI i))] [] M kr := by
  have c00 : mC M ≤ mC M + 1 := Nat.le_succ _
  have s00 : mS M ≤ mS M + 6 := Nat.le_add_right _ _
  refine Wf.sAl (tkL_44 (d := 19)) rfl rfl rfl ?_
  refine Wf.sCv (as := []) (rest := []) (tkL_44 (d := 19)) rfl rfl (kk_ok hL0.iv rfl) rfl ?_
  refine p6t_day 7 hL0.li (fun x4 M1 hl9 e3 k5 n10 => ?_)
  have hq8 := LV_k hL0.q hl9 e3 k5 (by decide +kernel) n10
  have c6 : mC M1 ≤ mC M + 1 := by rw [mC_1 e3]; exact c00
  have s7 : mS M1 ≤ mS M + 6 := by rw [mS_1 e3]; exact s00
  show Wf l (n, xs) uL 20 false (1000, 10000) 1660 [(0, .ref 4999), (1, .ref 1), (2, .ref 150), (3, .ref 167), (4, .int (nI i))] [.int x4] M1 kr
  refine Wf.sPop (tkL_44 (d := 19)) rfl rfl ?_
  refine Wf.sAl (tkL_44 (d := 19)) rfl rfl rfl ?_
  refine Wf.sCv (as := []) (rest := []) (tkL_44 (d := 19)) rfl rfl (kk_ok hq8.iv rfl) rfl ?_
  refine p7t_day 7 hq8.li (fun x14 M11 hl19 e13 k15 n20 => ?_)
  have hq18 := LW_v hq8 hl19 e13 k15 (by decide +kernel) n20
  have c16 : mC M11 ≤ mC M + 1 := by rw [mC_1 e13]; exact c6
  have s17 : mS M11 ≤ mS M + 6 := by rw [mS_1 e13]; exact s7
  show Wf l (n, xs) uL 20 false (1000, 10000) 1665 [(0, .ref 4999), (1, .ref 1), (2, .ref 150), (3, .ref 167), (4, .int (nI i))] [.int x14] M11 kr
  refine Wf.sPop (tkL_44 (d := 19)) rfl rfl ?_
  refine Wf.sGo (tkL_44 (d := 19)) rfl ?_
  show Wf l (n, xs) uL 20 false (1000, 10000) 1885 [(0, .ref 4999), (1, .ref 1), (2, .ref 150), (3, .ref 167), (4, .int (nI i))] [] M11 kr
  exact h M11 hq18 c16 s17
set_option maxRecDepth 20000 in
theorem lawc_45 (hi : i + 6 ≤ n) (hn : n ≤ 3072) (hL0 : LW M) (h : ∀ M', LW M' → mC M' ≤ mC M + 1 → mS M' ≤ mS M + 6 → Wf l (n, xs) uL 20 false (1000, 10000) 1885 [(0, .ref 4999), (1, .ref 1), (2, .ref 150), (3, .ref 167), (4, .int (nI i))] [] M' kr) : Wf l (n, xs) uL 20 false (1000, 10000) 1669 [(0, .ref 4999), (1, .ref 1), (2, .ref 150), (3, .ref 167), (4, .int (nI i))] [] M kr := by
  have c00 : mC M ≤ mC M + 1 := Nat.le_succ _
  have s00 : mS M ≤ mS M + 6 := Nat.le_add_right _ _
  refine Wf.sAl (tkL_45 (d := 19)) rfl rfl rfl ?_
  refine Wf.sAl (tkL_45 (d := 19)) rfl rfl rfl ?_
  refine Wf.sIl (tkL_45 (d := 19)) rfl rfl ?_
  refine Wf.sIc (tkL_45 (d := 19)) rfl ?_
  refine Wf.s2 (tkL_45 (d := 19)) rfl ?_
  refine Wf.sScd (tkL_45 (d := 19)) rfl (vi1 hi hn) ?_
  show Wf l (n, xs) uL 20 false (1000, 10000) 1676 [(0, .ref 4999), (1, .ref 1), (2, .ref 150), (3, .ref 167), (4, .int (nI i))] [.int (xs (nI i + 1 : Int32).toNatClampNeg), .ref 1] M kr
  refine Wf.sAl (tkL_45 (d := 19)) rfl rfl rfl ?_
  refine Wf.sIl (tkL_45 (d := 19)) rfl rfl ?_
  refine Wf.sIc (tkL_45 (d := 19)) rfl ?_
  refine Wf.s2 (tkL_45 (d := 19)) rfl ?_
  refine Wf.sScd (tkL_45 (d := 19)) rfl (vi2 hi hn) ?_
  show Wf l (n, xs) uL 20 false (1000, 10000) 1682 [(0, .ref 4999), (1, .ref 1), (2, .ref 150), (3, .ref 167), (4, .int (nI i))] [.int (xs (nI i + 2 : Int32).toNatClampNeg), .int (xs (nI i + 1 : Int32).toNatClampNeg), .ref 1] M kr
  refine Wf.sCv (as := [.int (xs (nI i + 1 : Int32).toNatClampNeg), .int (xs (nI i + 2 : Int32).toNatClampNeg)]) (rest := []) (tkL_45 (d := 19)) rfl rfl (kk_ok hL0.iv rfl) rfl ?_
  refine p6t_give 7 hL0.li (fun x4 M1 hl9 e3 k5 n10 => ?_)
  have hq8 := LV_k hL0.q hl9 e3 k5 (by decide +kernel) n10
  have c6 : mC M1 ≤ mC M + 1 := by rw [mC_1 e3]; exact c00
  have s7 : mS M1 ≤ mS M + 6 := by rw [mS_1 e3]; exact s00
  show Wf l (n, xs) uL 20 false (1000, 10000) 1685 [(0, .ref 4999), (1, .ref 1), (2, .ref 150), (3, .ref 167), (4, .int (nI i))] [.int x4] M1 kr
  refine Wf.sPop (tkL_45 (d := 19)) rfl rfl ?_
  refine Wf.sAl (tkL_45 (d := 19)) rfl rfl rfl ?_
  refine Wf.sAl (tkL_45 (d := 19)) rfl rfl rfl ?_
  refine Wf.sIl (tkL_45 (d := 19)) rfl rfl ?_
  refine Wf.sIc (tkL_45 (d := 19)) rfl ?_
  refine Wf.s2 (tkL_45 (d := 19)) rfl ?_
  refine Wf.sScd (tkL_45 (d := 19)) rfl (vi1 hi hn) ?_
  show Wf l (n, xs) uL 20 false (1000, 10000) 1693 [(0, .ref 4999), (1, .ref 1), (2, .ref 150), (3, .ref 167), (4, .int (nI i))] [.int (xs (nI i + 1 : Int32).toNatClampNeg), .ref 150] M1 kr
  refine Wf.sAl (tkL_45 (d := 19)) rfl rfl rfl ?_
  refine Wf.sIl (tkL_45 (d := 19)) rfl rfl ?_
  refine Wf.sIc (tkL_45 (d := 19)) rfl ?_
  refine Wf.s2 (tkL_45 (d := 19)) rfl ?_
  refine Wf.sScd (tkL_45 (d := 19)) rfl (vi2 hi hn) ?_
  show Wf l (n, xs) uL 20 false (1000, 10000) 1699 [(0, .ref 4999), (1, .ref 1), (2, .ref 150), (3, .ref 167), (4, .int (nI i))] [.int (xs (nI i + 2 : Int32).toNatClampNeg), .int (xs (nI i + 1 : Int32).toNatClampNeg), .ref 150] M1 kr
  refine Wf.sCv (as := [.int (xs (nI i + 1 : Int32).toNatClampNeg), .int (xs (nI i + 2 : Int32).toNatClampNeg)]) (rest := []) (tkL_45 (d := 19)) rfl rfl (kk_ok hq8.iv rfl) rfl ?_
  refine p7t_give 7 hq8.li (fun x14 M11 hl19 e13 k15 n20 => ?_)
  have hq18 := LW_v hq8 hl19 e13 k15 (by decide +kernel) n20
  have c16 : mC M11 ≤ mC M + 1 := by rw [mC_1 e13]; exact c6
  have s17 : mS M11 ≤ mS M + 6 := by rw [mS_1 e13]; exact s7
  show Wf l (n, xs) uL 20 false (1000, 10000) 1702 [(0, .ref 4999), (1, .ref 1), (2, .ref 150), (3, .ref 167), (4, .int (nI i))] [.int x14] M11 kr
  refine Wf.sPop (tkL_45 (d := 19)) rfl rfl ?_
  refine Wf.sGo (tkL_45 (d := 19)) rfl ?_
  show Wf l (n, xs) uL 20 false (1000, 10000) 1885 [(0, .ref 4999), (1, .ref 1), (2, .ref 150), (3, .ref 167), (4, .int (nI i))] [] M11 kr
  exact h M11 hq18 c16 s17
set_option maxRecDepth 20000 in
theorem lawc_46 (hi : i + 6 ≤ n) (hn : n ≤ 3072) (hL0 : LW M) (h : ∀ M', LW M' → mC M' ≤ mC M + 1 → mS M' ≤ mS M + 6 → Wf l (n, xs) uL 20 false (1000, 10000) 1885 [(0, .ref 4999), (1, .ref 1), (2, .ref 150), (3, .ref 167), (4, .int (nI i))] [] M' kr) : Wf l (n, xs) uL 20 false (1000, 10000) 1706 [(0, .ref 4999), (1, .ref 1), (2, .ref 150), (3, .ref 167), (4, .int (nI i))] [] M kr := by
  have c00 : mC M ≤ mC M + 1 := Nat.le_succ _
  have s00 : mS M ≤ mS M + 6 := Nat.le_add_right _ _
  refine Wf.sAl (tkL_46 (d := 19)) rfl rfl rfl ?_
  refine Wf.sAl (tkL_46 (d := 19)) rfl rfl rfl ?_
  refine Wf.sIl (tkL_46 (d := 19)) rfl rfl ?_
  refine Wf.sIc (tkL_46 (d := 19)) rfl ?_
  refine Wf.s2 (tkL_46 (d := 19)) rfl ?_
  refine Wf.sScd (tkL_46 (d := 19)) rfl (vi1 hi hn) ?_
  show Wf l (n, xs) uL 20 false (1000, 10000) 1713 [(0, .ref 4999), (1, .ref 1), (2, .ref 150), (3, .ref 167), (4, .int (nI i))] [.int (xs (nI i + 1 : Int32).toNatClampNeg), .ref 1] M kr
  refine Wf.sCv (as := [.int (xs (nI i + 1 : Int32).toNatClampNeg)]) (rest := []) (tkL_46 (d := 19)) rfl rfl (kk_ok hL0.iv rfl) rfl ?_
  refine p6t_mend 7 hL0.li (fun x4 M1 hl9 e3 k5 n10 => ?_)
  have hq8 := LV_k hL0.q hl9 e3 k5 (by decide +kernel) n10
  have c6 : mC M1 ≤ mC M + 1 := by rw [mC_1 e3]; exact c00
  have s7 : mS M1 ≤ mS M + 6 := by rw [mS_1 e3]; exact s00
  show Wf l (n, xs) uL 20 false (1000, 10000) 1716 [(0, .ref 4999), (1, .ref 1), (2, .ref 150), (3, .ref 167), (4, .int (nI i))] [.int x4] M1 kr
  refine Wf.sPop (tkL_46 (d := 19)) rfl rfl ?_
  refine Wf.sAl (tkL_46 (d := 19)) rfl rfl rfl ?_
  refine Wf.sAl (tkL_46 (d := 19)) rfl rfl rfl ?_
  refine Wf.sIl (tkL_46 (d := 19)) rfl rfl ?_
  refine Wf.sIc (tkL_46 (d := 19)) rfl ?_
  refine Wf.s2 (tkL_46 (d := 19)) rfl ?_
  refine Wf.sScd (tkL_46 (d := 19)) rfl (vi1 hi hn) ?_
  show Wf l (n, xs) uL 20 false (1000, 10000) 1724 [(0, .ref 4999), (1, .ref 1), (2, .ref 150), (3, .ref 167), (4, .int (nI i))] [.int (xs (nI i + 1 : Int32).toNatClampNeg), .ref 150] M1 kr
  refine Wf.sCv (as := [.int (xs (nI i + 1 : Int32).toNatClampNeg)]) (rest := []) (tkL_46 (d := 19)) rfl rfl (kk_ok hq8.iv rfl) rfl ?_
  refine p7t_mend 7 hq8.li (fun x14 M11 hl19 e13 k15 n20 => ?_)
  have hq18 := LW_v hq8 hl19 e13 k15 (by decide +kernel) n20
  have c16 : mC M11 ≤ mC M + 1 := by rw [mC_1 e13]; exact c6
  have s17 : mS M11 ≤ mS M + 6 := by rw [mS_1 e13]; exact s7
  show Wf l (n, xs) uL 20 false (1000, 10000) 1727 [(0, .ref 4999), (1, .ref 1), (2, .ref 150), (3, .ref 167), (4, .int (nI i))] [.int x14] M11 kr
  refine Wf.sPop (tkL_46 (d := 19)) rfl rfl ?_
  refine Wf.sGo (tkL_46 (d := 19)) rfl ?_
  show Wf l (n, xs) uL 20 false (1000, 10000) 1885 [(0, .ref 4999), (1, .ref 1), (2, .ref 150), (3, .ref 167), (4, .int (nI i))] [] M11 kr
  exact h M11 hq18 c16 s17
end LAWC
