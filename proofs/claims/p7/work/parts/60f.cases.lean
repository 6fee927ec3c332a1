/-! the law's cases over its states -/
section LAWC
variable {l : Launch} {xs : Nat → Int32} {kr : KR} {i n : Nat} {M : Mm}
set_option maxRecDepth 20000 in
theorem lawc_40 (hi : i + 6 ≤ n) (hn : n ≤ 3072) (hL0 : LX M) (h : ∀ M', LX M' → mC M' ≤ mC M + 1 → mS M' ≤ mS M + 6 → Wf l (n, xs) uL 20 false (1000, 10000) 1885 [(0, .ref 4999), (1, .ref 1), (2, .ref 150), (3, .ref 167), (4, .int (nI i))] [] M' kr) : Wf l (n, xs) uL 20 false (1000, 10000) 1440 [(0, .ref 4999), (1, .ref 1), (2, .ref 150), (3, .ref 167), (4, .int (nI i))] [] M kr := by
  have c00 : mC M ≤ mC M + 1 := Nat.le_succ _
  have s00 : mS M ≤ mS M + 6 := Nat.le_add_right _ _
  refine Wf.sAl (tkL_40 (d := 19)) rfl rfl rfl ?_
  refine Wf.sAl (tkL_40 (d := 19)) rfl rfl rfl ?_
  refine Wf.sIl (tkL_40 (d := 19)) rfl rfl ?_
  refine Wf.sIc (tkL_40 (d := 19)) rfl ?_
  refine Wf.s2 (tkL_40 (d := 19)) rfl ?_
  refine Wf.sScd (tkL_40 (d := 19)) rfl (vi1 hi hn) ?_
  show Wf l (n, xs) uL 20 false (1000, 10000) 1447 [(0, .ref 4999), (1, .ref 1), (2, .ref 150), (3, .ref 167), (4, .int (nI i))] [.int (xs (nI i + 1 : Int32).toNatClampNeg), .ref 1] M kr
  refine Wf.sAl (tkL_40 (d := 19)) rfl rfl rfl ?_
  refine Wf.sIl (tkL_40 (d := 19)) rfl rfl ?_
  refine Wf.sIc (tkL_40 (d := 19)) rfl ?_
  refine Wf.s2 (tkL_40 (d := 19)) rfl ?_
  refine Wf.sScd (tkL_40 (d := 19)) rfl (vi2 hi hn) ?_
  show Wf l (n, xs) uL 20 false (1000, 10000) 1453 [(0, .ref 4999), (1, .ref 1), (2, .ref 150), (3, .ref 167), (4, .int (nI i))] [.int (xs (nI i + 2 : Int32).toNatClampNeg), .int (xs (nI i + 1 : Int32).toNatClampNeg), .ref 1] M kr
  refine Wf.sAl (tkL_40 (d := 19)) rfl rfl rfl ?_
  refine Wf.sIl (tkL_40 (d := 19)) rfl rfl ?_
  refine Wf.sIc (tkL_40 (d := 19)) rfl ?_
  refine Wf.s2 (tkL_40 (d := 19)) rfl ?_
  refine Wf.sScd (tkL_40 (d := 19)) rfl (vi3 hi hn) ?_
  show Wf l (n, xs) uL 20 false (1000, 10000) 1459 [(0, .ref 4999), (1, .ref 1), (2, .ref 150), (3, .ref 167), (4, .int (nI i))] [.int (xs (nI i + 3 : Int32).toNatClampNeg), .int (xs (nI i + 2 : Int32).toNatClampNeg), .int (xs (nI i + 1 : Int32).toNatClampNeg), .ref 1] M kr
  have jn1 : Wf l (n, xs) uL 20 false (1000, 10000) 1467 [(0, .ref 4999), (1, .ref 1), (2, .ref 150), (3, .ref 167), (4, .int (nI i))] [.int (bz (xs (nI i + 3 : Int32).toNatClampNeg)), .int (xs (nI i + 2 : Int32).toNatClampNeg), .int (xs (nI i + 1 : Int32).toNatClampNeg), .ref 1] M kr := by
    refine Wf.sCv (as := [.int (xs (nI i + 1 : Int32).toNatClampNeg), .int (xs (nI i + 2 : Int32).toNatClampNeg), .int (bz (xs (nI i + 3 : Int32).toNatClampNeg))]) (rest := []) (tkL_40 (d := 19)) rfl rfl (kk_ok hL0.iv rfl) rfl ?_
    refine p6_odds 7 hL0.li (fun x5 M2 hl10 e4 k6 => ?_)
    have hq9 := LX_k hL0 hl10 e4 k6 (by decide +kernel)
    have c7 : mC M2 ≤ mC M + 1 := by rw [mC_1 e4]; exact c00
    have s8 : mS M2 ≤ mS M + 6 := by rw [mS_1 e4]; exact s00
    show Wf l (n, xs) uL 20 false (1000, 10000) 1470 [(0, .ref 4999), (1, .ref 1), (2, .ref 150), (3, .ref 167), (4, .int (nI i))] [.long x5] M2 kr
    refine Wf.sPop2 (tkL_40 (d := 19)) rfl ?_
    refine Wf.sAl (tkL_40 (d := 19)) rfl rfl rfl ?_
    refine Wf.sAl (tkL_40 (d := 19)) rfl rfl rfl ?_
    refine Wf.sIl (tkL_40 (d := 19)) rfl rfl ?_
    refine Wf.sIc (tkL_40 (d := 19)) rfl ?_
    refine Wf.s2 (tkL_40 (d := 19)) rfl ?_
    refine Wf.sScd (tkL_40 (d := 19)) rfl (vi1 hi hn) ?_
    show Wf l (n, xs) uL 20 false (1000, 10000) 1478 [(0, .ref 4999), (1, .ref 1), (2, .ref 150), (3, .ref 167), (4, .int (nI i))] [.int (xs (nI i + 1 : Int32).toNatClampNeg), .ref 150] M2 kr
    refine Wf.sAl (tkL_40 (d := 19)) rfl rfl rfl ?_
    refine Wf.sIl (tkL_40 (d := 19)) rfl rfl ?_
    refine Wf.sIc (tkL_40 (d := 19)) rfl ?_
    refine Wf.s2 (tkL_40 (d := 19)) rfl ?_
    refine Wf.sScd (tkL_40 (d := 19)) rfl (vi2 hi hn) ?_
    show Wf l (n, xs) uL 20 false (1000, 10000) 1484 [(0, .ref 4999), (1, .ref 1), (2, .ref 150), (3, .ref 167), (4, .int (nI i))] [.int (xs (nI i + 2 : Int32).toNatClampNeg), .int (xs (nI i + 1 : Int32).toNatClampNeg), .ref 150] M2 kr
    refine Wf.sAl (tkL_40 (d := 19)) rfl rfl rfl ?_
    refine Wf.sIl (tkL_40 (d := 19)) rfl rfl ?_
    refine Wf.sIc (tkL_40 (d := 19)) rfl ?_
    refine Wf.s2 (tkL_40 (d := 19)) rfl ?_
    refine Wf.sScd (tkL_40 (d := 19)) rfl (vi3 hi hn) ?_
    show Wf l (n, xs) uL 20 false (1000, 10000) 1490 [(0, .ref 4999), (1, .ref 1), (2, .ref 150), (3, .ref 167), (4, .int (nI i))] [.int (xs (nI i + 3 : Int32).toNatClampNeg), .int (xs (nI i + 2 : Int32).toNatClampNeg), .int (xs (nI i + 1 : Int32).toNatClampNeg), .ref 150] M2 kr
    have jn11 : Wf l (n, xs) uL 20 false (1000, 10000) 1498 [(0, .ref 4999), (1, .ref 1), (2, .ref 150), (3, .ref 167), (4, .int (nI i))] [.int (bz (xs (nI i + 3 : Int32).toNatClampNeg)), .int (xs (nI i + 2 : Int32).toNatClampNeg), .int (xs (nI i + 1 : Int32).toNatClampNeg), .ref 150] M2 kr := by
      refine Wf.sCv (as := [.int (xs (nI i + 1 : Int32).toNatClampNeg), .int (xs (nI i + 2 : Int32).toNatClampNeg), .int (bz (xs (nI i + 3 : Int32).toNatClampNeg))]) (rest := []) (tkL_40 (d := 19)) rfl rfl (kk_ok hq9.iv rfl) rfl ?_
      refine p7_odds 7 hq9.li (fun x15 M12 hl20 e14 k16 => ?_)
      have hq19 := LX_k hq9 hl20 e14 k16 (by decide +kernel)
      have c17 : mC M12 ≤ mC M + 1 := by rw [mC_1 e14]; exact c7
      have s18 : mS M12 ≤ mS M + 6 := by rw [mS_1 e14]; exact s8
      show Wf l (n, xs) uL 20 false (1000, 10000) 1501 [(0, .ref 4999), (1, .ref 1), (2, .ref 150), (3, .ref 167), (4, .int (nI i))] [.long x15] M12 kr
      refine Wf.sPop2 (tkL_40 (d := 19)) rfl ?_
      refine Wf.sGo (tkL_40 (d := 19)) rfl ?_
      show Wf l (n, xs) uL 20 false (1000, 10000) 1885 [(0, .ref 4999), (1, .ref 1), (2, .ref 150), (3, .ref 167), (4, .int (nI i))] [] M12 kr
      exact h M12 hq19 c17 s18
    refine Wf.sIf (tkL_40 (d := 19)) rfl (fun z => ?_) (fun z => ?_)
    · have z : (xs (nI i + 3 : Int32).toNatClampNeg) = 0 := z
      refine Wf.sIc (tkL_40 (d := 19)) rfl ?_
      rw [bz_0 z] at jn11
      exact jn11
    · have z : ¬ (xs (nI i + 3 : Int32).toNatClampNeg) = 0 := z
      refine Wf.sIc (tkL_40 (d := 19)) rfl ?_
      refine Wf.sGo (tkL_40 (d := 19)) rfl ?_
      rw [bz_1 z] at jn11
      exact jn11
  refine Wf.sIf (tkL_40 (d := 19)) rfl (fun z => ?_) (fun z => ?_)
  · have z : (xs (nI i + 3 : Int32).toNatClampNeg) = 0 := z
    refine Wf.sIc (tkL_40 (d := 19)) rfl ?_
    rw [bz_0 z] at jn1
    exact jn1
  · have z : ¬ (xs (nI i + 3 : Int32).toNatClampNeg) = 0 := z
    refine Wf.sIc (tkL_40 (d := 19)) rfl ?_
    refine Wf.sGo (tkL_40 (d := 19)) rfl ?_
    rw [bz_1 z] at jn1
    exact jn1
set_option maxRecDepth 20000 in
theorem lawc_41 (hi : i + 6 ≤ n) (hn : n ≤ 3072) (hL0 : LX M) (h : ∀ M', LX M' → mC M' ≤ mC M + 1 → mS M' ≤ mS M + 6 → Wf l (n, xs) uL 20 false (1000, 10000) 1885 [(0, .ref 4999), (1, .ref 1), (2, .ref 150), (3, .ref 167), (4, .int (nI i))] [] M' kr) : Wf l (n, xs) uL 20 false (1000, 10000) 1505 [(0, .ref 4999), (1, .ref 1), (2, .ref 150), (3, .ref 167), (4, .int (nI i))] [] M kr := by
  have c00 : mC M ≤ mC M + 1 := Nat.le_succ _
  have s00 : mS M ≤ mS M + 6 := Nat.le_add_right _ _
  refine Wf.sAl (tkL_41 (d := 19)) rfl rfl rfl ?_
  refine Wf.sAl (tkL_41 (d := 19)) rfl rfl rfl ?_
  refine Wf.sIl (tkL_41 (d := 19)) rfl rfl ?_
  refine Wf.sIc (tkL_41 (d := 19)) rfl ?_
  refine Wf.s2 (tkL_41 (d := 19)) rfl ?_
  refine Wf.sScd (tkL_41 (d := 19)) rfl (vi1 hi hn) ?_
  show Wf l (n, xs) uL 20 false (1000, 10000) 1512 [(0, .ref 4999), (1, .ref 1), (2, .ref 150), (3, .ref 167), (4, .int (nI i))] [.int (xs (nI i + 1 : Int32).toNatClampNeg), .ref 1] M kr
  refine Wf.sAl (tkL_41 (d := 19)) rfl rfl rfl ?_
  refine Wf.sIl (tkL_41 (d := 19)) rfl rfl ?_
  refine Wf.sIc (tkL_41 (d := 19)) rfl ?_
  refine Wf.s2 (tkL_41 (d := 19)) rfl ?_
  refine Wf.sScd (tkL_41 (d := 19)) rfl (vi2 hi hn) ?_
  show Wf l (n, xs) uL 20 false (1000, 10000) 1518 [(0, .ref 4999), (1, .ref 1), (2, .ref 150), (3, .ref 167), (4, .int (nI i))] [.int (xs (nI i + 2 : Int32).toNatClampNeg), .int (xs (nI i + 1 : Int32).toNatClampNeg), .ref 1] M kr
  refine Wf.sAl (tkL_41 (d := 19)) rfl rfl rfl ?_
  refine Wf.sIl (tkL_41 (d := 19)) rfl rfl ?_
  refine Wf.sIc (tkL_41 (d := 19)) rfl ?_
  refine Wf.s2 (tkL_41 (d := 19)) rfl ?_
  refine Wf.sScd (tkL_41 (d := 19)) rfl (vi3 hi hn) ?_
  show Wf l (n, xs) uL 20 false (1000, 10000) 1524 [(0, .ref 4999), (1, .ref 1), (2, .ref 150), (3, .ref 167), (4, .int (nI i))] [.int (xs (nI i + 3 : Int32).toNatClampNeg), .int (xs (nI i + 2 : Int32).toNatClampNeg), .int (xs (nI i + 1 : Int32).toNatClampNeg), .ref 1] M kr
  have jn1 : Wf l (n, xs) uL 20 false (1000, 10000) 1532 [(0, .ref 4999), (1, .ref 1), (2, .ref 150), (3, .ref 167), (4, .int (nI i))] [.int (bz (xs (nI i + 3 : Int32).toNatClampNeg)), .int (xs (nI i + 2 : Int32).toNatClampNeg), .int (xs (nI i + 1 : Int32).toNatClampNeg), .ref 1] M kr := by
    refine Wf.sCv (as := [.int (xs (nI i + 1 : Int32).toNatClampNeg), .int (xs (nI i + 2 : Int32).toNatClampNeg), .int (bz (xs (nI i + 3 : Int32).toNatClampNeg))]) (rest := []) (tkL_41 (d := 19)) rfl rfl (kk_ok hL0.iv rfl) rfl ?_
    refine p6_mean 7 hL0.li (fun x5 M2 hl10 e4 k6 => ?_)
    have hq9 := LX_k hL0 hl10 e4 k6 (by decide +kernel)
    have c7 : mC M2 ≤ mC M + 1 := by rw [mC_1 e4]; exact c00
    have s8 : mS M2 ≤ mS M + 6 := by rw [mS_1 e4]; exact s00
    show Wf l (n, xs) uL 20 false (1000, 10000) 1535 [(0, .ref 4999), (1, .ref 1), (2, .ref 150), (3, .ref 167), (4, .int (nI i))] [.long x5] M2 kr
    refine Wf.sPop2 (tkL_41 (d := 19)) rfl ?_
    refine Wf.sAl (tkL_41 (d := 19)) rfl rfl rfl ?_
    refine Wf.sAl (tkL_41 (d := 19)) rfl rfl rfl ?_
    refine Wf.sIl (tkL_41 (d := 19)) rfl rfl ?_
    refine Wf.sIc (tkL_41 (d := 19)) rfl ?_
    refine Wf.s2 (tkL_41 (d := 19)) rfl ?_
    refine Wf.sScd (tkL_41 (d := 19)) rfl (vi1 hi hn) ?_
    show Wf l (n, xs) uL 20 false (1000, 10000) 1543 [(0, .ref 4999), (1, .ref 1), (2, .ref 150), (3, .ref 167), (4, .int (nI i))] [.int (xs (nI i + 1 : Int32).toNatClampNeg), .ref 150] M2 kr
    refine Wf.sAl (tkL_41 (d := 19)) rfl rfl rfl ?_
    refine Wf.sIl (tkL_41 (d := 19)) rfl rfl ?_
    refine Wf.sIc (tkL_41 (d := 19)) rfl ?_
    refine Wf.s2 (tkL_41 (d := 19)) rfl ?_
    refine Wf.sScd (tkL_41 (d := 19)) rfl (vi2 hi hn) ?_
    show Wf l (n, xs) uL 20 false (1000, 10000) 1549 [(0, .ref 4999), (1, .ref 1), (2, .ref 150), (3, .ref 167), (4, .int (nI i))] [.int (xs (nI i + 2 : Int32).toNatClampNeg), .int (xs (nI i + 1 : Int32).toNatClampNeg), .ref 150] M2 kr
    refine Wf.sAl (tkL_41 (d := 19)) rfl rfl rfl ?_
    refine Wf.sIl (tkL_41 (d := 19)) rfl rfl ?_
    refine Wf.sIc (tkL_41 (d := 19)) rfl ?_
    refine Wf.s2 (tkL_41 (d := 19)) rfl ?_
    refine Wf.sScd (tkL_41 (d := 19)) rfl (vi3 hi hn) ?_
    show Wf l (n, xs) uL 20 false (1000, 10000) 1555 [(0, .ref 4999), (1, .ref 1), (2, .ref 150), (3, .ref 167), (4, .int (nI i))] [.int (xs (nI i + 3 : Int32).toNatClampNeg), .int (xs (nI i + 2 : Int32).toNatClampNeg), .int (xs (nI i + 1 : Int32).toNatClampNeg), .ref 150] M2 kr
    have jn11 : Wf l (n, xs) uL 20 false (1000, 10000) 1563 [(0, .ref 4999), (1, .ref 1), (2, .ref 150), (3, .ref 167), (4, .int (nI i))] [.int (bz (xs (nI i + 3 : Int32).toNatClampNeg)), .int (xs (nI i + 2 : Int32).toNatClampNeg), .int (xs (nI i + 1 : Int32).toNatClampNeg), .ref 150] M2 kr := by
      refine Wf.sCv (as := [.int (xs (nI i + 1 : Int32).toNatClampNeg), .int (xs (nI i + 2 : Int32).toNatClampNeg), .int (bz (xs (nI i + 3 : Int32).toNatClampNeg))]) (rest := []) (tkL_41 (d := 19)) rfl rfl (kk_ok hq9.iv rfl) rfl ?_
      refine p7_mean 7 hq9.li (fun x15 M12 hl20 e14 k16 => ?_)
      have hq19 := LX_k hq9 hl20 e14 k16 (by decide +kernel)
      have c17 : mC M12 ≤ mC M + 1 := by rw [mC_1 e14]; exact c7
      have s18 : mS M12 ≤ mS M + 6 := by rw [mS_1 e14]; exact s8
      show Wf l (n, xs) uL 20 false (1000, 10000) 1566 [(0, .ref 4999), (1, .ref 1), (2, .ref 150), (3, .ref 167), (4, .int (nI i))] [.long x15] M12 kr
      refine Wf.sPop2 (tkL_41 (d := 19)) rfl ?_
      refine Wf.sGo (tkL_41 (d := 19)) rfl ?_
      show Wf l (n, xs) uL 20 false (1000, 10000) 1885 [(0, .ref 4999), (1, .ref 1), (2, .ref 150), (3, .ref 167), (4, .int (nI i))] [] M12 kr
      exact h M12 hq19 c17 s18
    refine Wf.sIf (tkL_41 (d := 19)) rfl (fun z => ?_) (fun z => ?_)
    · have z : (xs (nI i + 3 : Int32).toNatClampNeg) = 0 := z
      refine Wf.sIc (tkL_41 (d := 19)) rfl ?_
      rw [bz_0 z] at jn11
      exact jn11
    · have z : ¬ (xs (nI i + 3 : Int32).toNatClampNeg) = 0 := z
      refine Wf.sIc (tkL_41 (d := 19)) rfl ?_
      refine Wf.sGo (tkL_41 (d := 19)) rfl ?_
      rw [bz_1 z] at jn11
      exact jn11
  refine Wf.sIf (tkL_41 (d := 19)) rfl (fun z => ?_) (fun z => ?_)
  · have z : (xs (nI i + 3 : Int32).toNatClampNeg) = 0 := z
    refine Wf.sIc (tkL_41 (d := 19)) rfl ?_
    rw [bz_0 z] at jn1
    exact jn1
  · have z : ¬ (xs (nI i + 3 : Int32).toNatClampNeg) = 0 := z
    refine Wf.sIc (tkL_41 (d := 19)) rfl ?_
    refine Wf.sGo (tkL_41 (d := 19)) rfl ?_
    rw [bz_1 z] at jn1
    exact jn1
set_option maxRecDepth 20000 in
theorem lawc_42 (hi : i + 6 ≤ n) (hn : n ≤ 3072) (hL0 : LX M) (h : ∀ M', LX M' → mC M' ≤ mC M + 1 → mS M' ≤ mS M + 6 → Wf l (n, xs) uL 20 false (1000, 10000) 1885 [(0, .ref 4999), (1, .ref 1), (2, .ref 150), (3, .ref 167), (4, .int (nI i))] [] M' kr) : Wf l (n, xs) uL 20 false (1000, 10000) 1570 [(0, .ref 4999), (1, .ref 1), (2, .ref 150), (3, .ref 167), (4, .int (nI i))] [] M kr := by
  have c00 : mC M ≤ mC M + 1 := Nat.le_succ _
  have s00 : mS M ≤ mS M + 6 := Nat.le_add_right _ _
  refine Wf.sAl (tkL_42 (d := 19)) rfl rfl rfl ?_
  refine Wf.sAl (tkL_42 (d := 19)) rfl rfl rfl ?_
  refine Wf.sIl (tkL_42 (d := 19)) rfl rfl ?_
  refine Wf.sIc (tkL_42 (d := 19)) rfl ?_
  refine Wf.s2 (tkL_42 (d := 19)) rfl ?_
  refine Wf.sScd (tkL_42 (d := 19)) rfl (vi1 hi hn) ?_
  show Wf l (n, xs) uL 20 false (1000, 10000) 1577 [(0, .ref 4999), (1, .ref 1), (2, .ref 150), (3, .ref 167), (4, .int (nI i))] [.int (xs (nI i + 1 : Int32).toNatClampNeg), .ref 1] M kr
  refine Wf.sAl (tkL_42 (d := 19)) rfl rfl rfl ?_
  refine Wf.sIl (tkL_42 (d := 19)) rfl rfl ?_
  refine Wf.sIc (tkL_42 (d := 19)) rfl ?_
  refine Wf.s2 (tkL_42 (d := 19)) rfl ?_
  refine Wf.sScd (tkL_42 (d := 19)) rfl (vi2 hi hn) ?_
  show Wf l (n, xs) uL 20 false (1000, 10000) 1583 [(0, .ref 4999), (1, .ref 1), (2, .ref 150), (3, .ref 167), (4, .int (nI i))] [.int (xs (nI i + 2 : Int32).toNatClampNeg), .int (xs (nI i + 1 : Int32).toNatClampNeg), .ref 1] M kr
  refine Wf.sAl (tkL_42 (d := 19)) rfl rfl rfl ?_
  refine Wf.sIl (tkL_42 (d := 19)) rfl rfl ?_
  refine Wf.sIc (tkL_42 (d := 19)) rfl ?_
  refine Wf.s2 (tkL_42 (d := 19)) rfl ?_
  refine Wf.sScd (tkL_42 (d := 19)) rfl (vi3 hi hn) ?_
  show Wf l (n, xs) uL 20 false (1000, 10000) 1589 [(0, .ref 4999), (1, .ref 1), (2, .ref 150), (3, .ref 167), (4, .int (nI i))] [.int (xs (nI i + 3 : Int32).toNatClampNeg), .int (xs (nI i + 2 : Int32).toNatClampNeg), .int (xs (nI i + 1 : Int32).toNatClampNeg), .ref 1] M kr
  refine Wf.sCv (as := [.int (xs (nI i + 1 : Int32).toNatClampNeg), .int (xs (nI i + 2 : Int32).toNatClampNeg), .int (xs (nI i + 3 : Int32).toNatClampNeg)]) (rest := []) (tkL_42 (d := 19)) rfl rfl (kk_ok hL0.iv rfl) rfl ?_
  refine p6_borne 7 hL0.li (fun x4 M1 hl9 e3 k5 => ?_)
  have hq8 := LX_k hL0 hl9 e3 k5 (by decide +kernel)
  have c6 : mC M1 ≤ mC M + 1 := by rw [mC_1 e3]; exact c00
  have s7 : mS M1 ≤ mS M + 6 := by rw [mS_1 e3]; exact s00
  show Wf l (n, xs) uL 20 false (1000, 10000) 1592 [(0, .ref 4999), (1, .ref 1), (2, .ref 150), (3, .ref 167), (4, .int (nI i))] [.int x4] M1 kr
  refine Wf.sPop (tkL_42 (d := 19)) rfl rfl ?_
  refine Wf.sAl (tkL_42 (d := 19)) rfl rfl rfl ?_
  refine Wf.sAl (tkL_42 (d := 19)) rfl rfl rfl ?_
  refine Wf.sIl (tkL_42 (d := 19)) rfl rfl ?_
  refine Wf.sIc (tkL_42 (d := 19)) rfl ?_
  refine Wf.s2 (tkL_42 (d := 19)) rfl ?_
  refine Wf.sScd (tkL_42 (d := 19)) rfl (vi1 hi hn) ?_
  show Wf l (n, xs) uL 20 false (1000, 10000) 1600 [(0, .ref 4999), (1, .ref 1), (2, .ref 150), (3, .ref 167), (4, .int (nI i))] [.int (xs (nI i + 1 : Int32).toNatClampNeg), .ref 150] M1 kr
  refine Wf.sAl (tkL_42 (d := 19)) rfl rfl rfl ?_
  refine Wf.sIl (tkL_42 (d := 19)) rfl rfl ?_
  refine Wf.sIc (tkL_42 (d := 19)) rfl ?_
  refine Wf.s2 (tkL_42 (d := 19)) rfl ?_
  refine Wf.sScd (tkL_42 (d := 19)) rfl (vi2 hi hn) ?_
  show Wf l (n, xs) uL 20 false (1000, 10000) 1606 [(0, .ref 4999), (1, .ref 1), (2, .ref 150), (3, .ref 167), (4, .int (nI i))] [.int (xs (nI i + 2 : Int32).toNatClampNeg), .int (xs (nI i + 1 : Int32).toNatClampNeg), .ref 150] M1 kr
  refine Wf.sAl (tkL_42 (d := 19)) rfl rfl rfl ?_
  refine Wf.sIl (tkL_42 (d := 19)) rfl rfl ?_
  refine Wf.sIc (tkL_42 (d := 19)) rfl ?_
  refine Wf.s2 (tkL_42 (d := 19)) rfl ?_
  refine Wf.sScd (tkL_42 (d := 19)) rfl (vi3 hi hn) ?_
  show Wf l (n, xs) uL 20 false (1000, 10000) 1612 [(0, .ref 4999), (1, .ref 1), (2, .ref 150), (3, .ref 167), (4, .int (nI i))] [.int (xs (nI i + 3 : Int32).toNatClampNeg), .int (xs (nI i + 2 : Int32).toNatClampNeg), .int (xs (nI i + 1 : Int32).toNatClampNeg), .ref 150] M1 kr
  refine Wf.sCv (as := [.int (xs (nI i + 1 : Int32).toNatClampNeg), .int (xs (nI i + 2 : Int32).toNatClampNeg), .int (xs (nI i + 3 : Int32).toNatClampNeg)]) (rest := []) (tkL_42 (d := 19)) rfl rfl (kk_ok hq8.iv rfl) rfl ?_
  refine p7_borne 7 hq8.li (fun x13 M10 hl18 e12 k14 => ?_)
  have hq17 := LX_k hq8 hl18 e12 k14 (by decide +kernel)
  have c15 : mC M10 ≤ mC M + 1 := by rw [mC_1 e12]; exact c6
  have s16 : mS M10 ≤ mS M + 6 := by rw [mS_1 e12]; exact s7
  show Wf l (n, xs) uL 20 false (1000, 10000) 1615 [(0, .ref 4999), (1, .ref 1), (2, .ref 150), (3, .ref 167), (4, .int (nI i))] [.int x13] M10 kr
  refine Wf.sPop (tkL_42 (d := 19)) rfl rfl ?_
  refine Wf.sGo (tkL_42 (d := 19)) rfl ?_
  show Wf l (n, xs) uL 20 false (1000, 10000) 1885 [(0, .ref 4999), (1, .ref 1), (2, .ref 150), (3, .ref 167), (4, .int (nI i))] [] M10 kr
  exact h M10 hq17 c15 s16
set_option maxRecDepth 20000 in
theorem lawc_43 (hi : i + 6 ≤ n) (hn : n ≤ 3072) (hL0 : LX M) (h : ∀ M', LX M' → mC M' ≤ mC M + 1 → mS M' ≤ mS M + 6 → Wf l (n, xs) uL 20 false (1000, 10000) 1885 [(0, .ref 4999), (1, .ref 1), (2, .ref 150), (3, .ref 167), (4, .int (nI i))] [] M' kr) : Wf l (n, xs) uL 20 false (1000, 10000) 1619 [(0, .ref 4999), (1, .ref 1), (2, .ref 150), (3, .ref 167), (4, .int (nI i))] [] M kr := by
  have c00 : mC M ≤ mC M + 1 := Nat.le_succ _
  have s00 : mS M ≤ mS M + 6 := Nat.le_add_right _ _
  refine Wf.sAl (tkL_43 (d := 19)) rfl rfl rfl ?_
  refine Wf.sAl (tkL_43 (d := 19)) rfl rfl rfl ?_
  refine Wf.sIl (tkL_43 (d := 19)) rfl rfl ?_
  refine Wf.sIc (tkL_43 (d := 19)) rfl ?_
  refine Wf.s2 (tkL_43 (d := 19)) rfl ?_
  refine Wf.sScd (tkL_43 (d := 19)) rfl (vi1 hi hn) ?_
  show Wf l (n, xs) uL 20 false (1000, 10000) 1626 [(0, .ref 4999), (1, .ref 1), (2, .ref 150), (3, .ref 167), (4, .int (nI i))] [.int (xs (nI i + 1 : Int32).toNatClampNeg), .ref 1] M kr
  refine Wf.sAl (tkL_43 (d := 19)) rfl rfl rfl ?_
  refine Wf.sIl (tkL_43 (d := 19)) rfl rfl ?_
  refine Wf.sIc (tkL_43 (d := 19)) rfl ?_
  refine Wf.s2 (tkL_43 (d := 19)) rfl ?_
  refine Wf.sScd (tkL_43 (d := 19)) rfl (vi2 hi hn) ?_
  show Wf l (n, xs) uL 20 false (1000, 10000) 1632 [(0, .ref 4999), (1, .ref 1), (2, .ref 150), (3, .ref 167), (4, .int (nI i))] [.int (xs (nI i + 2 : Int32).toNatClampNeg), .int (xs (nI i + 1 : Int32).toNatClampNeg), .ref 1] M kr
  refine Wf.sCv (as := [.int (xs (nI i + 1 : Int32).toNatClampNeg), .int (xs (nI i + 2 : Int32).toNatClampNeg)]) (rest := []) (tkL_43 (d := 19)) rfl rfl (kk_ok hL0.iv rfl) rfl ?_
  refine p6_firstWet 7 hL0.li (fun x4 M1 hl9 e3 k5 => ?_)
  have hq8 := LX_k hL0 hl9 e3 k5 (by decide +kernel)
  have c6 : mC M1 ≤ mC M + 1 := by rw [mC_1 e3]; exact c00
  have s7 : mS M1 ≤ mS M + 6 := by rw [mS_1 e3]; exact s00
  show Wf l (n, xs) uL 20 false (1000, 10000) 1635 [(0, .ref 4999), (1, .ref 1), (2, .ref 150), (3, .ref 167), (4, .int (nI i))] [.int x4] M1 kr
  refine Wf.sPop (tkL_43 (d := 19)) rfl rfl ?_
  refine Wf.sAl (tkL_43 (d := 19)) rfl rfl rfl ?_
  refine Wf.sAl (tkL_43 (d := 19)) rfl rfl rfl ?_
  refine Wf.sIl (tkL_43 (d := 19)) rfl rfl ?_
  refine Wf.sIc (tkL_43 (d := 19)) rfl ?_
  refine Wf.s2 (tkL_43 (d := 19)) rfl ?_
  refine Wf.sScd (tkL_43 (d := 19)) rfl (vi1 hi hn) ?_
  show Wf l (n, xs) uL 20 false (1000, 10000) 1643 [(0, .ref 4999), (1, .ref 1), (2, .ref 150), (3, .ref 167), (4, .int (nI i))] [.int (xs (nI i + 1 : Int32).toNatClampNeg), .ref 150] M1 kr
  refine Wf.sAl (tkL_43 (d := 19)) rfl rfl rfl ?_
  refine Wf.sIl (tkL_43 (d := 19)) rfl rfl ?_
  refine Wf.sIc (tkL_43 (d := 19)) rfl ?_
  refine Wf.s2 (tkL_43 (d := 19)) rfl ?_
  refine Wf.sScd (tkL_43 (d := 19)) rfl (vi2 hi hn) ?_
  show Wf l (n, xs) uL 20 false (1000, 10000) 1649 [(0, .ref 4999), (1, .ref 1), (2, .ref 150), (3, .ref 167), (4, .int (nI i))] [.int (xs (nI i + 2 : Int32).toNatClampNeg), .int (xs (nI i + 1 : Int32).toNatClampNeg), .ref 150] M1 kr
  refine Wf.sCv (as := [.int (xs (nI i + 1 : Int32).toNatClampNeg), .int (xs (nI i + 2 : Int32).toNatClampNeg)]) (rest := []) (tkL_43 (d := 19)) rfl rfl (kk_ok hq8.iv rfl) rfl ?_
  refine p7_firstWet 7 hq8.li (fun x13 M10 hl18 e12 k14 => ?_)
  have hq17 := LX_k hq8 hl18 e12 k14 (by decide +kernel)
  have c15 : mC M10 ≤ mC M + 1 := by rw [mC_1 e12]; exact c6
  have s16 : mS M10 ≤ mS M + 6 := by rw [mS_1 e12]; exact s7
  show Wf l (n, xs) uL 20 false (1000, 10000) 1652 [(0, .ref 4999), (1, .ref 1), (2, .ref 150), (3, .ref 167), (4, .int (nI i))] [.int x13] M10 kr
  refine Wf.sPop (tkL_43 (d := 19)) rfl rfl ?_
  refine Wf.sGo (tkL_43 (d := 19)) rfl ?_
  show Wf l (n, xs) uL 20 false (1000, 10000) 1885 [(0, .ref 4999), (1, .ref 1), (2, .ref 150), (3, .ref 167), (4, .int (nI i))] [] M10 kr
  exact h M10 hq17 c15 s16
set_option maxRecDepth 20000 in
theorem lawc_44 (hi : i + 6 ≤ n) (hn : n ≤ 3072) (hL0 : LX M) (h : ∀ M', LX M' → mC M' ≤ mC M + 1 → mS M' ≤ mS M + 6 → Wf l (n, xs) uL 20 false (1000, 10000) 1885 [(0, .ref 4999), (1, .ref 1), (2, .ref 150), (3, .ref 167), (4, .int (nI i))] [] M' kr) : Wf l (n, xs) uL 20 false (1000, 10000) 1656 [(0, .ref 4999), (1, .ref 1), (2, .ref 150), (3, .ref 167), (4, .int (nI i))] [] M kr := by
  have c00 : mC M ≤ mC M + 1 := Nat.le_succ _
  have s00 : mS M ≤ mS M + 6 := Nat.le_add_right _ _
  refine Wf.sAl (tkL_44 (d := 19)) rfl rfl rfl ?_
  refine Wf.sCv (as := []) (rest := []) (tkL_44 (d := 19)) rfl rfl (kk_ok hL0.iv rfl) rfl ?_
  obtain ⟨hq0, o, hv0⟩ := hL0
  refine j6_day 7 hq0 hv0 (fun M1 hq8 e3 hv9 => ?_)
  have c6 : mC M1 ≤ mC M + 1 := by rw [mC_1 e3]; exact c00
  have s7 : mS M1 ≤ mS M + 6 := by rw [mS_1 e3]; exact s00
  show Wf l (n, xs) uL 20 false (1000, 10000) 1660 [(0, .ref 4999), (1, .ref 1), (2, .ref 150), (3, .ref 167), (4, .int (nI i))] [.int (lft (fun A => aDay A) (-1) o).1] M1 kr
  refine Wf.sPop (tkL_44 (d := 19)) rfl rfl ?_
  refine Wf.sAl (tkL_44 (d := 19)) rfl rfl rfl ?_
  refine Wf.sCv (as := []) (rest := []) (tkL_44 (d := 19)) rfl rfl (kk_ok hq8.iv rfl) rfl ?_
  refine j7_day 7 hq8 hv9 (fun M10 hq19 e12 hv18 => ?_)
  have hq17 : LX M10 := ⟨hq19, _, hv18⟩
  have c15 : mC M10 ≤ mC M + 1 := by rw [mC_1 e12]; exact c6
  have s16 : mS M10 ≤ mS M + 6 := by rw [mS_1 e12]; exact s7
  show Wf l (n, xs) uL 20 false (1000, 10000) 1665 [(0, .ref 4999), (1, .ref 1), (2, .ref 150), (3, .ref 167), (4, .int (nI i))] [.int (lft (fun A => aDay A) (-1) o).1] M10 kr
  refine Wf.sPop (tkL_44 (d := 19)) rfl rfl ?_
  refine Wf.sGo (tkL_44 (d := 19)) rfl ?_
  show Wf l (n, xs) uL 20 false (1000, 10000) 1885 [(0, .ref 4999), (1, .ref 1), (2, .ref 150), (3, .ref 167), (4, .int (nI i))] [] M10 kr
  exact h M10 hq17 c15 s16
set_option maxRecDepth 20000 in
theorem lawc_45 (hi : i + 6 ≤ n) (hn : n ≤ 3072) (hL0 : LX M) (h : ∀ M', LX M' → mC M' ≤ mC M + 1 → mS M' ≤ mS M + 6 → Wf l (n, xs) uL 20 false (1000, 10000) 1885 [(0, .ref 4999), (1, .ref 1), (2, .ref 150), (3, .ref 167), (4, .int (nI i))] [] M' kr) : Wf l (n, xs) uL 20 false (1000, 10000) 1669 [(0, .ref 4999), (1, .ref 1), (2, .ref 150), (3, .ref 167), (4, .int (nI i))] [] M kr := by
  have c00 : mC M ≤ mC M + 1 := Nat.le_succ _
  have s00 : mS M ≤ mS M + 6 := Nat.le_add_right _ _
  refine Wf.sAl (tkL_45 (d := 19)) rfl rfl rfl ?_
  refine Wf.sAl (tkL_45 (d := 19)) rfl rfl rfl ?_
  refine Wf.sIl (tkL_45 (d := 19)) rfl rfl ?_
  refine Wf.sIc (tkL_45 (d := 19)) rfl ?_
  refine Wf.s2 (tkL_45 (d := 19)) rfl ?_
  refine Wf.sScd (tkL_45 (d := 19)) rfl (vi1 hi hn) ?_
  show Wf l (n, xs) uL 20 false (1000, 10000) 1676 [(0, .ref 4999), (1, .ref 1), (2, .ref 150), (3, .ref 167), (4, .int (nI i))] [.int (xs (nI i + 1 : Int32).toNatClampNeg), .ref 1] M kr
  refine Wf.sAl (tkL_45 (d := 19)) rfl rfl rfl ?_
  refine Wf.sIl (tkL_45 (d := 19)) rfl rfl ?_
  refine Wf.sIc (tkL_45 (d := 19)) rfl ?_
  refine Wf.s2 (tkL_45 (d := 19)) rfl ?_
  refine Wf.sScd (tkL_45 (d := 19)) rfl (vi2 hi hn) ?_
  show Wf l (n, xs) uL 20 false (1000, 10000) 1682 [(0, .ref 4999), (1, .ref 1), (2, .ref 150), (3, .ref 167), (4, .int (nI i))] [.int (xs (nI i + 2 : Int32).toNatClampNeg), .int (xs (nI i + 1 : Int32).toNatClampNeg), .ref 1] M kr
  refine Wf.sCv (as := [.int (xs (nI i + 1 : Int32).toNatClampNeg), .int (xs (nI i + 2 : Int32).toNatClampNeg)]) (rest := []) (tkL_45 (d := 19)) rfl rfl (kk_ok hL0.iv rfl) rfl ?_
  obtain ⟨hq0, o, hv0⟩ := hL0
  refine j6_give 7 hq0 hv0 (fun M1 hq8 e3 hv9 => ?_)
  have c6 : mC M1 ≤ mC M + 1 := by rw [mC_1 e3]; exact c00
  have s7 : mS M1 ≤ mS M + 6 := by rw [mS_1 e3]; exact s00
  show Wf l (n, xs) uL 20 false (1000, 10000) 1685 [(0, .ref 4999), (1, .ref 1), (2, .ref 150), (3, .ref 167), (4, .int (nI i))] [.int (lft (fun A => aGive A (xs (nI i + 1 : Int32).toNatClampNeg) (xs (nI i + 2 : Int32).toNatClampNeg)) (-1) o).1] M1 kr
  refine Wf.sPop (tkL_45 (d := 19)) rfl rfl ?_
  refine Wf.sAl (tkL_45 (d := 19)) rfl rfl rfl ?_
  refine Wf.sAl (tkL_45 (d := 19)) rfl rfl rfl ?_
  refine Wf.sIl (tkL_45 (d := 19)) rfl rfl ?_
  refine Wf.sIc (tkL_45 (d := 19)) rfl ?_
  refine Wf.s2 (tkL_45 (d := 19)) rfl ?_
  refine Wf.sScd (tkL_45 (d := 19)) rfl (vi1 hi hn) ?_
  show Wf l (n, xs) uL 20 false (1000, 10000) 1693 [(0, .ref 4999), (1, .ref 1), (2, .ref 150), (3, .ref 167), (4, .int (nI i))] [.int (xs (nI i + 1 : Int32).toNatClampNeg), .ref 150] M1 kr
  refine Wf.sAl (tkL_45 (d := 19)) rfl rfl rfl ?_
  refine Wf.sIl (tkL_45 (d := 19)) rfl rfl ?_
  refine Wf.sIc (tkL_45 (d := 19)) rfl ?_
  refine Wf.s2 (tkL_45 (d := 19)) rfl ?_
  refine Wf.sScd (tkL_45 (d := 19)) rfl (vi2 hi hn) ?_
  show Wf l (n, xs) uL 20 false (1000, 10000) 1699 [(0, .ref 4999), (1, .ref 1), (2, .ref 150), (3, .ref 167), (4, .int (nI i))] [.int (xs (nI i + 2 : Int32).toNatClampNeg), .int (xs (nI i + 1 : Int32).toNatClampNeg), .ref 150] M1 kr
  refine Wf.sCv (as := [.int (xs (nI i + 1 : Int32).toNatClampNeg), .int (xs (nI i + 2 : Int32).toNatClampNeg)]) (rest := []) (tkL_45 (d := 19)) rfl rfl (kk_ok hq8.iv rfl) rfl ?_
  refine j7_give 7 hq8 hv9 (fun M10 hq19 e12 hv18 => ?_)
  have hq17 : LX M10 := ⟨hq19, _, hv18⟩
  have c15 : mC M10 ≤ mC M + 1 := by rw [mC_1 e12]; exact c6
  have s16 : mS M10 ≤ mS M + 6 := by rw [mS_1 e12]; exact s7
  show Wf l (n, xs) uL 20 false (1000, 10000) 1702 [(0, .ref 4999), (1, .ref 1), (2, .ref 150), (3, .ref 167), (4, .int (nI i))] [.int (lft (fun A => aGive A (xs (nI i + 1 : Int32).toNatClampNeg) (xs (nI i + 2 : Int32).toNatClampNeg)) (-1) o).1] M10 kr
  refine Wf.sPop (tkL_45 (d := 19)) rfl rfl ?_
  refine Wf.sGo (tkL_45 (d := 19)) rfl ?_
  show Wf l (n, xs) uL 20 false (1000, 10000) 1885 [(0, .ref 4999), (1, .ref 1), (2, .ref 150), (3, .ref 167), (4, .int (nI i))] [] M10 kr
  exact h M10 hq17 c15 s16
set_option maxRecDepth 20000 in
theorem lawc_46 (hi : i + 6 ≤ n) (hn : n ≤ 3072) (hL0 : LX M) (h : ∀ M', LX M' → mC M' ≤ mC M + 1 → mS M' ≤ mS M + 6 → Wf l (n, xs) uL 20 false (1000, 10000) 1885 [(0, .ref 4999), (1, .ref 1), (2, .ref 150), (3, .ref 167), (4, .int (nI i))] [] M' kr) : Wf l (n, xs) uL 20 false (1000, 10000) 1706 [(0, .ref 4999), (1, .ref 1), (2, .ref 150), (3, .ref 167), (4, .int (nI i))] [] M kr := by
  have c00 : mC M ≤ mC M + 1 := Nat.le_succ _
  have s00 : mS M ≤ mS M + 6 := Nat.le_add_right _ _
  refine Wf.sAl (tkL_46 (d := 19)) rfl rfl rfl ?_
  refine Wf.sAl (tkL_46 (d := 19)) rfl rfl rfl ?_
  refine Wf.sIl (tkL_46 (d := 19)) rfl rfl ?_
  refine Wf.sIc (tkL_46 (d := 19)) rfl ?_
  refine Wf.s2 (tkL_46 (d := 19)) rfl ?_
  refine Wf.sScd (tkL_46 (d := 19)) rfl (vi1 hi hn) ?_
  show Wf l (n, xs) uL 20 false (1000, 10000) 1713 [(0, .ref 4999), (1, .ref 1), (2, .ref 150), (3, .ref 167), (4, .int (nI i))] [.int (xs (nI i + 1 : Int32).toNatClampNeg), .ref 1] M kr
  refine Wf.sCv (as := [.int (xs (nI i + 1 : Int32).toNatClampNeg)]) (rest := []) (tkL_46 (d := 19)) rfl rfl (kk_ok hL0.iv rfl) rfl ?_
  obtain ⟨hq0, o, hv0⟩ := hL0
  refine j6_mend 7 hq0 hv0 (fun M1 hq8 e3 hv9 => ?_)
  have c6 : mC M1 ≤ mC M + 1 := by rw [mC_1 e3]; exact c00
  have s7 : mS M1 ≤ mS M + 6 := by rw [mS_1 e3]; exact s00
  show Wf l (n, xs) uL 20 false (1000, 10000) 1716 [(0, .ref 4999), (1, .ref 1), (2, .ref 150), (3, .ref 167), (4, .int (nI i))] [.int (lft (fun A => aMend A (xs (nI i + 1 : Int32).toNatClampNeg)) 0 o).1] M1 kr
  refine Wf.sPop (tkL_46 (d := 19)) rfl rfl ?_
  refine Wf.sAl (tkL_46 (d := 19)) rfl rfl rfl ?_
  refine Wf.sAl (tkL_46 (d := 19)) rfl rfl rfl ?_
  refine Wf.sIl (tkL_46 (d := 19)) rfl rfl ?_
  refine Wf.sIc (tkL_46 (d := 19)) rfl ?_
  refine Wf.s2 (tkL_46 (d := 19)) rfl ?_
  refine Wf.sScd (tkL_46 (d := 19)) rfl (vi1 hi hn) ?_
  show Wf l (n, xs) uL 20 false (1000, 10000) 1724 [(0, .ref 4999), (1, .ref 1), (2, .ref 150), (3, .ref 167), (4, .int (nI i))] [.int (xs (nI i + 1 : Int32).toNatClampNeg), .ref 150] M1 kr
  refine Wf.sCv (as := [.int (xs (nI i + 1 : Int32).toNatClampNeg)]) (rest := []) (tkL_46 (d := 19)) rfl rfl (kk_ok hq8.iv rfl) rfl ?_
  refine j7_mend 7 hq8 hv9 (fun M10 hq19 e12 hv18 => ?_)
  have hq17 : LX M10 := ⟨hq19, _, hv18⟩
  have c15 : mC M10 ≤ mC M + 1 := by rw [mC_1 e12]; exact c6
  have s16 : mS M10 ≤ mS M + 6 := by rw [mS_1 e12]; exact s7
  show Wf l (n, xs) uL 20 false (1000, 10000) 1727 [(0, .ref 4999), (1, .ref 1), (2, .ref 150), (3, .ref 167), (4, .int (nI i))] [.int (lft (fun A => aMend A (xs (nI i + 1 : Int32).toNatClampNeg)) 0 o).1] M10 kr
  refine Wf.sPop (tkL_46 (d := 19)) rfl rfl ?_
  refine Wf.sGo (tkL_46 (d := 19)) rfl ?_
  show Wf l (n, xs) uL 20 false (1000, 10000) 1885 [(0, .ref 4999), (1, .ref 1), (2, .ref 150), (3, .ref 167), (4, .int (nI i))] [] M10 kr
  exact h M10 hq17 c15 s16
end LAWC
