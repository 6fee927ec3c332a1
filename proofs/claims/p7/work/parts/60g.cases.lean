/-! the law's cases over its states -/
section LAWC
variable {l : Launch} {xs : Nat → Int32} {kr : KR} {i n : Nat} {M : Mm}
set_option maxRecDepth 20000 in
theorem lawc_47 (hi : i + 6 ≤ n) (hn : n ≤ 3072) (hL0 : LX M) (h : ∀ M', LX M' → mC M' ≤ mC M + 1 → mS M' ≤ mS M + 6 → Wf l (n, xs) uL 20 false (1000, 10000) 1885 [(0, .ref 4999), (1, .ref 1), (2, .ref 150), (3, .ref 167), (4, .int (nI i))] [] M' kr) : Wf l (n, xs) uL 20 false (1000, 10000) 1731 [(0, .ref 4999), (1, .ref 1), (2, .ref 150), (3, .ref 167), (4, .int (nI i))] [] M kr := by
  have c00 : mC M ≤ mC M + 1 := Nat.le_succ _
  have s00 : mS M ≤ mS M + 6 := Nat.le_add_right _ _
  refine Wf.sAl (tkL_47 (d := 19)) rfl rfl rfl ?_
  refine Wf.sAl (tkL_47 (d := 19)) rfl rfl rfl ?_
  refine Wf.sIl (tkL_47 (d := 19)) rfl rfl ?_
  refine Wf.sIc (tkL_47 (d := 19)) rfl ?_
  refine Wf.s2 (tkL_47 (d := 19)) rfl ?_
  refine Wf.sScd (tkL_47 (d := 19)) rfl (vi1 hi hn) ?_
  show Wf l (n, xs) uL 20 false (1000, 10000) 1738 [(0, .ref 4999), (1, .ref 1), (2, .ref 150), (3, .ref 167), (4, .int (nI i))] [.int (xs (nI i + 1 : Int32).toNatClampNeg), .ref 1] M kr
  refine Wf.sAl (tkL_47 (d := 19)) rfl rfl rfl ?_
  refine Wf.sIl (tkL_47 (d := 19)) rfl rfl ?_
  refine Wf.sIc (tkL_47 (d := 19)) rfl ?_
  refine Wf.s2 (tkL_47 (d := 19)) rfl ?_
  refine Wf.sScd (tkL_47 (d := 19)) rfl (vi2 hi hn) ?_
  show Wf l (n, xs) uL 20 false (1000, 10000) 1744 [(0, .ref 4999), (1, .ref 1), (2, .ref 150), (3, .ref 167), (4, .int (nI i))] [.int (xs (nI i + 2 : Int32).toNatClampNeg), .int (xs (nI i + 1 : Int32).toNatClampNeg), .ref 1] M kr
  refine Wf.sCv (as := [.int (xs (nI i + 1 : Int32).toNatClampNeg), .int (xs (nI i + 2 : Int32).toNatClampNeg)]) (rest := []) (tkL_47 (d := 19)) rfl rfl (kk_ok hL0.iv rfl) rfl ?_
  obtain ⟨hq0, o, hv0⟩ := hL0
  refine j6_vex 7 hq0 hv0 (fun M1 hq8 e3 hv9 => ?_)
  have c6 : mC M1 ≤ mC M + 1 := by rw [mC_1 e3]; exact c00
  have s7 : mS M1 ≤ mS M + 6 := by rw [mS_1 e3]; exact s00
  show Wf l (n, xs) uL 20 false (1000, 10000) 1747 [(0, .ref 4999), (1, .ref 1), (2, .ref 150), (3, .ref 167), (4, .int (nI i))] [.int (lft (fun A => aVex A (xs (nI i + 1 : Int32).toNatClampNeg) (xs (nI i + 2 : Int32).toNatClampNeg)) (-1) o).1] M1 kr
  refine Wf.sPop (tkL_47 (d := 19)) rfl rfl ?_
  refine Wf.sAl (tkL_47 (d := 19)) rfl rfl rfl ?_
  refine Wf.sAl (tkL_47 (d := 19)) rfl rfl rfl ?_
  refine Wf.sIl (tkL_47 (d := 19)) rfl rfl ?_
  refine Wf.sIc (tkL_47 (d := 19)) rfl ?_
  refine Wf.s2 (tkL_47 (d := 19)) rfl ?_
  refine Wf.sScd (tkL_47 (d := 19)) rfl (vi1 hi hn) ?_
  show Wf l (n, xs) uL 20 false (1000, 10000) 1755 [(0, .ref 4999), (1, .ref 1), (2, .ref 150), (3, .ref 167), (4, .int (nI i))] [.int (xs (nI i + 1 : Int32).toNatClampNeg), .ref 150] M1 kr
  refine Wf.sAl (tkL_47 (d := 19)) rfl rfl rfl ?_
  refine Wf.sIl (tkL_47 (d := 19)) rfl rfl ?_
  refine Wf.sIc (tkL_47 (d := 19)) rfl ?_
  refine Wf.s2 (tkL_47 (d := 19)) rfl ?_
  refine Wf.sScd (tkL_47 (d := 19)) rfl (vi2 hi hn) ?_
  show Wf l (n, xs) uL 20 false (1000, 10000) 1761 [(0, .ref 4999), (1, .ref 1), (2, .ref 150), (3, .ref 167), (4, .int (nI i))] [.int (xs (nI i + 2 : Int32).toNatClampNeg), .int (xs (nI i + 1 : Int32).toNatClampNeg), .ref 150] M1 kr
  refine Wf.sCv (as := [.int (xs (nI i + 1 : Int32).toNatClampNeg), .int (xs (nI i + 2 : Int32).toNatClampNeg)]) (rest := []) (tkL_47 (d := 19)) rfl rfl (kk_ok hq8.iv rfl) rfl ?_
  refine j7_vex 7 hq8 hv9 (fun M10 hq19 e12 hv18 => ?_)
  have hq17 : LX M10 := ⟨hq19, _, hv18⟩
  have c15 : mC M10 ≤ mC M + 1 := by rw [mC_1 e12]; exact c6
  have s16 : mS M10 ≤ mS M + 6 := by rw [mS_1 e12]; exact s7
  show Wf l (n, xs) uL 20 false (1000, 10000) 1764 [(0, .ref 4999), (1, .ref 1), (2, .ref 150), (3, .ref 167), (4, .int (nI i))] [.int (lft (fun A => aVex A (xs (nI i + 1 : Int32).toNatClampNeg) (xs (nI i + 2 : Int32).toNatClampNeg)) (-1) o).1] M10 kr
  refine Wf.sPop (tkL_47 (d := 19)) rfl rfl ?_
  refine Wf.sGo (tkL_47 (d := 19)) rfl ?_
  show Wf l (n, xs) uL 20 false (1000, 10000) 1885 [(0, .ref 4999), (1, .ref 1), (2, .ref 150), (3, .ref 167), (4, .int (nI i))] [] M10 kr
  exact h M10 hq17 c15 s16
set_option maxRecDepth 20000 in
theorem lawc_48 (hi : i + 6 ≤ n) (hn : n ≤ 3072) (hL0 : LX M) (h : ∀ M', LX M' → mC M' ≤ mC M + 1 → mS M' ≤ mS M + 6 → Wf l (n, xs) uL 20 false (1000, 10000) 1885 [(0, .ref 4999), (1, .ref 1), (2, .ref 150), (3, .ref 167), (4, .int (nI i))] [] M' kr) : Wf l (n, xs) uL 20 false (1000, 10000) 1768 [(0, .ref 4999), (1, .ref 1), (2, .ref 150), (3, .ref 167), (4, .int (nI i))] [] M kr := by
  have c00 : mC M ≤ mC M + 1 := Nat.le_succ _
  have s00 : mS M ≤ mS M + 6 := Nat.le_add_right _ _
  refine Wf.sAl (tkL_48 (d := 19)) rfl rfl rfl ?_
  refine Wf.sCv (as := []) (rest := []) (tkL_48 (d := 19)) rfl rfl (kk_ok hL0.iv rfl) rfl ?_
  obtain ⟨hq0, o, hv0⟩ := hL0
  refine j6_undo 7 hq0 hv0 (fun M1 hq8 e3 hv9 => ?_)
  have c6 : mC M1 ≤ mC M + 1 := by rw [mC_1 e3]; exact c00
  have s7 : mS M1 ≤ mS M + 6 := by rw [mS_1 e3]; exact s00
  show Wf l (n, xs) uL 20 false (1000, 10000) 1772 [(0, .ref 4999), (1, .ref 1), (2, .ref 150), (3, .ref 167), (4, .int (nI i))] [.int (lft (fun A => aUndo A) 0 o).1] M1 kr
  refine Wf.sPop (tkL_48 (d := 19)) rfl rfl ?_
  refine Wf.sAl (tkL_48 (d := 19)) rfl rfl rfl ?_
  refine Wf.sCv (as := []) (rest := []) (tkL_48 (d := 19)) rfl rfl (kk_ok hq8.iv rfl) rfl ?_
  refine j7_undo 7 hq8 hv9 (fun M10 hq19 e12 hv18 => ?_)
  have hq17 : LX M10 := ⟨hq19, _, hv18⟩
  have c15 : mC M10 ≤ mC M + 1 := by rw [mC_1 e12]; exact c6
  have s16 : mS M10 ≤ mS M + 6 := by rw [mS_1 e12]; exact s7
  show Wf l (n, xs) uL 20 false (1000, 10000) 1777 [(0, .ref 4999), (1, .ref 1), (2, .ref 150), (3, .ref 167), (4, .int (nI i))] [.int (lft (fun A => aUndo A) 0 o).1] M10 kr
  refine Wf.sPop (tkL_48 (d := 19)) rfl rfl ?_
  refine Wf.sGo (tkL_48 (d := 19)) rfl ?_
  show Wf l (n, xs) uL 20 false (1000, 10000) 1885 [(0, .ref 4999), (1, .ref 1), (2, .ref 150), (3, .ref 167), (4, .int (nI i))] [] M10 kr
  exact h M10 hq17 c15 s16
set_option maxRecDepth 20000 in
theorem lawc_49 (hi : i + 6 ≤ n) (hn : n ≤ 3072) (hL0 : LX M) (h : ∀ M', LX M' → mC M' ≤ mC M + 1 → mS M' ≤ mS M + 6 → Wf l (n, xs) uL 20 false (1000, 10000) 1885 [(0, .ref 4999), (1, .ref 1), (2, .ref 150), (3, .ref 167), (4, .int (nI i))] [] M' kr) : Wf l (n, xs) uL 20 false (1000, 10000) 1781 [(0, .ref 4999), (1, .ref 1), (2, .ref 150), (3, .ref 167), (4, .int (nI i))] [] M kr := by
  have c00 : mC M ≤ mC M + 1 := Nat.le_succ _
  have s00 : mS M ≤ mS M + 6 := Nat.le_add_right _ _
  refine Wf.sAl (tkL_49 (d := 19)) rfl rfl rfl ?_
  refine Wf.sCv (as := []) (rest := []) (tkL_49 (d := 19)) rfl rfl (kk_ok hL0.iv rfl) rfl ?_
  obtain ⟨hq0, o, hv0⟩ := hL0
  refine j6_image 7 hq0 hv0 (fun M1 hq8 e3 hv9 => ?_)
  have c6 : mC M1 ≤ mC M + 1 := by rw [mC_1 e3]; exact c00
  have s7 : mS M1 ≤ mS M + 6 := by rw [mS_1 e3]; exact s00
  show Wf l (n, xs) uL 20 false (1000, 10000) 1785 [(0, .ref 4999), (1, .ref 1), (2, .ref 150), (3, .ref 167), (4, .int (nI i))] [.int (lft (fun A => aImage A) (-1) o).1] M1 kr
  refine Wf.sPop (tkL_49 (d := 19)) rfl rfl ?_
  refine Wf.sAl (tkL_49 (d := 19)) rfl rfl rfl ?_
  refine Wf.sCv (as := []) (rest := []) (tkL_49 (d := 19)) rfl rfl (kk_ok hq8.iv rfl) rfl ?_
  refine j7_image 7 hq8 hv9 (fun M10 hq19 e12 hv18 => ?_)
  have hq17 : LX M10 := ⟨hq19, _, hv18⟩
  have c15 : mC M10 ≤ mC M + 1 := by rw [mC_1 e12]; exact c6
  have s16 : mS M10 ≤ mS M + 6 := by rw [mS_1 e12]; exact s7
  show Wf l (n, xs) uL 20 false (1000, 10000) 1790 [(0, .ref 4999), (1, .ref 1), (2, .ref 150), (3, .ref 167), (4, .int (nI i))] [.int (lft (fun A => aImage A) (-1) o).1] M10 kr
  refine Wf.sPop (tkL_49 (d := 19)) rfl rfl ?_
  refine Wf.sGo (tkL_49 (d := 19)) rfl ?_
  show Wf l (n, xs) uL 20 false (1000, 10000) 1885 [(0, .ref 4999), (1, .ref 1), (2, .ref 150), (3, .ref 167), (4, .int (nI i))] [] M10 kr
  exact h M10 hq17 c15 s16
set_option maxRecDepth 20000 in
theorem lawc_50 (hi : i + 6 ≤ n) (hn : n ≤ 3072) (hL0 : LX M) (h : ∀ M', LX M' → mC M' ≤ mC M + 1 → mS M' ≤ mS M + 6 → Wf l (n, xs) uL 20 false (1000, 10000) 1885 [(0, .ref 4999), (1, .ref 1), (2, .ref 150), (3, .ref 167), (4, .int (nI i))] [] M' kr) : Wf l (n, xs) uL 20 false (1000, 10000) 1794 [(0, .ref 4999), (1, .ref 1), (2, .ref 150), (3, .ref 167), (4, .int (nI i))] [] M kr := by
  have c00 : mC M ≤ mC M + 1 := Nat.le_succ _
  have s00 : mS M ≤ mS M + 6 := Nat.le_add_right _ _
  refine Wf.sAl (tkL_50 (d := 19)) rfl rfl rfl ?_
  refine Wf.sAl (tkL_50 (d := 19)) rfl rfl rfl ?_
  refine Wf.sIl (tkL_50 (d := 19)) rfl rfl ?_
  refine Wf.sIc (tkL_50 (d := 19)) rfl ?_
  refine Wf.s2 (tkL_50 (d := 19)) rfl ?_
  refine Wf.sScd (tkL_50 (d := 19)) rfl (vi1 hi hn) ?_
  show Wf l (n, xs) uL 20 false (1000, 10000) 1801 [(0, .ref 4999), (1, .ref 1), (2, .ref 150), (3, .ref 167), (4, .int (nI i))] [.int (xs (nI i + 1 : Int32).toNatClampNeg), .ref 1] M kr
  refine Wf.sCv (as := [.int (xs (nI i + 1 : Int32).toNatClampNeg)]) (rest := []) (tkL_50 (d := 19)) rfl rfl (kk_ok hL0.iv rfl) rfl ?_
  obtain ⟨hq0, o, hv0⟩ := hL0
  refine j6_back 7 hq0 hv0 (fun M1 hq8 e3 hv9 => ?_)
  have c6 : mC M1 ≤ mC M + 1 := by rw [mC_1 e3]; exact c00
  have s7 : mS M1 ≤ mS M + 6 := by rw [mS_1 e3]; exact s00
  show Wf l (n, xs) uL 20 false (1000, 10000) 1804 [(0, .ref 4999), (1, .ref 1), (2, .ref 150), (3, .ref 167), (4, .int (nI i))] [.int (lft (fun A => aBack A (xs (nI i + 1 : Int32).toNatClampNeg)) 0 o).1] M1 kr
  refine Wf.sPop (tkL_50 (d := 19)) rfl rfl ?_
  refine Wf.sAl (tkL_50 (d := 19)) rfl rfl rfl ?_
  refine Wf.sAl (tkL_50 (d := 19)) rfl rfl rfl ?_
  refine Wf.sIl (tkL_50 (d := 19)) rfl rfl ?_
  refine Wf.sIc (tkL_50 (d := 19)) rfl ?_
  refine Wf.s2 (tkL_50 (d := 19)) rfl ?_
  refine Wf.sScd (tkL_50 (d := 19)) rfl (vi1 hi hn) ?_
  show Wf l (n, xs) uL 20 false (1000, 10000) 1812 [(0, .ref 4999), (1, .ref 1), (2, .ref 150), (3, .ref 167), (4, .int (nI i))] [.int (xs (nI i + 1 : Int32).toNatClampNeg), .ref 150] M1 kr
  refine Wf.sCv (as := [.int (xs (nI i + 1 : Int32).toNatClampNeg)]) (rest := []) (tkL_50 (d := 19)) rfl rfl (kk_ok hq8.iv rfl) rfl ?_
  refine j7_back 7 hq8 hv9 (fun M10 hq19 e12 hv18 => ?_)
  have hq17 : LX M10 := ⟨hq19, _, hv18⟩
  have c15 : mC M10 ≤ mC M + 1 := by rw [mC_1 e12]; exact c6
  have s16 : mS M10 ≤ mS M + 6 := by rw [mS_1 e12]; exact s7
  show Wf l (n, xs) uL 20 false (1000, 10000) 1815 [(0, .ref 4999), (1, .ref 1), (2, .ref 150), (3, .ref 167), (4, .int (nI i))] [.int (lft (fun A => aBack A (xs (nI i + 1 : Int32).toNatClampNeg)) 0 o).1] M10 kr
  refine Wf.sPop (tkL_50 (d := 19)) rfl rfl ?_
  refine Wf.sGo (tkL_50 (d := 19)) rfl ?_
  show Wf l (n, xs) uL 20 false (1000, 10000) 1885 [(0, .ref 4999), (1, .ref 1), (2, .ref 150), (3, .ref 167), (4, .int (nI i))] [] M10 kr
  exact h M10 hq17 c15 s16
set_option maxRecDepth 20000 in
theorem lawc_51 (hl0 : l.stackTraces = false) (hC : mC M + 1 ≤ 1000) (hS : mS M + 6 ≤ 10000) (hi : i + 6 ≤ n) (hn : n ≤ 3072) (hL0 : LX M) (h : ∀ M', LX M' → mC M' ≤ mC M + 1 → mS M' ≤ mS M + 6 → Wf l (n, xs) uL 20 false (1000, 10000) 1885 [(0, .ref 4999), (1, .ref 1), (2, .ref 150), (3, .ref 167), (4, .int (nI i))] [] M' kr) : Wf l (n, xs) uL 20 false (1000, 10000) 1819 [(0, .ref 4999), (1, .ref 1), (2, .ref 150), (3, .ref 167), (4, .int (nI i))] [] M kr := by
  have c00 : mC M ≤ mC M + 1 := Nat.le_succ _
  have s00 : mS M ≤ mS M + 6 := Nat.le_add_right _ _
  refine Wf.sAl (tkL_51 (d := 19)) rfl rfl rfl ?_
  refine Wf.sAl (tkL_51 (d := 19)) rfl rfl rfl ?_
  refine Wf.sIl (tkL_51 (d := 19)) rfl rfl ?_
  refine Wf.sIc (tkL_51 (d := 19)) rfl ?_
  refine Wf.s2 (tkL_51 (d := 19)) rfl ?_
  refine Wf.sScd (tkL_51 (d := 19)) rfl (vi1 hi hn) ?_
  show Wf l (n, xs) uL 20 false (1000, 10000) 1826 [(0, .ref 4999), (1, .ref 1), (2, .ref 150), (3, .ref 167), (4, .int (nI i))] [.int (xs (nI i + 1 : Int32).toNatClampNeg), .ref 1] M kr
  refine Wf.sAl (tkL_51 (d := 19)) rfl rfl rfl ?_
  have jn4 : ∀ (v1 : Int32) (M2 : Mm), LX M2 → mC M2 ≤ mC M + 1 → mS M2 ≤ mS M + 6 → Wf l (n, xs) uL 20 false (1000, 10000) 1830 [(0, .ref 4999), (1, .ref 1), (2, .ref 150), (3, .ref 167), (4, .int (nI i))] [.int v1] M2 kr := by
    intro v1 M2 hL3 c0 s0
    refine Wf.sIs (tkL_51 (d := 19)) rfl rfl ?_
    show Wf l (n, xs) uL 20 false (1000, 10000) 1832 [(0, .ref 4999), (1, .ref 1), (2, .ref 150), (3, .ref 167), (4, .int (nI i)), (5, .int v1)] [] M2 kr
    refine Wf.sAl (tkL_51 (d := 19)) rfl rfl rfl ?_
    refine Wf.sAl (tkL_51 (d := 19)) rfl rfl rfl ?_
    refine Wf.sIl (tkL_51 (d := 19)) rfl rfl ?_
    refine Wf.sIc (tkL_51 (d := 19)) rfl ?_
    refine Wf.s2 (tkL_51 (d := 19)) rfl ?_
    refine Wf.sScd (tkL_51 (d := 19)) rfl (vi1 hi hn) ?_
    show Wf l (n, xs) uL 20 false (1000, 10000) 1839 [(0, .ref 4999), (1, .ref 1), (2, .ref 150), (3, .ref 167), (4, .int (nI i)), (5, .int v1)] [.int (xs (nI i + 1 : Int32).toNatClampNeg), .ref 150] M2 kr
    refine Wf.sCv (as := [.int (xs (nI i + 1 : Int32).toNatClampNeg)]) (rest := []) (tkL_51 (d := 19)) rfl rfl (kk_ok hL3.iv rfl) rfl ?_
    refine p7_led 7 hL3.li (fun x8 M5 hl13 e7 k9 => ?_)
    have hq12 := LX_k hL3 hl13 e7 k9 (by decide +kernel)
    have c10 : mC M5 ≤ mC M + 1 := by rw [mC_1 e7]; exact c0
    have s11 : mS M5 ≤ mS M + 6 := by rw [mS_1 e7]; exact s0
    show Wf l (n, xs) uL 20 false (1000, 10000) 1842 [(0, .ref 4999), (1, .ref 1), (2, .ref 150), (3, .ref 167), (4, .int (nI i)), (5, .int v1)] [.int x8] M5 kr
    refine Wf.sIs (tkL_51 (d := 19)) rfl rfl ?_
    show Wf l (n, xs) uL 20 false (1000, 10000) 1844 [(0, .ref 4999), (1, .ref 1), (2, .ref 150), (3, .ref 167), (4, .int (nI i)), (5, .int v1), (6, .int x8)] [] M5 kr
    refine Wf.sGo (tkL_51 (d := 19)) rfl ?_
    show Wf l (n, xs) uL 20 false (1000, 10000) 1885 [(0, .ref 4999), (1, .ref 1), (2, .ref 150), (3, .ref 167), (4, .int (nI i)), (5, .int v1), (6, .int x8)] [] M5 kr
    refine Wf.keep [0, 1, 2, 3, 4] ?_
    exact h M5 hq12 c10 s11
  refine Wf.sCl (tkL_51 (d := 19)) rfl (rj_LS hL0.iv.1 hC hS) ?_
  exact fun D g ad A => ledL (d := 9) hl0 hL0.iv (LI_e hL0.li) (fun w => ⟨⟨rfl, rfl⟩, jn4 _ _ (LX_gw (LX_wL hL0)) (Nat.le_refl _) (Nat.le_refl _)⟩) ⟨⟨rfl, rfl⟩, jn4 _ _ (LX_gw hL0) (Nat.le_refl _) (Nat.le_refl _)⟩ D g ad A
set_option maxRecDepth 20000 in
theorem lawc_52 (hi : i + 6 ≤ n) (hn : n ≤ 3072) (hL0 : LX M) (h : ∀ M', LX M' → mC M' ≤ mC M + 1 → mS M' ≤ mS M + 6 → Wf l (n, xs) uL 20 false (1000, 10000) 1885 [(0, .ref 4999), (1, .ref 1), (2, .ref 150), (3, .ref 167), (4, .int (nI i))] [] M' kr) : Wf l (n, xs) uL 20 false (1000, 10000) 1847 [(0, .ref 4999), (1, .ref 1), (2, .ref 150), (3, .ref 167), (4, .int (nI i))] [] M kr := by
  have c00 : mC M ≤ mC M + 1 := Nat.le_succ _
  have s00 : mS M ≤ mS M + 6 := Nat.le_add_right _ _
  refine Wf.sAl (tkL_52 (d := 19)) rfl rfl rfl ?_
  refine Wf.sAl (tkL_52 (d := 19)) rfl rfl rfl ?_
  refine Wf.sIl (tkL_52 (d := 19)) rfl rfl ?_
  refine Wf.sIc (tkL_52 (d := 19)) rfl ?_
  refine Wf.s2 (tkL_52 (d := 19)) rfl ?_
  refine Wf.sScd (tkL_52 (d := 19)) rfl (vi1 hi hn) ?_
  show Wf l (n, xs) uL 20 false (1000, 10000) 1854 [(0, .ref 4999), (1, .ref 1), (2, .ref 150), (3, .ref 167), (4, .int (nI i))] [.int (xs (nI i + 1 : Int32).toNatClampNeg), .ref 1] M kr
  refine Wf.sCv (as := [.int (xs (nI i + 1 : Int32).toNatClampNeg)]) (rest := []) (tkL_52 (d := 19)) rfl rfl (kk_ok hL0.iv rfl) rfl ?_
  refine p6_size 7 hL0.li (fun x4 M1 hl9 e3 k5 => ?_)
  have hq8 := LX_k hL0 hl9 e3 k5 (by decide +kernel)
  have c6 : mC M1 ≤ mC M + 1 := by rw [mC_1 e3]; exact c00
  have s7 : mS M1 ≤ mS M + 6 := by rw [mS_1 e3]; exact s00
  show Wf l (n, xs) uL 20 false (1000, 10000) 1857 [(0, .ref 4999), (1, .ref 1), (2, .ref 150), (3, .ref 167), (4, .int (nI i))] [.int x4] M1 kr
  refine Wf.sPop (tkL_52 (d := 19)) rfl rfl ?_
  refine Wf.sAl (tkL_52 (d := 19)) rfl rfl rfl ?_
  refine Wf.sAl (tkL_52 (d := 19)) rfl rfl rfl ?_
  refine Wf.sIl (tkL_52 (d := 19)) rfl rfl ?_
  refine Wf.sIc (tkL_52 (d := 19)) rfl ?_
  refine Wf.s2 (tkL_52 (d := 19)) rfl ?_
  refine Wf.sScd (tkL_52 (d := 19)) rfl (vi1 hi hn) ?_
  show Wf l (n, xs) uL 20 false (1000, 10000) 1865 [(0, .ref 4999), (1, .ref 1), (2, .ref 150), (3, .ref 167), (4, .int (nI i))] [.int (xs (nI i + 1 : Int32).toNatClampNeg), .ref 150] M1 kr
  refine Wf.sCv (as := [.int (xs (nI i + 1 : Int32).toNatClampNeg)]) (rest := []) (tkL_52 (d := 19)) rfl rfl (kk_ok hq8.iv rfl) rfl ?_
  refine p7_size 7 hq8.li (fun x13 M10 hl18 e12 k14 => ?_)
  have hq17 := LX_k hq8 hl18 e12 k14 (by decide +kernel)
  have c15 : mC M10 ≤ mC M + 1 := by rw [mC_1 e12]; exact c6
  have s16 : mS M10 ≤ mS M + 6 := by rw [mS_1 e12]; exact s7
  show Wf l (n, xs) uL 20 false (1000, 10000) 1868 [(0, .ref 4999), (1, .ref 1), (2, .ref 150), (3, .ref 167), (4, .int (nI i))] [.int x13] M10 kr
  refine Wf.sPop (tkL_52 (d := 19)) rfl rfl ?_
  refine Wf.sGo (tkL_52 (d := 19)) rfl ?_
  show Wf l (n, xs) uL 20 false (1000, 10000) 1885 [(0, .ref 4999), (1, .ref 1), (2, .ref 150), (3, .ref 167), (4, .int (nI i))] [] M10 kr
  exact h M10 hq17 c15 s16
set_option maxRecDepth 20000 in
theorem lawc_53 (hi : i + 6 ≤ n) (hn : n ≤ 3072) (hL0 : LX M) (h : ∀ M', LX M' → mC M' ≤ mC M + 1 → mS M' ≤ mS M + 6 → Wf l (n, xs) uL 20 false (1000, 10000) 1885 [(0, .ref 4999), (1, .ref 1), (2, .ref 150), (3, .ref 167), (4, .int (nI i))] [] M' kr) : Wf l (n, xs) uL 20 false (1000, 10000) 1872 [(0, .ref 4999), (1, .ref 1), (2, .ref 150), (3, .ref 167), (4, .int (nI i))] [] M kr := by
  have c00 : mC M ≤ mC M + 1 := Nat.le_succ _
  have s00 : mS M ≤ mS M + 6 := Nat.le_add_right _ _
  refine Wf.sAl (tkL_53 (d := 19)) rfl rfl rfl ?_
  refine Wf.sCv (as := []) (rest := []) (tkL_53 (d := 19)) rfl rfl (kk_ok hL0.iv rfl) rfl ?_
  refine p6_trouble 7 hL0.li (fun x4 M1 hl9 e3 k5 => ?_)
  have hq8 := LX_k hL0 hl9 e3 k5 (by decide +kernel)
  have c6 : mC M1 ≤ mC M + 1 := by rw [mC_1 e3]; exact c00
  have s7 : mS M1 ≤ mS M + 6 := by rw [mS_1 e3]; exact s00
  show Wf l (n, xs) uL 20 false (1000, 10000) 1876 [(0, .ref 4999), (1, .ref 1), (2, .ref 150), (3, .ref 167), (4, .int (nI i))] [.int x4] M1 kr
  refine Wf.sPop (tkL_53 (d := 19)) rfl rfl ?_
  refine Wf.sAl (tkL_53 (d := 19)) rfl rfl rfl ?_
  refine Wf.sCv (as := []) (rest := []) (tkL_53 (d := 19)) rfl rfl (kk_ok hq8.iv rfl) rfl ?_
  refine p7_trouble 7 hq8.li (fun x13 M10 hl18 e12 k14 => ?_)
  have hq17 := LX_k hq8 hl18 e12 k14 (by decide +kernel)
  have c15 : mC M10 ≤ mC M + 1 := by rw [mC_1 e12]; exact c6
  have s16 : mS M10 ≤ mS M + 6 := by rw [mS_1 e12]; exact s7
  show Wf l (n, xs) uL 20 false (1000, 10000) 1881 [(0, .ref 4999), (1, .ref 1), (2, .ref 150), (3, .ref 167), (4, .int (nI i))] [.int x13] M10 kr
  refine Wf.sPop (tkL_53 (d := 19)) rfl rfl ?_
  refine Wf.sGo (tkL_53 (d := 19)) rfl ?_
  show Wf l (n, xs) uL 20 false (1000, 10000) 1885 [(0, .ref 4999), (1, .ref 1), (2, .ref 150), (3, .ref 167), (4, .int (nI i))] [] M10 kr
  exact h M10 hq17 c15 s16
end LAWC
