/-! the law's cases over its states -/
section LAWC
variable {l : Launch} {xs : Nat → Int32} {kr : KR} {i n : Nat} {M : Mm}
set_option maxRecDepth 20000 in
theorem lawc_32 (hi : i + 6 ≤ n) (hn : n ≤ 3072) (hL0 : LX M) (h : ∀ M', LX M' → mC M' ≤ mC M + 1 → mS M' ≤ mS M + 6 → Wf l (n, xs) uL 20 false (1000, 10000) 1885 [(0, .ref 4999), (1, .ref 1), (2, .ref 150), (3, .ref 167), (4, .int (nI i))] [] M' kr) : Wf l (n, xs) uL 20 false (1000, 10000) 1216 [(0, .ref 4999), (1, .ref 1), (2, .ref 150), (3, .ref 167), (4, .int (nI i))] [] M kr := by
  have c00 : mC M ≤ mC M + 1 := Nat.le_succ _
  have s00 : mS M ≤ mS M + 6 := Nat.le_add_right _ _
  refine Wf.sAl (tkL_32 (d := 19)) rfl rfl rfl ?_
  refine Wf.sCv (as := []) (rest := []) (tkL_32 (d := 19)) rfl rfl (kk_ok hL0.iv rfl) rfl ?_
  refine p6_could 7 hL0.li (fun x4 M1 hl9 e3 k5 => ?_)
  have hq8 := LX_k hL0 hl9 e3 k5 (by decide +kernel)
  have c6 : mC M1 ≤ mC M + 1 := by rw [mC_1 e3]; exact c00
  have s7 : mS M1 ≤ mS M + 6 := by rw [mS_1 e3]; exact s00
  show Wf l (n, xs) uL 20 false (1000, 10000) 1220 [(0, .ref 4999), (1, .ref 1), (2, .ref 150), (3, .ref 167), (4, .int (nI i))] [.int x4] M1 kr
  refine Wf.sPop (tkL_32 (d := 19)) rfl rfl ?_
  refine Wf.sAl (tkL_32 (d := 19)) rfl rfl rfl ?_
  refine Wf.sCv (as := []) (rest := []) (tkL_32 (d := 19)) rfl rfl (kk_ok hq8.iv rfl) rfl ?_
  refine p7_could 7 hq8.li (fun x13 M10 hl18 e12 k14 => ?_)
  have hq17 := LX_k hq8 hl18 e12 k14 (by decide +kernel)
  have c15 : mC M10 ≤ mC M + 1 := by rw [mC_1 e12]; exact c6
  have s16 : mS M10 ≤ mS M + 6 := by rw [mS_1 e12]; exact s7
  show Wf l (n, xs) uL 20 false (1000, 10000) 1225 [(0, .ref 4999), (1, .ref 1), (2, .ref 150), (3, .ref 167), (4, .int (nI i))] [.int x13] M10 kr
  refine Wf.sPop (tkL_32 (d := 19)) rfl rfl ?_
  refine Wf.sGo (tkL_32 (d := 19)) rfl ?_
  show Wf l (n, xs) uL 20 false (1000, 10000) 1885 [(0, .ref 4999), (1, .ref 1), (2, .ref 150), (3, .ref 167), (4, .int (nI i))] [] M10 kr
  exact h M10 hq17 c15 s16
set_option maxRecDepth 20000 in
theorem lawc_33 (hi : i + 6 ≤ n) (hn : n ≤ 3072) (hL0 : LX M) (h : ∀ M', LX M' → mC M' ≤ mC M + 1 → mS M' ≤ mS M + 6 → Wf l (n, xs) uL 20 false (1000, 10000) 1885 [(0, .ref 4999), (1, .ref 1), (2, .ref 150), (3, .ref 167), (4, .int (nI i))] [] M' kr) : Wf l (n, xs) uL 20 false (1000, 10000) 1229 [(0, .ref 4999), (1, .ref 1), (2, .ref 150), (3, .ref 167), (4, .int (nI i))] [] M kr := by
  have c00 : mC M ≤ mC M + 1 := Nat.le_succ _
  have s00 : mS M ≤ mS M + 6 := Nat.le_add_right _ _
  refine Wf.sAl (tkL_33 (d := 19)) rfl rfl rfl ?_
  refine Wf.sCv (as := []) (rest := []) (tkL_33 (d := 19)) rfl rfl (kk_ok hL0.iv rfl) rfl ?_
  refine p6_surely 7 hL0.li (fun x4 M1 hl9 e3 k5 => ?_)
  have hq8 := LX_k hL0 hl9 e3 k5 (by decide +kernel)
  have c6 : mC M1 ≤ mC M + 1 := by rw [mC_1 e3]; exact c00
  have s7 : mS M1 ≤ mS M + 6 := by rw [mS_1 e3]; exact s00
  show Wf l (n, xs) uL 20 false (1000, 10000) 1233 [(0, .ref 4999), (1, .ref 1), (2, .ref 150), (3, .ref 167), (4, .int (nI i))] [.int x4] M1 kr
  refine Wf.sPop (tkL_33 (d := 19)) rfl rfl ?_
  refine Wf.sAl (tkL_33 (d := 19)) rfl rfl rfl ?_
  refine Wf.sCv (as := []) (rest := []) (tkL_33 (d := 19)) rfl rfl (kk_ok hq8.iv rfl) rfl ?_
  refine p7_surely 7 hq8.li (fun x13 M10 hl18 e12 k14 => ?_)
  have hq17 := LX_k hq8 hl18 e12 k14 (by decide +kernel)
  have c15 : mC M10 ≤ mC M + 1 := by rw [mC_1 e12]; exact c6
  have s16 : mS M10 ≤ mS M + 6 := by rw [mS_1 e12]; exact s7
  show Wf l (n, xs) uL 20 false (1000, 10000) 1238 [(0, .ref 4999), (1, .ref 1), (2, .ref 150), (3, .ref 167), (4, .int (nI i))] [.int x13] M10 kr
  refine Wf.sPop (tkL_33 (d := 19)) rfl rfl ?_
  refine Wf.sGo (tkL_33 (d := 19)) rfl ?_
  show Wf l (n, xs) uL 20 false (1000, 10000) 1885 [(0, .ref 4999), (1, .ref 1), (2, .ref 150), (3, .ref 167), (4, .int (nI i))] [] M10 kr
  exact h M10 hq17 c15 s16
set_option maxRecDepth 20000 in
theorem lawc_34 (hi : i + 6 ≤ n) (hn : n ≤ 3072) (hL0 : LX M) (h : ∀ M', LX M' → mC M' ≤ mC M + 1 → mS M' ≤ mS M + 6 → Wf l (n, xs) uL 20 false (1000, 10000) 1885 [(0, .ref 4999), (1, .ref 1), (2, .ref 150), (3, .ref 167), (4, .int (nI i))] [] M' kr) : Wf l (n, xs) uL 20 false (1000, 10000) 1242 [(0, .ref 4999), (1, .ref 1), (2, .ref 150), (3, .ref 167), (4, .int (nI i))] [] M kr := by
  have c00 : mC M ≤ mC M + 1 := Nat.le_succ _
  have s00 : mS M ≤ mS M + 6 := Nat.le_add_right _ _
  refine Wf.sAl (tkL_34 (d := 19)) rfl rfl rfl ?_
  refine Wf.sCv (as := []) (rest := []) (tkL_34 (d := 19)) rfl rfl (kk_ok hL0.iv rfl) rfl ?_
  refine p6_ask 7 hL0.li (fun x4 M1 hl9 e3 k5 => ?_)
  have hq8 := LX_k hL0 hl9 e3 k5 (by decide +kernel)
  have c6 : mC M1 ≤ mC M + 1 := by rw [mC_1 e3]; exact c00
  have s7 : mS M1 ≤ mS M + 6 := by rw [mS_1 e3]; exact s00
  show Wf l (n, xs) uL 20 false (1000, 10000) 1246 [(0, .ref 4999), (1, .ref 1), (2, .ref 150), (3, .ref 167), (4, .int (nI i))] [.int x4] M1 kr
  refine Wf.sPop (tkL_34 (d := 19)) rfl rfl ?_
  refine Wf.sAl (tkL_34 (d := 19)) rfl rfl rfl ?_
  refine Wf.sCv (as := []) (rest := []) (tkL_34 (d := 19)) rfl rfl (kk_ok hq8.iv rfl) rfl ?_
  refine p7_ask 7 hq8.li (fun x13 M10 hl18 e12 k14 => ?_)
  have hq17 := LX_k hq8 hl18 e12 k14 (by decide +kernel)
  have c15 : mC M10 ≤ mC M + 1 := by rw [mC_1 e12]; exact c6
  have s16 : mS M10 ≤ mS M + 6 := by rw [mS_1 e12]; exact s7
  show Wf l (n, xs) uL 20 false (1000, 10000) 1251 [(0, .ref 4999), (1, .ref 1), (2, .ref 150), (3, .ref 167), (4, .int (nI i))] [.int x13] M10 kr
  refine Wf.sPop (tkL_34 (d := 19)) rfl rfl ?_
  refine Wf.sGo (tkL_34 (d := 19)) rfl ?_
  show Wf l (n, xs) uL 20 false (1000, 10000) 1885 [(0, .ref 4999), (1, .ref 1), (2, .ref 150), (3, .ref 167), (4, .int (nI i))] [] M10 kr
  exact h M10 hq17 c15 s16
set_option maxRecDepth 20000 in
theorem lawc_35 (hi : i + 6 ≤ n) (hn : n ≤ 3072) (hL0 : LX M) (h : ∀ M', LX M' → mC M' ≤ mC M + 1 → mS M' ≤ mS M + 6 → Wf l (n, xs) uL 20 false (1000, 10000) 1885 [(0, .ref 4999), (1, .ref 1), (2, .ref 150), (3, .ref 167), (4, .int (nI i))] [] M' kr) : Wf l (n, xs) uL 20 false (1000, 10000) 1255 [(0, .ref 4999), (1, .ref 1), (2, .ref 150), (3, .ref 167), (4, .int (nI i))] [] M kr := by
  have c00 : mC M ≤ mC M + 1 := Nat.le_succ _
  have s00 : mS M ≤ mS M + 6 := Nat.le_add_right _ _
  refine Wf.sAl (tkL_35 (d := 19)) rfl rfl rfl ?_
  refine Wf.sCv (as := []) (rest := []) (tkL_35 (d := 19)) rfl rfl (kk_ok hL0.iv rfl) rfl ?_
  refine p6_askLeaves 7 hL0.li (fun x4 M1 hl9 e3 k5 => ?_)
  have hq8 := LX_k hL0 hl9 e3 k5 (by decide +kernel)
  have c6 : mC M1 ≤ mC M + 1 := by rw [mC_1 e3]; exact c00
  have s7 : mS M1 ≤ mS M + 6 := by rw [mS_1 e3]; exact s00
  show Wf l (n, xs) uL 20 false (1000, 10000) 1259 [(0, .ref 4999), (1, .ref 1), (2, .ref 150), (3, .ref 167), (4, .int (nI i))] [.int x4] M1 kr
  refine Wf.sPop (tkL_35 (d := 19)) rfl rfl ?_
  refine Wf.sAl (tkL_35 (d := 19)) rfl rfl rfl ?_
  refine Wf.sCv (as := []) (rest := []) (tkL_35 (d := 19)) rfl rfl (kk_ok hq8.iv rfl) rfl ?_
  refine p7_askLeaves 7 hq8.li (fun x13 M10 hl18 e12 k14 => ?_)
  have hq17 := LX_k hq8 hl18 e12 k14 (by decide +kernel)
  have c15 : mC M10 ≤ mC M + 1 := by rw [mC_1 e12]; exact c6
  have s16 : mS M10 ≤ mS M + 6 := by rw [mS_1 e12]; exact s7
  show Wf l (n, xs) uL 20 false (1000, 10000) 1264 [(0, .ref 4999), (1, .ref 1), (2, .ref 150), (3, .ref 167), (4, .int (nI i))] [.int x13] M10 kr
  refine Wf.sPop (tkL_35 (d := 19)) rfl rfl ?_
  refine Wf.sGo (tkL_35 (d := 19)) rfl ?_
  show Wf l (n, xs) uL 20 false (1000, 10000) 1885 [(0, .ref 4999), (1, .ref 1), (2, .ref 150), (3, .ref 167), (4, .int (nI i))] [] M10 kr
  exact h M10 hq17 c15 s16
set_option maxRecDepth 20000 in
theorem lawc_36 (hi : i + 6 ≤ n) (hn : n ≤ 3072) (hL0 : LX M) (h : ∀ M', LX M' → mC M' ≤ mC M + 1 → mS M' ≤ mS M + 6 → Wf l (n, xs) uL 20 false (1000, 10000) 1885 [(0, .ref 4999), (1, .ref 1), (2, .ref 150), (3, .ref 167), (4, .int (nI i))] [] M' kr) : Wf l (n, xs) uL 20 false (1000, 10000) 1268 [(0, .ref 4999), (1, .ref 1), (2, .ref 150), (3, .ref 167), (4, .int (nI i))] [] M kr := by
  have c00 : mC M ≤ mC M + 1 := Nat.le_succ _
  have s00 : mS M ≤ mS M + 6 := Nat.le_add_right _ _
  refine Wf.sAl (tkL_36 (d := 19)) rfl rfl rfl ?_
  refine Wf.sCv (as := []) (rest := []) (tkL_36 (d := 19)) rfl rfl (kk_ok hL0.iv rfl) rfl ?_
  refine p6_judge 7 hL0.li (fun x4 M1 hl9 e3 k5 => ?_)
  have hq8 := LX_k hL0 hl9 e3 k5 (by decide +kernel)
  have c6 : mC M1 ≤ mC M + 1 := by rw [mC_1 e3]; exact c00
  have s7 : mS M1 ≤ mS M + 6 := by rw [mS_1 e3]; exact s00
  show Wf l (n, xs) uL 20 false (1000, 10000) 1272 [(0, .ref 4999), (1, .ref 1), (2, .ref 150), (3, .ref 167), (4, .int (nI i))] [.int x4] M1 kr
  refine Wf.sPop (tkL_36 (d := 19)) rfl rfl ?_
  refine Wf.sAl (tkL_36 (d := 19)) rfl rfl rfl ?_
  refine Wf.sCv (as := []) (rest := []) (tkL_36 (d := 19)) rfl rfl (kk_ok hq8.iv rfl) rfl ?_
  refine p7_judge 7 hq8.li (fun x13 M10 hl18 e12 k14 => ?_)
  have hq17 := LX_k hq8 hl18 e12 k14 (by decide +kernel)
  have c15 : mC M10 ≤ mC M + 1 := by rw [mC_1 e12]; exact c6
  have s16 : mS M10 ≤ mS M + 6 := by rw [mS_1 e12]; exact s7
  show Wf l (n, xs) uL 20 false (1000, 10000) 1277 [(0, .ref 4999), (1, .ref 1), (2, .ref 150), (3, .ref 167), (4, .int (nI i))] [.int x13] M10 kr
  refine Wf.sPop (tkL_36 (d := 19)) rfl rfl ?_
  refine Wf.sGo (tkL_36 (d := 19)) rfl ?_
  show Wf l (n, xs) uL 20 false (1000, 10000) 1885 [(0, .ref 4999), (1, .ref 1), (2, .ref 150), (3, .ref 167), (4, .int (nI i))] [] M10 kr
  exact h M10 hq17 c15 s16
set_option maxRecDepth 20000 in
theorem lawc_37 (hi : i + 6 ≤ n) (hn : n ≤ 3072) (hL0 : LX M) (h : ∀ M', LX M' → mC M' ≤ mC M + 1 → mS M' ≤ mS M + 6 → Wf l (n, xs) uL 20 false (1000, 10000) 1885 [(0, .ref 4999), (1, .ref 1), (2, .ref 150), (3, .ref 167), (4, .int (nI i))] [] M' kr) : Wf l (n, xs) uL 20 false (1000, 10000) 1281 [(0, .ref 4999), (1, .ref 1), (2, .ref 150), (3, .ref 167), (4, .int (nI i))] [] M kr := by
  have c00 : mC M ≤ mC M + 1 := Nat.le_succ _
  have s00 : mS M ≤ mS M + 6 := Nat.le_add_right _ _
  refine Wf.sAl (tkL_37 (d := 19)) rfl rfl rfl ?_
  refine Wf.sAl (tkL_37 (d := 19)) rfl rfl rfl ?_
  refine Wf.sIl (tkL_37 (d := 19)) rfl rfl ?_
  refine Wf.sIc (tkL_37 (d := 19)) rfl ?_
  refine Wf.s2 (tkL_37 (d := 19)) rfl ?_
  refine Wf.sScd (tkL_37 (d := 19)) rfl (vi1 hi hn) ?_
  show Wf l (n, xs) uL 20 false (1000, 10000) 1288 [(0, .ref 4999), (1, .ref 1), (2, .ref 150), (3, .ref 167), (4, .int (nI i))] [.int (xs (nI i + 1 : Int32).toNatClampNeg), .ref 1] M kr
  refine Wf.sAl (tkL_37 (d := 19)) rfl rfl rfl ?_
  refine Wf.sIl (tkL_37 (d := 19)) rfl rfl ?_
  refine Wf.sIc (tkL_37 (d := 19)) rfl ?_
  refine Wf.s2 (tkL_37 (d := 19)) rfl ?_
  refine Wf.sScd (tkL_37 (d := 19)) rfl (vi2 hi hn) ?_
  show Wf l (n, xs) uL 20 false (1000, 10000) 1294 [(0, .ref 4999), (1, .ref 1), (2, .ref 150), (3, .ref 167), (4, .int (nI i))] [.int (xs (nI i + 2 : Int32).toNatClampNeg), .int (xs (nI i + 1 : Int32).toNatClampNeg), .ref 1] M kr
  have jn1 : Wf l (n, xs) uL 20 false (1000, 10000) 1302 [(0, .ref 4999), (1, .ref 1), (2, .ref 150), (3, .ref 167), (4, .int (nI i))] [.int (bz (xs (nI i + 2 : Int32).toNatClampNeg)), .int (xs (nI i + 1 : Int32).toNatClampNeg), .ref 1] M kr := by
    refine Wf.sAl (tkL_37 (d := 19)) rfl rfl rfl ?_
    refine Wf.sIl (tkL_37 (d := 19)) rfl rfl ?_
    refine Wf.sIc (tkL_37 (d := 19)) rfl ?_
    refine Wf.s2 (tkL_37 (d := 19)) rfl ?_
    refine Wf.sScd (tkL_37 (d := 19)) rfl (vi3 hi hn) ?_
    show Wf l (n, xs) uL 20 false (1000, 10000) 1308 [(0, .ref 4999), (1, .ref 1), (2, .ref 150), (3, .ref 167), (4, .int (nI i))] [.int (xs (nI i + 3 : Int32).toNatClampNeg), .int (bz (xs (nI i + 2 : Int32).toNatClampNeg)), .int (xs (nI i + 1 : Int32).toNatClampNeg), .ref 1] M kr
    have jn2 : Wf l (n, xs) uL 20 false (1000, 10000) 1316 [(0, .ref 4999), (1, .ref 1), (2, .ref 150), (3, .ref 167), (4, .int (nI i))] [.int (bz (xs (nI i + 3 : Int32).toNatClampNeg)), .int (bz (xs (nI i + 2 : Int32).toNatClampNeg)), .int (xs (nI i + 1 : Int32).toNatClampNeg), .ref 1] M kr := by
      refine Wf.sAl (tkL_37 (d := 19)) rfl rfl rfl ?_
      refine Wf.sIl (tkL_37 (d := 19)) rfl rfl ?_
      refine Wf.sIc (tkL_37 (d := 19)) rfl ?_
      refine Wf.s2 (tkL_37 (d := 19)) rfl ?_
      refine Wf.sScd (tkL_37 (d := 19)) rfl (vi4 hi hn) ?_
      show Wf l (n, xs) uL 20 false (1000, 10000) 1322 [(0, .ref 4999), (1, .ref 1), (2, .ref 150), (3, .ref 167), (4, .int (nI i))] [.int (xs (nI i + 4 : Int32).toNatClampNeg), .int (bz (xs (nI i + 3 : Int32).toNatClampNeg)), .int (bz (xs (nI i + 2 : Int32).toNatClampNeg)), .int (xs (nI i + 1 : Int32).toNatClampNeg), .ref 1] M kr
      have jn3 : Wf l (n, xs) uL 20 false (1000, 10000) 1330 [(0, .ref 4999), (1, .ref 1), (2, .ref 150), (3, .ref 167), (4, .int (nI i))] [.int (bz (xs (nI i + 4 : Int32).toNatClampNeg)), .int (bz (xs (nI i + 3 : Int32).toNatClampNeg)), .int (bz (xs (nI i + 2 : Int32).toNatClampNeg)), .int (xs (nI i + 1 : Int32).toNatClampNeg), .ref 1] M kr := by
        refine Wf.sCv (as := [.int (xs (nI i + 1 : Int32).toNatClampNeg), .int (bz (xs (nI i + 2 : Int32).toNatClampNeg)), .int (bz (xs (nI i + 3 : Int32).toNatClampNeg)), .int (bz (xs (nI i + 4 : Int32).toNatClampNeg))]) (rest := []) (tkL_37 (d := 19)) rfl rfl (kk_ok hL0.iv rfl) rfl ?_
        refine p6_sulks 7 hL0.li (fun x7 M4 hl12 e6 k8 => ?_)
        have hq11 := LX_k hL0 hl12 e6 k8 (by decide +kernel)
        have c9 : mC M4 ≤ mC M + 1 := by rw [mC_1 e6]; exact c00
        have s10 : mS M4 ≤ mS M + 6 := by rw [mS_1 e6]; exact s00
        show Wf l (n, xs) uL 20 false (1000, 10000) 1333 [(0, .ref 4999), (1, .ref 1), (2, .ref 150), (3, .ref 167), (4, .int (nI i))] [.int x7] M4 kr
        refine Wf.sPop (tkL_37 (d := 19)) rfl rfl ?_
        refine Wf.sAl (tkL_37 (d := 19)) rfl rfl rfl ?_
        refine Wf.sAl (tkL_37 (d := 19)) rfl rfl rfl ?_
        refine Wf.sIl (tkL_37 (d := 19)) rfl rfl ?_
        refine Wf.sIc (tkL_37 (d := 19)) rfl ?_
        refine Wf.s2 (tkL_37 (d := 19)) rfl ?_
        refine Wf.sScd (tkL_37 (d := 19)) rfl (vi1 hi hn) ?_
        show Wf l (n, xs) uL 20 false (1000, 10000) 1341 [(0, .ref 4999), (1, .ref 1), (2, .ref 150), (3, .ref 167), (4, .int (nI i))] [.int (xs (nI i + 1 : Int32).toNatClampNeg), .ref 150] M4 kr
        refine Wf.sAl (tkL_37 (d := 19)) rfl rfl rfl ?_
        refine Wf.sIl (tkL_37 (d := 19)) rfl rfl ?_
        refine Wf.sIc (tkL_37 (d := 19)) rfl ?_
        refine Wf.s2 (tkL_37 (d := 19)) rfl ?_
        refine Wf.sScd (tkL_37 (d := 19)) rfl (vi2 hi hn) ?_
        show Wf l (n, xs) uL 20 false (1000, 10000) 1347 [(0, .ref 4999), (1, .ref 1), (2, .ref 150), (3, .ref 167), (4, .int (nI i))] [.int (xs (nI i + 2 : Int32).toNatClampNeg), .int (xs (nI i + 1 : Int32).toNatClampNeg), .ref 150] M4 kr
        have jn13 : Wf l (n, xs) uL 20 false (1000, 10000) 1355 [(0, .ref 4999), (1, .ref 1), (2, .ref 150), (3, .ref 167), (4, .int (nI i))] [.int (bz (xs (nI i + 2 : Int32).toNatClampNeg)), .int (xs (nI i + 1 : Int32).toNatClampNeg), .ref 150] M4 kr := by
          refine Wf.sAl (tkL_37 (d := 19)) rfl rfl rfl ?_
          refine Wf.sIl (tkL_37 (d := 19)) rfl rfl ?_
          refine Wf.sIc (tkL_37 (d := 19)) rfl ?_
          refine Wf.s2 (tkL_37 (d := 19)) rfl ?_
          refine Wf.sScd (tkL_37 (d := 19)) rfl (vi3 hi hn) ?_
          show Wf l (n, xs) uL 20 false (1000, 10000) 1361 [(0, .ref 4999), (1, .ref 1), (2, .ref 150), (3, .ref 167), (4, .int (nI i))] [.int (xs (nI i + 3 : Int32).toNatClampNeg), .int (bz (xs (nI i + 2 : Int32).toNatClampNeg)), .int (xs (nI i + 1 : Int32).toNatClampNeg), .ref 150] M4 kr
          have jn14 : Wf l (n, xs) uL 20 false (1000, 10000) 1369 [(0, .ref 4999), (1, .ref 1), (2, .ref 150), (3, .ref 167), (4, .int (nI i))] [.int (bz (xs (nI i + 3 : Int32).toNatClampNeg)), .int (bz (xs (nI i + 2 : Int32).toNatClampNeg)), .int (xs (nI i + 1 : Int32).toNatClampNeg), .ref 150] M4 kr := by
            refine Wf.sAl (tkL_37 (d := 19)) rfl rfl rfl ?_
            refine Wf.sIl (tkL_37 (d := 19)) rfl rfl ?_
            refine Wf.sIc (tkL_37 (d := 19)) rfl ?_
            refine Wf.s2 (tkL_37 (d := 19)) rfl ?_
            refine Wf.sScd (tkL_37 (d := 19)) rfl (vi4 hi hn) ?_
            show Wf l (n, xs) uL 20 false (1000, 10000) 1375 [(0, .ref 4999), (1, .ref 1), (2, .ref 150), (3, .ref 167), (4, .int (nI i))] [.int (xs (nI i + 4 : Int32).toNatClampNeg), .int (bz (xs (nI i + 3 : Int32).toNatClampNeg)), .int (bz (xs (nI i + 2 : Int32).toNatClampNeg)), .int (xs (nI i + 1 : Int32).toNatClampNeg), .ref 150] M4 kr
            have jn15 : Wf l (n, xs) uL 20 false (1000, 10000) 1383 [(0, .ref 4999), (1, .ref 1), (2, .ref 150), (3, .ref 167), (4, .int (nI i))] [.int (bz (xs (nI i + 4 : Int32).toNatClampNeg)), .int (bz (xs (nI i + 3 : Int32).toNatClampNeg)), .int (bz (xs (nI i + 2 : Int32).toNatClampNeg)), .int (xs (nI i + 1 : Int32).toNatClampNeg), .ref 150] M4 kr := by
              refine Wf.sCv (as := [.int (xs (nI i + 1 : Int32).toNatClampNeg), .int (bz (xs (nI i + 2 : Int32).toNatClampNeg)), .int (bz (xs (nI i + 3 : Int32).toNatClampNeg)), .int (bz (xs (nI i + 4 : Int32).toNatClampNeg))]) (rest := []) (tkL_37 (d := 19)) rfl rfl (kk_ok hq11.iv rfl) rfl ?_
              refine p7_sulks 7 hq11.li (fun x19 M16 hl24 e18 k20 => ?_)
              have hq23 := LX_k hq11 hl24 e18 k20 (by decide +kernel)
              have c21 : mC M16 ≤ mC M + 1 := by rw [mC_1 e18]; exact c9
              have s22 : mS M16 ≤ mS M + 6 := by rw [mS_1 e18]; exact s10
              show Wf l (n, xs) uL 20 false (1000, 10000) 1386 [(0, .ref 4999), (1, .ref 1), (2, .ref 150), (3, .ref 167), (4, .int (nI i))] [.int x19] M16 kr
              refine Wf.sPop (tkL_37 (d := 19)) rfl rfl ?_
              refine Wf.sGo (tkL_37 (d := 19)) rfl ?_
              show Wf l (n, xs) uL 20 false (1000, 10000) 1885 [(0, .ref 4999), (1, .ref 1), (2, .ref 150), (3, .ref 167), (4, .int (nI i))] [] M16 kr
              exact h M16 hq23 c21 s22
            refine Wf.sIf (tkL_37 (d := 19)) rfl (fun z => ?_) (fun z => ?_)
            · have z : (xs (nI i + 4 : Int32).toNatClampNeg) = 0 := z
              refine Wf.sIc (tkL_37 (d := 19)) rfl ?_
              rw [bz_0 z] at jn15
              exact jn15
            · have z : ¬ (xs (nI i + 4 : Int32).toNatClampNeg) = 0 := z
              refine Wf.sIc (tkL_37 (d := 19)) rfl ?_
              refine Wf.sGo (tkL_37 (d := 19)) rfl ?_
              rw [bz_1 z] at jn15
              exact jn15
          refine Wf.sIf (tkL_37 (d := 19)) rfl (fun z => ?_) (fun z => ?_)
          · have z : (xs (nI i + 3 : Int32).toNatClampNeg) = 0 := z
            refine Wf.sIc (tkL_37 (d := 19)) rfl ?_
            rw [bz_0 z] at jn14
            exact jn14
          · have z : ¬ (xs (nI i + 3 : Int32).toNatClampNeg) = 0 := z
            refine Wf.sIc (tkL_37 (d := 19)) rfl ?_
            refine Wf.sGo (tkL_37 (d := 19)) rfl ?_
            rw [bz_1 z] at jn14
            exact jn14
        refine Wf.sIf (tkL_37 (d := 19)) rfl (fun z => ?_) (fun z => ?_)
        · have z : (xs (nI i + 2 : Int32).toNatClampNeg) = 0 := z
          refine Wf.sIc (tkL_37 (d := 19)) rfl ?_
          rw [bz_0 z] at jn13
          exact jn13
        · have z : ¬ (xs (nI i + 2 : Int32).toNatClampNeg) = 0 := z
          refine Wf.sIc (tkL_37 (d := 19)) rfl ?_
          refine Wf.sGo (tkL_37 (d := 19)) rfl ?_
          rw [bz_1 z] at jn13
          exact jn13
      refine Wf.sIf (tkL_37 (d := 19)) rfl (fun z => ?_) (fun z => ?_)
      · have z : (xs (nI i + 4 : Int32).toNatClampNeg) = 0 := z
        refine Wf.sIc (tkL_37 (d := 19)) rfl ?_
        rw [bz_0 z] at jn3
        exact jn3
      · have z : ¬ (xs (nI i + 4 : Int32).toNatClampNeg) = 0 := z
        refine Wf.sIc (tkL_37 (d := 19)) rfl ?_
        refine Wf.sGo (tkL_37 (d := 19)) rfl ?_
        rw [bz_1 z] at jn3
        exact jn3
    refine Wf.sIf (tkL_37 (d := 19)) rfl (fun z => ?_) (fun z => ?_)
    · have z : (xs (nI i + 3 : Int32).toNatClampNeg) = 0 := z
      refine Wf.sIc (tkL_37 (d := 19)) rfl ?_
      rw [bz_0 z] at jn2
      exact jn2
    · have z : ¬ (xs (nI i + 3 : Int32).toNatClampNeg) = 0 := z
      refine Wf.sIc (tkL_37 (d := 19)) rfl ?_
      refine Wf.sGo (tkL_37 (d := 19)) rfl ?_
      rw [bz_1 z] at jn2
      exact jn2
  refine Wf.sIf (tkL_37 (d := 19)) rfl (fun z => ?_) (fun z => ?_)
  · have z : (xs (nI i + 2 : Int32).toNatClampNeg) = 0 := z
    refine Wf.sIc (tkL_37 (d := 19)) rfl ?_
    rw [bz_0 z] at jn1
    exact jn1
  · have z : ¬ (xs (nI i + 2 : Int32).toNatClampNeg) = 0 := z
    refine Wf.sIc (tkL_37 (d := 19)) rfl ?_
    refine Wf.sGo (tkL_37 (d := 19)) rfl ?_
    rw [bz_1 z] at jn1
    exact jn1
set_option maxRecDepth 20000 in
theorem lawc_38 (hi : i + 6 ≤ n) (hn : n ≤ 3072) (hL0 : LX M) (h : ∀ M', LX M' → mC M' ≤ mC M + 1 → mS M' ≤ mS M + 6 → Wf l (n, xs) uL 20 false (1000, 10000) 1885 [(0, .ref 4999), (1, .ref 1), (2, .ref 150), (3, .ref 167), (4, .int (nI i))] [] M' kr) : Wf l (n, xs) uL 20 false (1000, 10000) 1390 [(0, .ref 4999), (1, .ref 1), (2, .ref 150), (3, .ref 167), (4, .int (nI i))] [] M kr := by
  have c00 : mC M ≤ mC M + 1 := Nat.le_succ _
  have s00 : mS M ≤ mS M + 6 := Nat.le_add_right _ _
  refine Wf.sAl (tkL_38 (d := 19)) rfl rfl rfl ?_
  refine Wf.sAl (tkL_38 (d := 19)) rfl rfl rfl ?_
  refine Wf.sIl (tkL_38 (d := 19)) rfl rfl ?_
  refine Wf.sIc (tkL_38 (d := 19)) rfl ?_
  refine Wf.s2 (tkL_38 (d := 19)) rfl ?_
  refine Wf.sScd (tkL_38 (d := 19)) rfl (vi1 hi hn) ?_
  show Wf l (n, xs) uL 20 false (1000, 10000) 1397 [(0, .ref 4999), (1, .ref 1), (2, .ref 150), (3, .ref 167), (4, .int (nI i))] [.int (xs (nI i + 1 : Int32).toNatClampNeg), .ref 1] M kr
  refine Wf.sCv (as := [.int (xs (nI i + 1 : Int32).toNatClampNeg)]) (rest := []) (tkL_38 (d := 19)) rfl rfl (kk_ok hL0.iv rfl) rfl ?_
  refine p6_rests 7 hL0.li (fun x4 M1 hl9 e3 k5 => ?_)
  have hq8 := LX_k hL0 hl9 e3 k5 (by decide +kernel)
  have c6 : mC M1 ≤ mC M + 1 := by rw [mC_1 e3]; exact c00
  have s7 : mS M1 ≤ mS M + 6 := by rw [mS_1 e3]; exact s00
  show Wf l (n, xs) uL 20 false (1000, 10000) 1400 [(0, .ref 4999), (1, .ref 1), (2, .ref 150), (3, .ref 167), (4, .int (nI i))] [.int x4] M1 kr
  refine Wf.sPop (tkL_38 (d := 19)) rfl rfl ?_
  refine Wf.sAl (tkL_38 (d := 19)) rfl rfl rfl ?_
  refine Wf.sAl (tkL_38 (d := 19)) rfl rfl rfl ?_
  refine Wf.sIl (tkL_38 (d := 19)) rfl rfl ?_
  refine Wf.sIc (tkL_38 (d := 19)) rfl ?_
  refine Wf.s2 (tkL_38 (d := 19)) rfl ?_
  refine Wf.sScd (tkL_38 (d := 19)) rfl (vi1 hi hn) ?_
  show Wf l (n, xs) uL 20 false (1000, 10000) 1408 [(0, .ref 4999), (1, .ref 1), (2, .ref 150), (3, .ref 167), (4, .int (nI i))] [.int (xs (nI i + 1 : Int32).toNatClampNeg), .ref 150] M1 kr
  refine Wf.sCv (as := [.int (xs (nI i + 1 : Int32).toNatClampNeg)]) (rest := []) (tkL_38 (d := 19)) rfl rfl (kk_ok hq8.iv rfl) rfl ?_
  refine p7_rests 7 hq8.li (fun x13 M10 hl18 e12 k14 => ?_)
  have hq17 := LX_k hq8 hl18 e12 k14 (by decide +kernel)
  have c15 : mC M10 ≤ mC M + 1 := by rw [mC_1 e12]; exact c6
  have s16 : mS M10 ≤ mS M + 6 := by rw [mS_1 e12]; exact s7
  show Wf l (n, xs) uL 20 false (1000, 10000) 1411 [(0, .ref 4999), (1, .ref 1), (2, .ref 150), (3, .ref 167), (4, .int (nI i))] [.int x13] M10 kr
  refine Wf.sPop (tkL_38 (d := 19)) rfl rfl ?_
  refine Wf.sGo (tkL_38 (d := 19)) rfl ?_
  show Wf l (n, xs) uL 20 false (1000, 10000) 1885 [(0, .ref 4999), (1, .ref 1), (2, .ref 150), (3, .ref 167), (4, .int (nI i))] [] M10 kr
  exact h M10 hq17 c15 s16
set_option maxRecDepth 20000 in
theorem lawc_39 (hi : i + 6 ≤ n) (hn : n ≤ 3072) (hL0 : LX M) (h : ∀ M', LX M' → mC M' ≤ mC M + 1 → mS M' ≤ mS M + 6 → Wf l (n, xs) uL 20 false (1000, 10000) 1885 [(0, .ref 4999), (1, .ref 1), (2, .ref 150), (3, .ref 167), (4, .int (nI i))] [] M' kr) : Wf l (n, xs) uL 20 false (1000, 10000) 1415 [(0, .ref 4999), (1, .ref 1), (2, .ref 150), (3, .ref 167), (4, .int (nI i))] [] M kr := by
  have c00 : mC M ≤ mC M + 1 := Nat.le_succ _
  have s00 : mS M ≤ mS M + 6 := Nat.le_add_right _ _
  refine Wf.sAl (tkL_39 (d := 19)) rfl rfl rfl ?_
  refine Wf.sAl (tkL_39 (d := 19)) rfl rfl rfl ?_
  refine Wf.sIl (tkL_39 (d := 19)) rfl rfl ?_
  refine Wf.sIc (tkL_39 (d := 19)) rfl ?_
  refine Wf.s2 (tkL_39 (d := 19)) rfl ?_
  refine Wf.sScd (tkL_39 (d := 19)) rfl (vi1 hi hn) ?_
  show Wf l (n, xs) uL 20 false (1000, 10000) 1422 [(0, .ref 4999), (1, .ref 1), (2, .ref 150), (3, .ref 167), (4, .int (nI i))] [.int (xs (nI i + 1 : Int32).toNatClampNeg), .ref 1] M kr
  refine Wf.sCv (as := [.int (xs (nI i + 1 : Int32).toNatClampNeg)]) (rest := []) (tkL_39 (d := 19)) rfl rfl (kk_ok hL0.iv rfl) rfl ?_
  refine p6_rest 7 hL0.li (fun x4 M1 hl9 e3 k5 => ?_)
  have hq8 := LX_k hL0 hl9 e3 k5 (by decide +kernel)
  have c6 : mC M1 ≤ mC M + 1 := by rw [mC_1 e3]; exact c00
  have s7 : mS M1 ≤ mS M + 6 := by rw [mS_1 e3]; exact s00
  show Wf l (n, xs) uL 20 false (1000, 10000) 1425 [(0, .ref 4999), (1, .ref 1), (2, .ref 150), (3, .ref 167), (4, .int (nI i))] [.int x4] M1 kr
  refine Wf.sPop (tkL_39 (d := 19)) rfl rfl ?_
  refine Wf.sAl (tkL_39 (d := 19)) rfl rfl rfl ?_
  refine Wf.sAl (tkL_39 (d := 19)) rfl rfl rfl ?_
  refine Wf.sIl (tkL_39 (d := 19)) rfl rfl ?_
  refine Wf.sIc (tkL_39 (d := 19)) rfl ?_
  refine Wf.s2 (tkL_39 (d := 19)) rfl ?_
  refine Wf.sScd (tkL_39 (d := 19)) rfl (vi1 hi hn) ?_
  show Wf l (n, xs) uL 20 false (1000, 10000) 1433 [(0, .ref 4999), (1, .ref 1), (2, .ref 150), (3, .ref 167), (4, .int (nI i))] [.int (xs (nI i + 1 : Int32).toNatClampNeg), .ref 150] M1 kr
  refine Wf.sCv (as := [.int (xs (nI i + 1 : Int32).toNatClampNeg)]) (rest := []) (tkL_39 (d := 19)) rfl rfl (kk_ok hq8.iv rfl) rfl ?_
  refine p7_rest 7 hq8.li (fun x13 M10 hl18 e12 k14 => ?_)
  have hq17 := LX_k hq8 hl18 e12 k14 (by decide +kernel)
  have c15 : mC M10 ≤ mC M + 1 := by rw [mC_1 e12]; exact c6
  have s16 : mS M10 ≤ mS M + 6 := by rw [mS_1 e12]; exact s7
  show Wf l (n, xs) uL 20 false (1000, 10000) 1436 [(0, .ref 4999), (1, .ref 1), (2, .ref 150), (3, .ref 167), (4, .int (nI i))] [.int x13] M10 kr
  refine Wf.sPop (tkL_39 (d := 19)) rfl rfl ?_
  refine Wf.sGo (tkL_39 (d := 19)) rfl ?_
  show Wf l (n, xs) uL 20 false (1000, 10000) 1885 [(0, .ref 4999), (1, .ref 1), (2, .ref 150), (3, .ref 167), (4, .int (nI i))] [] M10 kr
  exact h M10 hq17 c15 s16
end LAWC
