/-! the law's cases over its states -/
section LAWC
variable {l : Launch} {xs : Nat → Int32} {kr : KR} {i n : Nat} {M : Mm}
set_option maxRecDepth 20000 in
theorem lawc_32 (hi : i + 6 ≤ n) (hn : n ≤ 3072) (hL0 : LW M) (h : ∀ M', LW M' → mC M' ≤ mC M + 1 → mS M' ≤ mS M + 6 → Wf l (n, xs) uL 20 false (1000, 10000) 1885 [(0, .ref 4999), (1, .ref 1), (2, .ref 150), (3, .ref 167), (4, .int (nI i))] [] M' kr) : Wf l (n, xs) uL 20 false (1000, 10000) 1216 [(0, .ref 4999), (1, .ref 1), (2, .ref 150), (3, .ref 167), (4, .int (nI i))] [] M kr := by
  have c00 : mC M ≤ mC M + 1 := Nat.le_succ _
  have s00 : mS M ≤ mS M + 6 := Nat.le_add_right _ _
  refine Wf.sAl (tkL_32 (d := 19)) rfl rfl rfl ?_
  refine Wf.sCv (as := []) (rest := []) (tkL_32 (d := 19)) rfl rfl (kk_ok hL0.iv rfl) rfl ?_
  refine p6t_could 7 hL0.li (fun x4 M1 hl9 e3 k5 n10 => ?_)
  have hq8 := LV_k hL0.q hl9 e3 k5 (by decide +kernel) n10
  have c6 : mC M1 ≤ mC M + 1 := by rw [mC_1 e3]; exact c00
  have s7 : mS M1 ≤ mS M + 6 := by rw [mS_1 e3]; exact s00
  show Wf l (n, xs) uL 20 false (1000, 10000) 1220 [(0, .ref 4999), (1, .ref 1), (2, .ref 150), (3, .ref 167), (4, .int (nI i))] [.int x4] M1 kr
  refine Wf.sPop (tkL_32 (d := 19)) rfl rfl ?_
  refine Wf.sAl (tkL_32 (d := 19)) rfl rfl rfl ?_
  refine Wf.sCv (as := []) (rest := []) (tkL_32 (d := 19)) rfl rfl (kk_ok hq8.iv rfl) rfl ?_
  refine p7t_could 7 hq8.li (fun x14 M11 hl19 e13 k15 n20 => ?_)
  have hq18 := LW_v hq8 hl19 e13 k15 (by decide +kernel) n20
  have c16 : mC M11 ≤ mC M + 1 := by rw [mC_1 e13]; exact c6
  have s17 : mS M11 ≤ mS M + 6 := by rw [mS_1 e13]; exact s7
  show Wf l (n, xs) uL 20 false (1000, 10000) 1225 [(0, .ref 4999), (1, .ref 1), (2, .ref 150), (3, .ref 167), (4, .int (nI i))] [.int x14] M11 kr
  refine Wf.sPop (tkL_32 (d := 19)) rfl rfl ?_
  refine Wf.sGo (tkL_32 (d := 19)) rfl ?_
  show Wf l (n, xs) uL 20 false (1000, 10000) 1885 [(0, .ref 4999), (1, .ref 1), (2, .ref 150), (3, .ref 167), (4, .int (nI i))] [] M11 kr
  exact h M11 hq18 c16 s17
set_option maxRecDepth 20000 in
theorem lawc_33 (hi : i + 6 ≤ n) (hn : n ≤ 3072) (hL0 : LW M) (h : ∀ M', LW M' → mC M' ≤ mC M + 1 → mS M' ≤ mS M + 6 → Wf l (n, xs) uL 20 false (1000, 10000) 1885 [(0, .ref 4999), (1, .ref 1), (2, .ref 150), (3, .ref 167), (4, .int (nI i))] [] M' kr) : Wf l (n, xs) uL 20 false (1000, 10000) 1229 [(0, .ref 4999), (1, .ref 1), (2, .ref 150), (3, .ref 167), (4, .int (nI i))] [] M kr := by
  have c00 : mC M ≤ mC M + 1 := Nat.le_succ _
  have s00 : mS M ≤ mS M + 6 := Nat.le_add_right _ _
  refine Wf.sAl (tkL_33 (d := 19)) rfl rfl rfl ?_
  refine Wf.sCv (as := []) (rest := []) (tkL_33 (d := 19)) rfl rfl (kk_ok hL0.iv rfl) rfl ?_
  refine p6t_surely 7 hL0.li (fun x4 M1 hl9 e3 k5 n10 => ?_)
  have hq8 := LV_k hL0.q hl9 e3 k5 (by decide +kernel) n10
  have c6 : mC M1 ≤ mC M + 1 := by rw [mC_1 e3]; exact c00
  have s7 : mS M1 ≤ mS M + 6 := by rw [mS_1 e3]; exact s00
  show Wf l (n, xs) uL 20 false (1000, 10000) 1233 [(0, .ref 4999), (1, .ref 1), (2, .ref 150), (3, .ref 167), (4, .int (nI i))] [.int x4] M1 kr
  refine Wf.sPop (tkL_33 (d := 19)) rfl rfl ?_
  refine Wf.sAl (tkL_33 (d := 19)) rfl rfl rfl ?_
  refine Wf.sCv (as := []) (rest := []) (tkL_33 (d := 19)) rfl rfl (kk_ok hq8.iv rfl) rfl ?_
  refine p7t_surely 7 hq8.li (fun x14 M11 hl19 e13 k15 n20 => ?_)
  have hq18 := LW_v hq8 hl19 e13 k15 (by decide +kernel) n20
  have c16 : mC M11 ≤ mC M + 1 := by rw [mC_1 e13]; exact c6
  have s17 : mS M11 ≤ mS M + 6 := by rw [mS_1 e13]; exact s7
  show Wf l (n, xs) uL 20 false (1000, 10000) 1238 [(0, .ref 4999), (1, .ref 1), (2, .ref 150), (3, .ref 167), (4, .int (nI i))] [.int x14] M11 kr
  refine Wf.sPop (tkL_33 (d := 19)) rfl rfl ?_
  refine Wf.sGo (tkL_33 (d := 19)) rfl ?_
  show Wf l (n, xs) uL 20 false (1000, 10000) 1885 [(0, .ref 4999), (1, .ref 1), (2, .ref 150), (3, .ref 167), (4, .int (nI i))] [] M11 kr
  exact h M11 hq18 c16 s17
set_option maxRecDepth 20000 in
theorem lawc_34 (hi : i + 6 ≤ n) (hn : n ≤ 3072) (hL0 : LW M) (h : ∀ M', LW M' → mC M' ≤ mC M + 1 → mS M' ≤ mS M + 6 → Wf l (n, xs) uL 20 false (1000, 10000) 1885 [(0, .ref 4999), (1, .ref 1), (2, .ref 150), (3, .ref 167), (4, .int (nI i))] [] M' kr) : Wf l (n, xs) uL 20 false (1000, 10000) 1242 [(0, .ref 4999), (1, .ref 1), (2, .ref 150), (3, .ref 167), (4, .int (nI i))] [] M kr := by
  have c00 : mC M ≤ mC M + 1 := Nat.le_succ _
  have s00 : mS M ≤ mS M + 6 := Nat.le_add_right _ _
  refine Wf.sAl (tkL_34 (d := 19)) rfl rfl rfl ?_
  refine Wf.sCv (as := []) (rest := []) (tkL_34 (d := 19)) rfl rfl (kk_ok hL0.iv rfl) rfl ?_
  refine p6t_ask 7 hL0.li (fun x4 M1 hl9 e3 k5 n10 => ?_)
  have hq8 := LV_k hL0.q hl9 e3 k5 (by decide +kernel) n10
  have c6 : mC M1 ≤ mC M + 1 := by rw [mC_1 e3]; exact c00
  have s7 : mS M1 ≤ mS M + 6 := by rw [mS_1 e3]; exact s00
  show Wf l (n, xs) uL 20 false (1000, 10000) 1246 [(0, .ref 4999), (1, .ref 1), (2, .ref 150), (3, .ref 167), (4, .int (nI i))] [.int x4] M1 kr
  refine Wf.sPop (tkL_34 (d := 19)) rfl rfl ?_
  refine Wf.sAl (tkL_34 (d := 19)) rfl rfl rfl ?_
  refine Wf.sCv (as := []) (rest := []) (tkL_34 (d := 19)) rfl rfl (kk_ok hq8.iv rfl) rfl ?_
  refine p7t_ask 7 hq8.li (fun x14 M11 hl19 e13 k15 n20 => ?_)
  have hq18 := LW_v hq8 hl19 e13 k15 (by decide +kernel) n20
  have c16 : mC M11 ≤ mC M + 1 := by rw [mC_1 e13]; exact c6
  have s17 : mS M11 ≤ mS M + 6 := by rw [mS_1 e13]; exact s7
  show Wf l (n, xs) uL 20 false (1000, 10000) 1251 [(0, .ref 4999), (1, .ref 1), (2, .ref 150), (3, .ref 167), (4, .int (nI i))] [.int x14] M11 kr
  refine Wf.sPop (tkL_34 (d := 19)) rfl rfl ?_
  refine Wf.sGo (tkL_34 (d := 19)) rfl ?_
  show Wf l (n, xs) uL 20 false (1000, 10000) 1885 [(0, .ref 4999), (1, .ref 1), (2, .ref 150), (3, .ref 167), (4, .int (nI i))] [] M11 kr
  exact h M11 hq18 c16 s17
set_option maxRecDepth 20000 in
theorem lawc_35 (hi : i + 6 ≤ n) (hn : n ≤ 3072) (hL0 : LW M) (h : ∀ M', LW M' → mC M' ≤ mC M + 1 → mS M' ≤ mS M + 6 → Wf l (n, xs) uL 20 false (1000, 10000) 1885 [(0, .ref 4999), (1, .ref 1), (2, .ref 150), (3, .ref 167), (4, .int (nI i))] [] M' kr) : Wf l (n, xs) uL 20 false (1000, 10000) 1255 [(0, .ref 4999), (1, .ref 1), (2, .ref 150), (3, .ref 167), (4, .int (nI i))] [] M kr := by
  have c00 : mC M ≤ mC M + 1 := Nat.le_succ _
  have s00 : mS M ≤ mS M + 6 := Nat.le_add_right _ _
  refine Wf.sAl (tkL_35 (d := 19)) rfl rfl rfl ?_
  refine Wf.sCv (as := []) (rest := []) (tkL_35 (d := 19)) rfl rfl (kk_ok hL0.iv rfl) rfl ?_
  refine p6t_askLeaves 7 hL0.li (fun x4 M1 hl9 e3 k5 n10 => ?_)
  have hq8 := LV_k hL0.q hl9 e3 k5 (by decide +kernel) n10
  have c6 : mC M1 ≤ mC M + 1 := by rw [mC_1 e3]; exact c00
  have s7 : mS M1 ≤ mS M + 6 := by rw [mS_1 e3]; exact s00
  show Wf l (n, xs) uL 20 false (1000, 10000) 1259 [(0, .ref 4999), (1, .ref 1), (2, .ref 150), (3, .ref 167), (4, .int (nI i))] [.int x4] M1 kr
  refine Wf.sPop (tkL_35 (d := 19)) rfl rfl ?_
  refine Wf.sAl (tkL_35 (d := 19)) rfl rfl rfl ?_
  refine Wf.sCv (as := []) (rest := []) (tkL_35 (d := 19)) rfl rfl (kk_ok hq8.iv rfl) rfl ?_
  refine p7t_askLeaves 7 hq8.li (fun x14 M11 hl19 e13 k15 n20 => ?_)
  have hq18 := LW_v hq8 hl19 e13 k15 (by decide +kernel) n20
  have c16 : mC M11 ≤ mC M + 1 := by rw [mC_1 e13]; exact c6
  have s17 : mS M11 ≤ mS M + 6 := by rw [mS_1 e13]; exact s7
  show Wf l (n, xs) uL 20 false (1000, 10000) 1264 [(0, .ref 4999), (1, .ref 1), (2, .ref 150), (3, .ref 167), (4, .int (nI i))] [.int x14] M11 kr
  refine Wf.sPop (tkL_35 (d := 19)) rfl rfl ?_
  refine Wf.sGo (tkL_35 (d := 19)) rfl ?_
  show Wf l (n, xs) uL 20 false (1000, 10000) 1885 [(0, .ref 4999), (1, .ref 1), (2, .ref 150), (3, .ref 167), (4, .int (nI i))] [] M11 kr
  exact h M11 hq18 c16 s17
set_option maxRecDepth 20000 in
theorem lawc_36 (hi : i + 6 ≤ n) (hn : n ≤ 3072) (hL0 : LW M) (h : ∀ M', LW M' → mC M' ≤ mC M + 1 → mS M' ≤ mS M + 6 → Wf l (n, xs) uL 20 false (1000, 10000) 1885 [(0, .ref 4999), (1, .ref 1), (2, .ref 150), (3, .ref 167), (4, .int (nI i))] [] M' kr) : Wf l (n, xs) uL 20 false (1000, 10000) 1268 [(0, .ref 4999), (1, .ref 1), (2, .ref 150), (3, .ref 167), (4, .int (nI i))] [] M kr := by
  have c00 : mC M ≤ mC M + 1 := Nat.le_succ _
  have s00 : mS M ≤ mS M + 6 := Nat.le_add_right _ _
  refine Wf.sAl (tkL_36 (d := 19)) rfl rfl rfl ?_
  refine Wf.sCv (as := []) (rest := []) (tkL_36 (d := 19)) rfl rfl (kk_ok hL0.iv rfl) rfl ?_
  refine p6t_judge 7 hL0.li (fun x4 M1 hl9 e3 k5 n10 => ?_)
  have hq8 := LV_k hL0.q hl9 e3 k5 (by decide +kernel) n10
  have c6 : mC M1 ≤ mC M + 1 := by rw [mC_1 e3]; exact c00
  have s7 : mS M1 ≤ mS M + 6 := by rw [mS_1 e3]; exact s00
  show Wf l (n, xs) uL 20 false (1000, 10000) 1272 [(0, .ref 4999), (1, .ref 1), (2, .ref 150), (3, .ref 167), (4, .int (nI i))] [.int x4] M1 kr
  refine Wf.sPop (tkL_36 (d := 19)) rfl rfl ?_
  refine Wf.sAl (tkL_36 (d := 19)) rfl rfl rfl ?_
  refine Wf.sCv (as := []) (rest := []) (tkL_36 (d := 19)) rfl rfl (kk_ok hq8.iv rfl) rfl ?_
  refine p7t_judge 7 hq8.li (fun x14 M11 hl19 e13 k15 n20 => ?_)
  have hq18 := LW_v hq8 hl19 e13 k15 (by decide +kernel) n20
  have c16 : mC M11 ≤ mC M + 1 := by rw [mC_1 e13]; exact c6
  have s17 : mS M11 ≤ mS M + 6 := by rw [mS_1 e13]; exact s7
  show Wf l (n, xs) uL 20 false (1000, 10000) 1277 [(0, .ref 4999), (1, .ref 1), (2, .ref 150), (3, .ref 167), (4, .int (nI i))] [.int x14] M11 kr
  refine Wf.sPop (tkL_36 (d := 19)) rfl rfl ?_
  refine Wf.sGo (tkL_36 (d := 19)) rfl ?_
  show Wf l (n, xs) uL 20 false (1000, 10000) 1885 [(0, .ref 4999), (1, .ref 1), (2, .ref 150), (3, .ref 167), (4, .int (nI i))] [] M11 kr
  exact h M11 hq18 c16 s17
set_option maxRecDepth 20000 in
theorem lawc_37 (hi : i + 6 ≤ n) (hn : n ≤ 3072) (hL0 : LW M) (h : ∀ M', LW M' → mC M' ≤ mC M + 1 → mS M' ≤ mS M + 6 → Wf l (n, xs) uL 20 false (1000, 10000) 1885 [(0, .ref 4999), (1, .ref 1), (2, .ref 150), (3, .ref 167), (4, .int (nI i))] [] M' kr) : Wf l (n, xs) uL 20 false (1000, 10000) 1281 [(0, .ref 4999), (1, .ref 1), (2, .ref 150), (3, .ref 167), (4, .int (nI i))] [] M kr := by
  have c00 : mC M ≤ mC M + 1 := Nat.le_succ _
  have s00 : mS M ≤ mS M + 6 := Nat.le_add_right _ _
  refine Wf.sAl (tkL_37 (d := 19)) rfl rfl rfl ?_
  refine Wf.sAl (tkL_37 (d := 19)) rfl rfl rfl ?_
  refine Wf.sIl (tkL_37 (d := 19)) rfl rfl ?_
  refine Wf.sIc (tkL_37 (d := 19)) rfl ?_
  refine Wf.s2 (tkL_37 (d := 19)) rfl ?_
  refine Wf.sScd (tkL_37 (d := 19)) rfl (vi1 hi hn) ?_
  show Wf l (n, xs) uL 20 false (1000, 10000) 1288 [(0, .ref 4999), (1, .ref 1), (2, .ref 150), (3, .ref 167), (4, .int (nI i))] [.int (xs (nI i + 1 : Int32).toNatClampNeg), .ref 1] M kr
  refine Wf.sAl (tkL_37 (d := 19)) rfl rfl rfl ?_
  refine Wf.sIl (tkL_37 (d := 19)) rfl rfl ?_
  refine Wf.sIc (tkL_37 (d := 19)) rfl ?_
  refine Wf.s2 (tkL_37 (d := 19)) rfl ?_
  refine Wf.sScd (tkL_37 (d := 19)) rfl (vi2 hi hn) ?_
  show Wf l (n, xs) uL 20 false (1000, 10000) 1294 [(0, .ref 4999), (1, .ref 1), (2, .ref 150), (3, .ref 167), (4, .int (nI i))] [.int (xs (nI i + 2 : Int32).toNatClampNeg), .int (xs (nI i + 1 : Int32).toNatClampNeg), .ref 1] M kr
  have jn1 : Wf l (n, xs) uL 20 false (1000, 10000) 1302 [(0, .ref 4999), (1, .ref 1), (2, .ref 150), (3, .ref 167), (4, .int (nI i))] [.int (bz (xs (nI i + 2 : Int32).toNatClampNeg)), .int (xs (nI i + 1 : Int32).toNatClampNeg), .ref 1] M kr := by
    refine Wf.sAl (tkL_37 (d := 19)) rfl rfl rfl ?_
    refine Wf.sIl (tkL_37 (d := 19)) rfl rfl ?_
    refine Wf.sIc (tkL_37 (d := 19)) rfl ?_
    refine Wf.s2 (tkL_37 (d := 19)) rfl ?_
    refine Wf.sScd (tkL_37 (d := 19)) rfl (vi3 hi hn) ?_
    show Wf l (n, xs) uL 20 false (1000, 10000) 1308 [(0, .ref 4999), (1, .ref 1), (2, .ref 150), (3, .ref 167), (4, .int (nI i))] [.int (xs (nI i + 3 : Int32).toNatClampNeg), .int (bz (xs (nI i + 2 : Int32).toNatClampNeg)), .int (xs (nI i + 1 : Int32).toNatClampNeg), .ref 1] M kr
    have jn2 : Wf l (n, xs) uL 20 false (1000, 10000) 1316 [(0, .ref 4999), (1, .ref 1), (2, .ref 150), (3, .ref 167), (4, .int (nI i))] [.int (bz (xs (nI i + 3 : Int32).toNatClampNeg)), .int (bz (xs (nI i + 2 : Int32).toNatClampNeg)), .int (xs (nI i + 1 : Int32).toNatClampNeg), .ref 1] M kr := by
      refine Wf.sAl (tkL_37 (d := 19)) rfl rfl rfl ?_
      refine Wf.sIl (tkL_37 (d := 19)) rfl rfl ?_
      refine Wf.sIc (tkL_37 (d := 19)) rfl ?_
      refine Wf.s2 (tkL_37 (d := 19)) rfl ?_
      refine Wf.sScd (tkL_37 (d := 19)) rfl (vi4 hi hn) ?_
      show Wf l (n, xs) uL 20 false (1000, 10000) 1322 [(0, .ref 4999), (1, .ref 1), (2, .ref 150), (3, .ref 167), (4, .int (nI i))] [.int (xs (nI i + 4 : Int32).toNatClampNeg), .int (bz (xs (nI i + 3 : Int32).toNatClampNeg)), .int (bz (xs (nI i + 2 : Int32).toNatClampNeg)), .int (xs (nI i + 1 : Int32).toNatClampNeg), .ref 1] M kr
      have jn3 : Wf l (n, xs) uL 20 false (1000, 10000) 1330 [(0, .ref 4999), (1, .ref 1), (2, .ref 150), (3, .ref 167), (4, .int (nI i))] [.int (bz (xs (nI i + 4 : Int32).toNatClampNeg)), .int (bz (xs (nI i + 3 : Int32).toNatClampNeg)), .int (bz (xs (nI i + 2 : Int32).toNatClampNeg)), .int (xs (nI i + 1 : Int32).toNatClampNeg), .ref 1] M kr := by
        refine Wf.sCv (as := [.int (xs (nI i + 1 : Int32).toNatClampNeg), .int (bz (xs (nI i + 2 : Int32).toNatClampNeg)), .int (bz (xs (nI i + 3 : Int32).toNatClampNeg)), .int (bz (xs (nI i + 4 : Int32).toNatClampNeg))]) (rest := []) (tkL_37 (d := 19)) rfl rfl (kk_ok hL0.iv rfl) rfl ?_
        refine p6t_sulks 7 hL0.li (fun x7 M4 hl12 e6 k8 n13 => ?_)
        have hq11 := LV_k hL0.q hl12 e6 k8 (by decide +kernel) n13
        have c9 : mC M4 ≤ mC M + 1 := by rw [mC_1 e6]; exact c00
        have s10 : mS M4 ≤ mS M + 6 := by rw [mS_1 e6]; exact s00
        show Wf l (n, xs) uL 20 false (1000, 10000) 1333 [(0, .ref 4999), (1, .ref 1), (2, .ref 150), (3, .ref 167), (4, .int (nI i))] [.int x7] M4 kr
        refine Wf.sPop (tkL_37 (d := 19)) rfl rfl ?_
        refine Wf.sAl (tkL_37 (d := 19)) rfl rfl rfl ?_
        refine Wf.sAl (tkL_37 (d := 19)) rfl rfl rfl ?_
        refine Wf.sIl (tkL_37 (d := 19)) rfl rfl ?_
        refine Wf.sIc (tkL_37 (d := 19)) rfl ?_
        refine Wf.s2 (tkL_37 (d := 19)) rfl ?_
        refine Wf.sScd (tkL_37 (d := 19)) rfl (vi1 hi hn) ?_
        show Wf l (n, xs) uL 20 false (1000, 10000) 1341 [(0, .ref 4999), (1, .ref 1), (2, .ref 150), (3, .ref 167), (4, .int (nI i))] [.int (xs (nI i + 1 : Int32).toNatClampNeg), .ref 150] M4 kr
        refine Wf.sAl (tkL_37 (d := 19)) rfl rfl rfl ?_
        refine Wf.sIl (tkL_37 (d := 19)) rfl rfl ?_
        refine Wf.sIc (tkL_37 (d := 19)) rfl ?_
        refine Wf.s2 (tkL_37 (d := 19)) rfl ?_
        refine Wf.sScd (tkL_37 (d := 19)) rfl (vi2 hi hn) ?_
        show Wf l (n, xs) uL 20 false (1000, 10000) 1347 [(0, .ref 4999), (1, .ref 1), (2, .ref 150), (3, .ref 167), (4, .int (nI i))] [.int (xs (nI i + 2 : Int32).toNatClampNeg), .int (xs (nI i + 1 : Int32).toNatClampNeg), .ref 150] M4 kr
        have jn14 : Wf l (n, xs) uL 20 false (1000, 10000) 1355 [(0, .ref 4999), (1, .ref 1), (2, .ref 150), (3, .ref 167), (4, .int (nI i))] [.int (bz (xs (nI i + 2 : Int32).toNatClampNeg)), .int (xs (nI i + 1 : Int32).toNatClampNeg), .ref 150] M4 kr := by
          refine Wf.sAl (tkL_37 (d := 19)) rfl rfl rfl ?_
          refine Wf.sIl (tkL_37 (d := 19)) rfl rfl ?_
          refine Wf.sIc (tkL_37 (d := 19)) rfl ?_
          refine Wf.s2 (tkL_37 (d := 19)) rfl ?_
          refine Wf.sScd (tkL_37 (d := 19)) rfl (vi3 hi hn) ?_
          show Wf l (n, xs) uL 20 false (1000, 10000) 1361 [(0, .ref 4999), (1, .ref 1), (2, .ref 150), (3, .ref 167), (4, .int (nI i))] [.int (xs (nI i + 3 : Int32).toNatClampNeg), .int (bz (xs (nI i + 2 : Int32).toNatClampNeg)), .int (xs (nI i + 1 : Int32).toNatClampNeg), .ref 150] M4 kr
          have jn15 : Wf l (n, xs) uL 20 false (1000, 10000) 1369 [(0, .ref 4999), (1, .ref 1), (2, .ref 150), (3, .ref 167), (4, .int (nI i))] [.int (bz (xs (nI i + 3 : Int32).toNatClampNeg)), .int (bz (xs (nI i + 2 : Int32).toNatClampNeg)), .int (xs (nI i + 1 : Int32).toNatClampNeg), .ref 150] M4 kr := by
            refine Wf.sAl (tkL_37 (d := 19)) rfl rfl rfl ?_
            refine Wf.sIl (tkL_37 (d := 19)) rfl rfl ?_
            refine Wf.sIc (tkL_37 (d := 19)) rfl ?_
            refine Wf.s2 (tkL_37 (d := 19)) rfl ?_
            refine Wf.sScd (tkL_37 (d := 19)) rfl (vi4 hi hn) ?_
            show Wf l (n, xs) uL 20 false (1000, 10000) 1375 [(0, .ref 4999), (1, .ref 1), (2, .ref 150), (3, .ref 167), (4, .int (nI i))] [.int (xs (nI i + 4 : Int32).toNatClampNeg), .int (bz (xs (nI i + 3 : Int32).toNatClampNeg)), .int (bz (xs (nI i + 2 : Int32).toNatClampNeg)), .int (xs (nI i + 1 : Int32).toNatClampNeg), .ref 150] M4 kr
            have jn16 : Wf l (n, xs) uL 20 false (1000, 10000) 1383 [(0, .ref 4999), (1, .ref 1), (2, .ref 150), (3, .ref 167), (4, .int (nI i))] [.int (bz (xs (nI i + 4 : Int32).toNatClampNeg)), .int (bz (xs (nI i + 3 : Int32).toNatClampNeg)), .int (bz (xs (nI i + 2 : Int32).toNatClampNeg)), .int (xs (nI i + 1 : Int32).toNatClampNeg), .ref 150] M4 kr := by
              refine Wf.sCv (as := [.int (xs (nI i + 1 : Int32).toNatClampNeg), .int (bz (xs (nI i + 2 : Int32).toNatClampNeg)), .int (bz (xs (nI i + 3 : Int32).toNatClampNeg)), .int (bz (xs (nI i + 4 : Int32).toNatClampNeg))]) (rest := []) (tkL_37 (d := 19)) rfl rfl (kk_ok hq11.iv rfl) rfl ?_
              refine p7t_sulks 7 hq11.li (fun x20 M17 hl25 e19 k21 n26 => ?_)
              have hq24 := LW_v hq11 hl25 e19 k21 (by decide +kernel) n26
              have c22 : mC M17 ≤ mC M + 1 := by rw [mC_1 e19]; exact c9
              have s23 : mS M17 ≤ mS M + 6 := by rw [mS_1 e19]; exact s10
              show Wf l (n, xs) uL 20 false (1000, 10000) 1386 [(0, .ref 4999), (1, .ref 1), (2, .ref 150), (3, .ref 167), (4, .int (nI i))] [.int x20] M17 kr
              refine Wf.sPop (tkL_37 (d := 19)) rfl rfl ?_
              refine Wf.sGo (tkL_37 (d := 19)) rfl ?_
              show Wf l (n, xs) uL 20 false (1000, 10000) 1885 [(0, .ref 4999), (1, .ref 1), (2, .ref 150), (3, .ref 167), (4, .int (nI i))] [] M17 kr
              exact h M17 hq24 c22 s23
            refine Wf.sIf (tkL_37 (d := 19)) rfl (fun z => ?_) (fun z => ?_)
            · have z : (xs (nI i + 4 : Int32).toNatClampNeg) = 0 := z
              refine Wf.sIc (tkL_37 (d := 19)) rfl ?_
              rw [bz_0 z] at jn16
              exact jn16
            · have z : ¬ (xs (nI i + 4 : Int32).toNatClampNeg) = 0 := z
              refine Wf.sIc (tkL_37 (d := 19)) rfl ?_
              refine Wf.sGo (tkL_37 (d := 19)) rfl ?_
              rw [bz_1 z] at jn16
              exact jn16
          refine Wf.sIf (tkL_37 (d := 19)) rfl (fun z => ?_) (fun z => ?_)
          · have z : (xs (nI i + 3 : Int32).toNatClampNeg) = 0 := z
            refine Wf.sIc (tkL_37 (d := 19)) rfl ?_
            rw [bz_0 z] at jn15
            exact jn15
          · have z : ¬ (xs (nI i + 3 : Int32).toNatClampNeg) = 0 := z
            refine Wf.sIc (tkL_37 (d := 19)) rfl ?_
            refine Wf.sGo (tkL_37 (d := 19)) rfl ?_
            rw [bz_1 z] at jn15
            exact jn15
        refine Wf.sIf (tkL_37 (d := 19)) rfl (fun z => ?_) (fun z => ?_)
        · have z : (xs (nI i + 2 : Int32).toNatClampNeg) = 0 := z
          refine Wf.sIc (tkL_37 (d := 19)) rfl ?_
          rw [bz_0 z] at jn14
          exact jn14
        · have z : ¬ (xs (nI i + 2 : Int32).toNatClampNeg) = 0 := z
          refine Wf.sIc (tkL_37 (d := 19)) rfl ?_
          refine Wf.sGo (tkL_37 (d := 19)) rfl ?_
          rw [bz_1 z] at jn14
          exact jn14
      refine Wf.sIf (tkL_37 (d := 19)) rfl (fun z => ?_) (fun z => ?_)
      · have z : (xs (nI i + 4 : Int32).toNatClampNeg) = 0 := z
        refine Wf.sIc (tkL_37 (d := 19)) rfl ?_
        rw [bz_0 z] at jn3
        exact jn3
      · have z : ¬ (xs (nI i + 4 : Int32).toNatClampNeg) = 0 := z
        refine Wf.sIc (tkL_37 (d := 19)) rfl ?_
        refine Wf.sGo (tkL_37 (d := 19)) rfl ?_
        rw [bz_1 z] at jn3
        exact jn3
    refine Wf.sIf (tkL_37 (d := 19)) rfl (fun z => ?_) (fun z => ?_)
    · have z : (xs (nI i + 3 : Int32).toNatClampNeg) = 0 := z
      refine Wf.sIc (tkL_37 (d := 19)) rfl ?_
      rw [bz_0 z] at jn2
      exact jn2
    · have z : ¬ (xs (nI i + 3 : Int32).toNatClampNeg) = 0 := z
      refine Wf.sIc (tkL_37 (d := 19)) rfl ?_
      refine Wf.sGo (tkL_37 (d := 19)) rfl ?_
      rw [bz_1 z] at jn2
      exact jn2
  refine Wf.sIf (tkL_37 (d := 19)) rfl (fun z => ?_) (fun z => ?_)
  · have z : (xs (nI i + 2 : Int32).toNatClampNeg) = 0 := z
    refine Wf.sIc (tkL_37 (d := 19)) rfl ?_
    rw [bz_0 z] at jn1
    exact jn1
  · have z : ¬ (xs (nI i + 2 : Int32).toNatClampNeg) = 0 := z
    refine Wf.sIc (tkL_37 (d := 19)) rfl ?_
    refine Wf.sGo (tkL_37 (d := 19)) rfl ?_
    rw [bz_1 z] at jn1
    exact jn1
set_option maxRecDepth 20000 in
theorem lawc_38 (hi : i + 6 ≤ n) (hn : n ≤ 3072) (hL0 : LW M) (h : ∀ M', LW M' → mC M' ≤ mC M + 1 → mS M' ≤ mS M + 6 → Wf l (n, xs) uL 20 false (1000, 10000) 1885 [(0, .ref 4999), (1, .ref 1), (2, .ref 150), (3, .ref 167), (4, .int (nI i))] [] M' kr) : Wf l (n, xs) uL 20 false (1000, 10000) 1390 [(0, .ref 4999), (1, .ref 1), (2, .ref 150), (3, .ref 167), (4, .int (nI i))] [] M kr := by
  have c00 : mC M ≤ mC M + 1 := Nat.le_succ _
  have s00 : mS M ≤ mS M + 6 := Nat.le_add_right _ _
  refine Wf.sAl (tkL_38 (d := 19)) rfl rfl rfl ?_
  refine Wf.sAl (tkL_38 (d := 19)) rfl rfl rfl ?_
  refine Wf.sIl (tkL_38 (d := 19)) rfl rfl ?_
  refine Wf.sIc (tkL_38 (d := 19)) rfl ?_
  refine Wf.s2 (tkL_38 (d := 19)) rfl ?_
  refine Wf.sScd (tkL_38 (d := 19)) rfl (vi1 hi hn) ?_
  show Wf l (n, xs) uL 20 false (1000, 10000) 1397 [(0, .ref 4999), (1, .ref 1), (2, .ref 150), (3, .ref 167), (4, .int (nI i))] [.int (xs (nI i + 1 : Int32).toNatClampNeg), .ref 1] M kr
  refine Wf.sCv (as := [.int (xs (nI i + 1 : Int32).toNatClampNeg)]) (rest := []) (tkL_38 (d := 19)) rfl rfl (kk_ok hL0.iv rfl) rfl ?_
  refine p6t_rests 7 hL0.li (fun x4 M1 hl9 e3 k5 n10 => ?_)
  have hq8 := LV_k hL0.q hl9 e3 k5 (by decide +kernel) n10
  have c6 : mC M1 ≤ mC M + 1 := by rw [mC_1 e3]; exact c00
  have s7 : mS M1 ≤ mS M + 6 := by rw [mS_1 e3]; exact s00
  show Wf l (n, xs) uL 20 false (1000, 10000) 1400 [(0, .ref 4999), (1, .ref 1), (2, .ref 150), (3, .ref 167), (4, .int (nI i))] [.int x4] M1 kr
  refine Wf.sPop (tkL_38 (d := 19)) rfl rfl ?_
  refine Wf.sAl (tkL_38 (d := 19)) rfl rfl rfl ?_
  refine Wf.sAl (tkL_38 (d := 19)) rfl rfl rfl ?_
  refine Wf.sIl (tkL_38 (d := 19)) rfl rfl ?_
  refine Wf.sIc (tkL_38 (d := 19)) rfl ?_
  refine Wf.s2 (tkL_38 (d := 19)) rfl ?_
  refine Wf.sScd (tkL_38 (d := 19)) rfl (vi1 hi hn) ?_
  show Wf l (n, xs) uL 20 false (1000, 10000) 1408 [(0, .ref 4999), (1, .ref 1), (2, .ref 150), (3, .ref 167), (4, .int (nI i))] [.int (xs (nI i + 1 : Int32).toNatClampNeg), .ref 150] M1 kr
  refine Wf.sCv (as := [.int (xs (nI i + 1 : Int32).toNatClampNeg)]) (rest := []) (tkL_38 (d := 19)) rfl rfl (kk_ok hq8.iv rfl) rfl ?_
  refine p7t_rests 7 hq8.li (fun x14 M11 hl19 e13 k15 n20 => ?_)
  have hq18 := LW_v hq8 hl19 e13 k15 (by decide +kernel) n20
  have c16 : mC M11 ≤ mC M + 1 := by rw [mC_1 e13]; exact c6
  have s17 : mS M11 ≤ mS M + 6 := by rw [mS_1 e13]; exact s7
  show Wf l (n, xs) uL 20 false (1000, 10000) 1411 [(0, .ref 4999), (1, .ref 1), (2, .ref 150), (3, .ref 167), (4, .int (nI i))] [.int x14] M11 kr
  refine Wf.sPop (tkL_38 (d := 19)) rfl rfl ?_
  refine Wf.sGo (tkL_38 (d := 19)) rfl ?_
  show Wf l (n, xs) uL 20 false (1000, 10000) 1885 [(0, .ref 4999), (1, .ref 1), (2, .ref 150), (3, .ref 167), (4, .int (nI i))] [] M11 kr
  exact h M11 hq18 c16 s17
set_option maxRecDepth 20000 in
theorem lawc_39 (hi : i + 6 ≤ n) (hn : n ≤ 3072) (hL0 : LW M) (h : ∀ M', LW M' → mC M' ≤ mC M + 1 → mS M' ≤ mS M + 6 → Wf l (n, xs) uL 20 false (1000, 10000) 1885 [(0, .ref 4999), (1, .ref 1), (2, .ref 150), (3, .ref 167), (4, .int (nI i))] [] M' kr) : Wf l (n, xs) uL 20 false (1000, 10000) 1415 [(0, .ref 4999), (1, .ref 1), (2, .ref 150), (3, .ref 167), (4, .int (nI i))] [] M kr := by
  have c00 : mC M ≤ mC M + 1 := Nat.le_succ _
  have s00 : mS M ≤ mS M + 6 := Nat.le_add_right _ _
  refine Wf.sAl (tkL_39 (d := 19)) rfl rfl rfl ?_
  refine Wf.sAl (tkL_39 (d := 19)) rfl rfl rfl ?_
  refine Wf.sIl (tkL_39 (d := 19)) rfl rfl ?_
  refine Wf.sIc (tkL_39 (d := 19)) rfl ?_
  refine Wf.s2 (tkL_39 (d := 19)) rfl ?_
  refine Wf.sScd (tkL_39 (d := 19)) rfl (vi1 hi hn) ?_
  show Wf l (n, xs) uL 20 false (1000, 10000) 1422 [(0, .ref 4999), (1, .ref 1), (2, .ref 150), (3, .ref 167), (4, .int (nI i))] [.int (xs (nI i + 1 : Int32).toNatClampNeg), .ref 1] M kr
  refine Wf.sCv (as := [.int (xs (nI i + 1 : Int32).toNatClampNeg)]) (rest := []) (tkL_39 (d := 19)) rfl rfl (kk_ok hL0.iv rfl) rfl ?_
  refine p6t_rest 7 hL0.li (fun x4 M1 hl9 e3 k5 n10 => ?_)
  have hq8 := LV_k hL0.q hl9 e3 k5 (by decide +kernel) n10
  have c6 : mC M1 ≤ mC M + 1 := by rw [mC_1 e3]; exact c00
  have s7 : mS M1 ≤ mS M + 6 := by rw [mS_1 e3]; exact s00
  show Wf l (n, xs) uL 20 false (1000, 10000) 1425 [(0, .ref 4999), (1, .ref 1), (2, .ref 150), (3, .ref 167), (4, .int (nI i))] [.int x4] M1 kr
  refine Wf.sPop (tkL_39 (d := 19)) rfl rfl ?_
  refine Wf.sAl (tkL_39 (d := 19)) rfl rfl rfl ?_
  refine Wf.sAl (tkL_39 (d := 19)) rfl rfl rfl ?_
  refine Wf.sIl (tkL_39 (d := 19)) rfl rfl ?_
  refine Wf.sIc (tkL_39 (d := 19)) rfl ?_
  refine Wf.s2 (tkL_39 (d := 19)) rfl ?_
  refine Wf.sScd (tkL_39 (d := 19)) rfl (vi1 hi hn) ?_
  show Wf l (n, xs) uL 20 false (1000, 10000) 1433 [(0, .ref 4999), (1, .ref 1), (2, .ref 150), (3, .ref 167), (4, .int (nI i))] [.int (xs (nI i + 1 : Int32).toNatClampNeg), .ref 150] M1 kr
  refine Wf.sCv (as := [.int (xs (nI i + 1 : Int32).toNatClampNeg)]) (rest := []) (tkL_39 (d := 19)) rfl rfl (kk_ok hq8.iv rfl) rfl ?_
  refine p7t_rest 7 hq8.li (fun x14 M11 hl19 e13 k15 n20 => ?_)
  have hq18 := LW_v hq8 hl19 e13 k15 (by decide +kernel) n20
  have c16 : mC M11 ≤ mC M + 1 := by rw [mC_1 e13]; exact c6
  have s17 : mS M11 ≤ mS M + 6 := by rw [mS_1 e13]; exact s7
  show Wf l (n, xs) uL 20 false (1000, 10000) 1436 [(0, .ref 4999), (1, .ref 1), (2, .ref 150), (3, .ref 167), (4, .int (nI i))] [.int x14] M11 kr
  refine Wf.sPop (tkL_39 (d := 19)) rfl rfl ?_
  refine Wf.sGo (tkL_39 (d := 19)) rfl ?_
  show Wf l (n, xs) uL 20 false (1000, 10000) 1885 [(0, .ref 4999), (1, .ref 1), (2, .ref 150), (3, .ref 167), (4, .int (nI i))] [] M11 kr
  exact h M11 hq18 c16 s17
end LAWC
