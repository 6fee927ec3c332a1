/-! the law's cases over its states -/
section LAWC
variable {l : Launch} {xs : Nat → Int32} {kr : KR} {i n : Nat} {M : Mm}
set_option maxRecDepth 20000 in
theorem lawc_0 (hi : i + 6 ≤ n) (hn : n ≤ 3072) (hL0 : LX M) (h : ∀ M', LX M' → mC M' ≤ mC M + 1 → mS M' ≤ mS M + 6 → Wf l (n, xs) uL 20 false (1000, 10000) 1885 [(0, .ref 4999), (1, .ref 1), (2, .ref 150), (3, .ref 167), (4, .int (nI i))] [] M' kr) : Wf l (n, xs) uL 20 false (1000, 10000) 272 [(0, .ref 4999), (1, .ref 1), (2, .ref 150), (3, .ref 167), (4, .int (nI i))] [] M kr := by
  have c00 : mC M ≤ mC M + 1 := Nat.le_succ _
  have s00 : mS M ≤ mS M + 6 := Nat.le_add_right _ _
  obtain ⟨lp, ⟨t, b, ht, t6, t7⟩, ft⟩ := hL0.q
  refine Wf.sAl (tkL_0 (d := 19)) rfl rfl rfl ?_
  refine Wf.sAl (tkL_0 (d := 19)) rfl rfl rfl ?_
  refine Wf.sIl (tkL_0 (d := 19)) rfl rfl ?_
  refine Wf.sIc (tkL_0 (d := 19)) rfl ?_
  refine Wf.s2 (tkL_0 (d := 19)) rfl ?_
  refine Wf.sScd (tkL_0 (d := 19)) rfl (vi1 hi hn) ?_
  show Wf l (n, xs) uL 20 false (1000, 10000) 279 [(0, .ref 4999), (1, .ref 1), (2, .ref 150), (3, .ref 167), (4, .int (nI i))] [.int (xs (nI i + 1 : Int32).toNatClampNeg), .ref 1] M kr
  refine Wf.sAl (tkL_0 (d := 19)) rfl rfl rfl ?_
  refine Wf.sIl (tkL_0 (d := 19)) rfl rfl ?_
  refine Wf.sIc (tkL_0 (d := 19)) rfl ?_
  refine Wf.s2 (tkL_0 (d := 19)) rfl ?_
  refine Wf.sScd (tkL_0 (d := 19)) rfl (vi2 hi hn) ?_
  show Wf l (n, xs) uL 20 false (1000, 10000) 285 [(0, .ref 4999), (1, .ref 1), (2, .ref 150), (3, .ref 167), (4, .int (nI i))] [.int (xs (nI i + 2 : Int32).toNatClampNeg), .int (xs (nI i + 1 : Int32).toNatClampNeg), .ref 1] M kr
  refine Wf.sAl (tkL_0 (d := 19)) rfl rfl rfl ?_
  refine Wf.sIl (tkL_0 (d := 19)) rfl rfl ?_
  refine Wf.sIc (tkL_0 (d := 19)) rfl ?_
  refine Wf.s2 (tkL_0 (d := 19)) rfl ?_
  refine Wf.sScd (tkL_0 (d := 19)) rfl (vi3 hi hn) ?_
  show Wf l (n, xs) uL 20 false (1000, 10000) 291 [(0, .ref 4999), (1, .ref 1), (2, .ref 150), (3, .ref 167), (4, .int (nI i))] [.int (xs (nI i + 3 : Int32).toNatClampNeg), .int (xs (nI i + 2 : Int32).toNatClampNeg), .int (xs (nI i + 1 : Int32).toNatClampNeg), .ref 1] M kr
  refine Wf.sAl (tkL_0 (d := 19)) rfl rfl rfl ?_
  refine Wf.sIl (tkL_0 (d := 19)) rfl rfl ?_
  refine Wf.sIc (tkL_0 (d := 19)) rfl ?_
  refine Wf.s2 (tkL_0 (d := 19)) rfl ?_
  refine Wf.sScd (tkL_0 (d := 19)) rfl (vi4 hi hn) ?_
  show Wf l (n, xs) uL 20 false (1000, 10000) 297 [(0, .ref 4999), (1, .ref 1), (2, .ref 150), (3, .ref 167), (4, .int (nI i))] [.int (xs (nI i + 4 : Int32).toNatClampNeg), .int (xs (nI i + 3 : Int32).toNatClampNeg), .int (xs (nI i + 2 : Int32).toNatClampNeg), .int (xs (nI i + 1 : Int32).toNatClampNeg), .ref 1] M kr
  refine Wf.sAl (tkL_0 (d := 19)) rfl rfl rfl ?_
  refine Wf.sIl (tkL_0 (d := 19)) rfl rfl ?_
  refine Wf.sIc (tkL_0 (d := 19)) rfl ?_
  refine Wf.s2 (tkL_0 (d := 19)) rfl ?_
  refine Wf.sScd (tkL_0 (d := 19)) rfl (vi5 hi hn) ?_
  show Wf l (n, xs) uL 20 false (1000, 10000) 303 [(0, .ref 4999), (1, .ref 1), (2, .ref 150), (3, .ref 167), (4, .int (nI i))] [.int (xs (nI i + 5 : Int32).toNatClampNeg), .int (xs (nI i + 4 : Int32).toNatClampNeg), .int (xs (nI i + 3 : Int32).toNatClampNeg), .int (xs (nI i + 2 : Int32).toNatClampNeg), .int (xs (nI i + 1 : Int32).toNatClampNeg), .ref 1] M kr
  refine Wf.sCv (as := [.int (xs (nI i + 1 : Int32).toNatClampNeg), .int (xs (nI i + 2 : Int32).toNatClampNeg), .int (xs (nI i + 3 : Int32).toNatClampNeg), .int (xs (nI i + 4 : Int32).toNatClampNeg), .int (xs (nI i + 5 : Int32).toNatClampNeg)]) (rest := []) (tkL_0 (d := 19)) rfl rfl (kk_ok lp.1 rfl) rfl ?_
  refine j6_feed 7 lp t6 ht (fun M1 hL2 e3 k6 t61 => ?_)
  have t71 := T7_6 t7 k6 rfl (fun _ => rfl)
  have c6 : mC M1 ≤ mC M + 1 := by rw [mC_1 e3]; exact c00
  have s7 : mS M1 ≤ mS M + 6 := by rw [mS_1 e3]; exact s00
  show Wf l (n, xs) uL 20 false (1000, 10000) 306 [(0, .ref 4999), (1, .ref 1), (2, .ref 150), (3, .ref 167), (4, .int (nI i))] [.int (fdR t)] M1 kr
  refine Wf.sPop (tkL_0 (d := 19)) rfl rfl ?_
  refine Wf.sAl (tkL_0 (d := 19)) rfl rfl rfl ?_
  refine Wf.sAl (tkL_0 (d := 19)) rfl rfl rfl ?_
  refine Wf.sIl (tkL_0 (d := 19)) rfl rfl ?_
  refine Wf.sIc (tkL_0 (d := 19)) rfl ?_
  refine Wf.s2 (tkL_0 (d := 19)) rfl ?_
  refine Wf.sScd (tkL_0 (d := 19)) rfl (vi1 hi hn) ?_
  show Wf l (n, xs) uL 20 false (1000, 10000) 314 [(0, .ref 4999), (1, .ref 1), (2, .ref 150), (3, .ref 167), (4, .int (nI i))] [.int (xs (nI i + 1 : Int32).toNatClampNeg), .ref 150] M1 kr
  refine Wf.sAl (tkL_0 (d := 19)) rfl rfl rfl ?_
  refine Wf.sIl (tkL_0 (d := 19)) rfl rfl ?_
  refine Wf.sIc (tkL_0 (d := 19)) rfl ?_
  refine Wf.s2 (tkL_0 (d := 19)) rfl ?_
  refine Wf.sScd (tkL_0 (d := 19)) rfl (vi2 hi hn) ?_
  show Wf l (n, xs) uL 20 false (1000, 10000) 320 [(0, .ref 4999), (1, .ref 1), (2, .ref 150), (3, .ref 167), (4, .int (nI i))] [.int (xs (nI i + 2 : Int32).toNatClampNeg), .int (xs (nI i + 1 : Int32).toNatClampNeg), .ref 150] M1 kr
  refine Wf.sAl (tkL_0 (d := 19)) rfl rfl rfl ?_
  refine Wf.sIl (tkL_0 (d := 19)) rfl rfl ?_
  refine Wf.sIc (tkL_0 (d := 19)) rfl ?_
  refine Wf.s2 (tkL_0 (d := 19)) rfl ?_
  refine Wf.sScd (tkL_0 (d := 19)) rfl (vi3 hi hn) ?_
  show Wf l (n, xs) uL 20 false (1000, 10000) 326 [(0, .ref 4999), (1, .ref 1), (2, .ref 150), (3, .ref 167), (4, .int (nI i))] [.int (xs (nI i + 3 : Int32).toNatClampNeg), .int (xs (nI i + 2 : Int32).toNatClampNeg), .int (xs (nI i + 1 : Int32).toNatClampNeg), .ref 150] M1 kr
  refine Wf.sAl (tkL_0 (d := 19)) rfl rfl rfl ?_
  refine Wf.sIl (tkL_0 (d := 19)) rfl rfl ?_
  refine Wf.sIc (tkL_0 (d := 19)) rfl ?_
  refine Wf.s2 (tkL_0 (d := 19)) rfl ?_
  refine Wf.sScd (tkL_0 (d := 19)) rfl (vi4 hi hn) ?_
  show Wf l (n, xs) uL 20 false (1000, 10000) 332 [(0, .ref 4999), (1, .ref 1), (2, .ref 150), (3, .ref 167), (4, .int (nI i))] [.int (xs (nI i + 4 : Int32).toNatClampNeg), .int (xs (nI i + 3 : Int32).toNatClampNeg), .int (xs (nI i + 2 : Int32).toNatClampNeg), .int (xs (nI i + 1 : Int32).toNatClampNeg), .ref 150] M1 kr
  refine Wf.sAl (tkL_0 (d := 19)) rfl rfl rfl ?_
  refine Wf.sIl (tkL_0 (d := 19)) rfl rfl ?_
  refine Wf.sIc (tkL_0 (d := 19)) rfl ?_
  refine Wf.s2 (tkL_0 (d := 19)) rfl ?_
  refine Wf.sScd (tkL_0 (d := 19)) rfl (vi5 hi hn) ?_
  show Wf l (n, xs) uL 20 false (1000, 10000) 338 [(0, .ref 4999), (1, .ref 1), (2, .ref 150), (3, .ref 167), (4, .int (nI i))] [.int (xs (nI i + 5 : Int32).toNatClampNeg), .int (xs (nI i + 4 : Int32).toNatClampNeg), .int (xs (nI i + 3 : Int32).toNatClampNeg), .int (xs (nI i + 2 : Int32).toNatClampNeg), .int (xs (nI i + 1 : Int32).toNatClampNeg), .ref 150] M1 kr
  refine Wf.sCv (as := [.int (xs (nI i + 1 : Int32).toNatClampNeg), .int (xs (nI i + 2 : Int32).toNatClampNeg), .int (xs (nI i + 3 : Int32).toNatClampNeg), .int (xs (nI i + 4 : Int32).toNatClampNeg), .int (xs (nI i + 5 : Int32).toNatClampNeg)]) (rest := []) (tkL_0 (d := 19)) rfl rfl (kk_ok hL2.1 rfl) rfl ?_
  refine j7_feed 7 hL2 t71 ht (fun M8 hL9 e10 k7 t72 => ?_)
  have hq15 := LX_feed hL0 ht k6 t61 hL9 k7 t72
  have c13 : mC M8 ≤ mC M + 1 := by rw [mC_1 e10]; exact c6
  have s14 : mS M8 ≤ mS M + 6 := by rw [mS_1 e10]; exact s7
  show Wf l (n, xs) uL 20 false (1000, 10000) 341 [(0, .ref 4999), (1, .ref 1), (2, .ref 150), (3, .ref 167), (4, .int (nI i))] [.int (fdR t)] M8 kr
  refine Wf.sPop (tkL_0 (d := 19)) rfl rfl ?_
  refine Wf.sGo (tkL_0 (d := 19)) rfl ?_
  show Wf l (n, xs) uL 20 false (1000, 10000) 1885 [(0, .ref 4999), (1, .ref 1), (2, .ref 150), (3, .ref 167), (4, .int (nI i))] [] M8 kr
  exact h M8 hq15 c13 s14
set_option maxRecDepth 20000 in
theorem lawc_1 (hi : i + 6 ≤ n) (hn : n ≤ 3072) (hL0 : LX M) (h : ∀ M', LX M' → mC M' ≤ mC M + 1 → mS M' ≤ mS M + 6 → Wf l (n, xs) uL 20 false (1000, 10000) 1885 [(0, .ref 4999), (1, .ref 1), (2, .ref 150), (3, .ref 167), (4, .int (nI i))] [] M' kr) : Wf l (n, xs) uL 20 false (1000, 10000) 345 [(0, .ref 4999), (1, .ref 1), (2, .ref 150), (3, .ref 167), (4, .int (nI i))] [] M kr := by
  have c00 : mC M ≤ mC M + 1 := Nat.le_succ _
  have s00 : mS M ≤ mS M + 6 := Nat.le_add_right _ _
  obtain ⟨lp, ⟨t, b, ht, t6, t7⟩, ft⟩ := hL0.q
  refine Wf.sAl (tkL_1 (d := 19)) rfl rfl rfl ?_
  refine Wf.sAl (tkL_1 (d := 19)) rfl rfl rfl ?_
  refine Wf.sIl (tkL_1 (d := 19)) rfl rfl ?_
  refine Wf.sIc (tkL_1 (d := 19)) rfl ?_
  refine Wf.s2 (tkL_1 (d := 19)) rfl ?_
  refine Wf.sScd (tkL_1 (d := 19)) rfl (vi1 hi hn) ?_
  show Wf l (n, xs) uL 20 false (1000, 10000) 352 [(0, .ref 4999), (1, .ref 1), (2, .ref 150), (3, .ref 167), (4, .int (nI i))] [.int (xs (nI i + 1 : Int32).toNatClampNeg), .ref 1] M kr
  refine Wf.sCv (as := [.int (xs (nI i + 1 : Int32).toNatClampNeg)]) (rest := []) (tkL_1 (d := 19)) rfl rfl (kk_ok lp.1 rfl) rfl ?_
  refine k6_close 7 lp t6 ht (fun M1 hL2 e3 k6 t61 f6 g6 z6 => ?_)
  have t71 := T7_6 t7 k6 rfl (fun _ => rfl)
  have c6 : mC M1 ≤ mC M + 1 := by rw [mC_1 e3]; exact c00
  have s7 : mS M1 ≤ mS M + 6 := by rw [mS_1 e3]; exact s00
  show Wf l (n, xs) uL 20 false (1000, 10000) 355 [(0, .ref 4999), (1, .ref 1), (2, .ref 150), (3, .ref 167), (4, .int (nI i))] [.int (cA (cO b (xs (nI i + 1 : Int32).toNatClampNeg) t))] M1 kr
  refine Wf.sPop (tkL_1 (d := 19)) rfl rfl ?_
  refine Wf.sAl (tkL_1 (d := 19)) rfl rfl rfl ?_
  refine Wf.sAl (tkL_1 (d := 19)) rfl rfl rfl ?_
  refine Wf.sIl (tkL_1 (d := 19)) rfl rfl ?_
  refine Wf.sIc (tkL_1 (d := 19)) rfl ?_
  refine Wf.s2 (tkL_1 (d := 19)) rfl ?_
  refine Wf.sScd (tkL_1 (d := 19)) rfl (vi1 hi hn) ?_
  show Wf l (n, xs) uL 20 false (1000, 10000) 363 [(0, .ref 4999), (1, .ref 1), (2, .ref 150), (3, .ref 167), (4, .int (nI i))] [.int (xs (nI i + 1 : Int32).toNatClampNeg), .ref 150] M1 kr
  refine Wf.sCv (as := [.int (xs (nI i + 1 : Int32).toNatClampNeg)]) (rest := []) (tkL_1 (d := 19)) rfl rfl (kk_ok hL2.1 rfl) rfl ?_
  refine k7_close 7 hL2 t71 ht (fun M8 hL9 e10 k7 t72 f7 g7 z7 => ?_)
  have hq15 := LX_close hL0 ht k6 t61 f6 hL2 z6 hL9 k7 t72 f7 z7
  have c13 : mC M8 ≤ mC M + 1 := by rw [mC_1 e10]; exact c6
  have s14 : mS M8 ≤ mS M + 6 := by rw [mS_1 e10]; exact s7
  show Wf l (n, xs) uL 20 false (1000, 10000) 366 [(0, .ref 4999), (1, .ref 1), (2, .ref 150), (3, .ref 167), (4, .int (nI i))] [.int (cA (cO b (xs (nI i + 1 : Int32).toNatClampNeg) t))] M8 kr
  refine Wf.sPop (tkL_1 (d := 19)) rfl rfl ?_
  refine Wf.sGo (tkL_1 (d := 19)) rfl ?_
  show Wf l (n, xs) uL 20 false (1000, 10000) 1885 [(0, .ref 4999), (1, .ref 1), (2, .ref 150), (3, .ref 167), (4, .int (nI i))] [] M8 kr
  exact h M8 hq15 c13 s14
set_option maxRecDepth 20000 in
theorem lawc_2 (hi : i + 6 ≤ n) (hn : n ≤ 3072) (hL0 : LX M) (h : ∀ M', LX M' → mC M' ≤ mC M + 1 → mS M' ≤ mS M + 6 → Wf l (n, xs) uL 20 false (1000, 10000) 1885 [(0, .ref 4999), (1, .ref 1), (2, .ref 150), (3, .ref 167), (4, .int (nI i))] [] M' kr) : Wf l (n, xs) uL 20 false (1000, 10000) 370 [(0, .ref 4999), (1, .ref 1), (2, .ref 150), (3, .ref 167), (4, .int (nI i))] [] M kr := by
  have c00 : mC M ≤ mC M + 1 := Nat.le_succ _
  have s00 : mS M ≤ mS M + 6 := Nat.le_add_right _ _
  refine Wf.sAl (tkL_2 (d := 19)) rfl rfl rfl ?_
  refine Wf.sCv (as := []) (rest := []) (tkL_2 (d := 19)) rfl rfl (kk_ok hL0.iv rfl) rfl ?_
  refine p6_fault 7 hL0.li (fun x4 M1 hl9 e3 k5 => ?_)
  have hq8 := LX_k hL0 hl9 e3 k5 (by decide +kernel)
  have c6 : mC M1 ≤ mC M + 1 := by rw [mC_1 e3]; exact c00
  have s7 : mS M1 ≤ mS M + 6 := by rw [mS_1 e3]; exact s00
  show Wf l (n, xs) uL 20 false (1000, 10000) 374 [(0, .ref 4999), (1, .ref 1), (2, .ref 150), (3, .ref 167), (4, .int (nI i))] [.int x4] M1 kr
  refine Wf.sPop (tkL_2 (d := 19)) rfl rfl ?_
  refine Wf.sAl (tkL_2 (d := 19)) rfl rfl rfl ?_
  refine Wf.sCv (as := []) (rest := []) (tkL_2 (d := 19)) rfl rfl (kk_ok hq8.iv rfl) rfl ?_
  refine p7_fault 7 hq8.li (fun x13 M10 hl18 e12 k14 => ?_)
  have hq17 := LX_k hq8 hl18 e12 k14 (by decide +kernel)
  have c15 : mC M10 ≤ mC M + 1 := by rw [mC_1 e12]; exact c6
  have s16 : mS M10 ≤ mS M + 6 := by rw [mS_1 e12]; exact s7
  show Wf l (n, xs) uL 20 false (1000, 10000) 379 [(0, .ref 4999), (1, .ref 1), (2, .ref 150), (3, .ref 167), (4, .int (nI i))] [.int x13] M10 kr
  refine Wf.sPop (tkL_2 (d := 19)) rfl rfl ?_
  refine Wf.sGo (tkL_2 (d := 19)) rfl ?_
  show Wf l (n, xs) uL 20 false (1000, 10000) 1885 [(0, .ref 4999), (1, .ref 1), (2, .ref 150), (3, .ref 167), (4, .int (nI i))] [] M10 kr
  exact h M10 hq17 c15 s16
set_option maxRecDepth 20000 in
theorem lawc_3 (hi : i + 6 ≤ n) (hn : n ≤ 3072) (hL0 : LX M) (h : ∀ M', LX M' → mC M' ≤ mC M + 1 → mS M' ≤ mS M + 6 → Wf l (n, xs) uL 20 false (1000, 10000) 1885 [(0, .ref 4999), (1, .ref 1), (2, .ref 150), (3, .ref 167), (4, .int (nI i))] [] M' kr) : Wf l (n, xs) uL 20 false (1000, 10000) 383 [(0, .ref 4999), (1, .ref 1), (2, .ref 150), (3, .ref 167), (4, .int (nI i))] [] M kr := by
  have c00 : mC M ≤ mC M + 1 := Nat.le_succ _
  have s00 : mS M ≤ mS M + 6 := Nat.le_add_right _ _
  refine Wf.sAl (tkL_3 (d := 19)) rfl rfl rfl ?_
  refine Wf.sCv (as := []) (rest := []) (tkL_3 (d := 19)) rfl rfl (kk_ok hL0.iv rfl) rfl ?_
  refine p6_where 7 hL0.li (fun x4 M1 hl9 e3 k5 => ?_)
  have hq8 := LX_k hL0 hl9 e3 k5 (by decide +kernel)
  have c6 : mC M1 ≤ mC M + 1 := by rw [mC_1 e3]; exact c00
  have s7 : mS M1 ≤ mS M + 6 := by rw [mS_1 e3]; exact s00
  show Wf l (n, xs) uL 20 false (1000, 10000) 387 [(0, .ref 4999), (1, .ref 1), (2, .ref 150), (3, .ref 167), (4, .int (nI i))] [.int x4] M1 kr
  refine Wf.sPop (tkL_3 (d := 19)) rfl rfl ?_
  refine Wf.sAl (tkL_3 (d := 19)) rfl rfl rfl ?_
  refine Wf.sCv (as := []) (rest := []) (tkL_3 (d := 19)) rfl rfl (kk_ok hq8.iv rfl) rfl ?_
  refine p7_where 7 hq8.li (fun x13 M10 hl18 e12 k14 => ?_)
  have hq17 := LX_k hq8 hl18 e12 k14 (by decide +kernel)
  have c15 : mC M10 ≤ mC M + 1 := by rw [mC_1 e12]; exact c6
  have s16 : mS M10 ≤ mS M + 6 := by rw [mS_1 e12]; exact s7
  show Wf l (n, xs) uL 20 false (1000, 10000) 392 [(0, .ref 4999), (1, .ref 1), (2, .ref 150), (3, .ref 167), (4, .int (nI i))] [.int x13] M10 kr
  refine Wf.sPop (tkL_3 (d := 19)) rfl rfl ?_
  refine Wf.sGo (tkL_3 (d := 19)) rfl ?_
  show Wf l (n, xs) uL 20 false (1000, 10000) 1885 [(0, .ref 4999), (1, .ref 1), (2, .ref 150), (3, .ref 167), (4, .int (nI i))] [] M10 kr
  exact h M10 hq17 c15 s16
set_option maxRecDepth 20000 in
theorem lawc_4 (hi : i + 6 ≤ n) (hn : n ≤ 3072) (hL0 : LX M) (h : ∀ M', LX M' → mC M' ≤ mC M + 1 → mS M' ≤ mS M + 6 → Wf l (n, xs) uL 20 false (1000, 10000) 1885 [(0, .ref 4999), (1, .ref 1), (2, .ref 150), (3, .ref 167), (4, .int (nI i))] [] M' kr) : Wf l (n, xs) uL 20 false (1000, 10000) 396 [(0, .ref 4999), (1, .ref 1), (2, .ref 150), (3, .ref 167), (4, .int (nI i))] [] M kr := by
  have c00 : mC M ≤ mC M + 1 := Nat.le_succ _
  have s00 : mS M ≤ mS M + 6 := Nat.le_add_right _ _
  refine Wf.sAl (tkL_4 (d := 19)) rfl rfl rfl ?_
  refine Wf.sAl (tkL_4 (d := 19)) rfl rfl rfl ?_
  refine Wf.sIl (tkL_4 (d := 19)) rfl rfl ?_
  refine Wf.sIc (tkL_4 (d := 19)) rfl ?_
  refine Wf.s2 (tkL_4 (d := 19)) rfl ?_
  refine Wf.sScd (tkL_4 (d := 19)) rfl (vi1 hi hn) ?_
  show Wf l (n, xs) uL 20 false (1000, 10000) 403 [(0, .ref 4999), (1, .ref 1), (2, .ref 150), (3, .ref 167), (4, .int (nI i))] [.int (xs (nI i + 1 : Int32).toNatClampNeg), .ref 1] M kr
  refine Wf.sAl (tkL_4 (d := 19)) rfl rfl rfl ?_
  refine Wf.sIl (tkL_4 (d := 19)) rfl rfl ?_
  refine Wf.sIc (tkL_4 (d := 19)) rfl ?_
  refine Wf.s2 (tkL_4 (d := 19)) rfl ?_
  refine Wf.sScd (tkL_4 (d := 19)) rfl (vi2 hi hn) ?_
  show Wf l (n, xs) uL 20 false (1000, 10000) 409 [(0, .ref 4999), (1, .ref 1), (2, .ref 150), (3, .ref 167), (4, .int (nI i))] [.int (xs (nI i + 2 : Int32).toNatClampNeg), .int (xs (nI i + 1 : Int32).toNatClampNeg), .ref 1] M kr
  refine Wf.sCv (as := [.int (xs (nI i + 1 : Int32).toNatClampNeg), .int (xs (nI i + 2 : Int32).toNatClampNeg)]) (rest := []) (tkL_4 (d := 19)) rfl rfl (kk_ok hL0.iv rfl) rfl ?_
  refine p6_face 7 hL0.li (fun x4 M1 hl9 e3 k5 => ?_)
  have hq8 := LX_k hL0 hl9 e3 k5 (by decide +kernel)
  have c6 : mC M1 ≤ mC M + 1 := by rw [mC_1 e3]; exact c00
  have s7 : mS M1 ≤ mS M + 6 := by rw [mS_1 e3]; exact s00
  show Wf l (n, xs) uL 20 false (1000, 10000) 412 [(0, .ref 4999), (1, .ref 1), (2, .ref 150), (3, .ref 167), (4, .int (nI i))] [.int x4] M1 kr
  refine Wf.sPop (tkL_4 (d := 19)) rfl rfl ?_
  refine Wf.sAl (tkL_4 (d := 19)) rfl rfl rfl ?_
  refine Wf.sAl (tkL_4 (d := 19)) rfl rfl rfl ?_
  refine Wf.sIl (tkL_4 (d := 19)) rfl rfl ?_
  refine Wf.sIc (tkL_4 (d := 19)) rfl ?_
  refine Wf.s2 (tkL_4 (d := 19)) rfl ?_
  refine Wf.sScd (tkL_4 (d := 19)) rfl (vi1 hi hn) ?_
  show Wf l (n, xs) uL 20 false (1000, 10000) 420 [(0, .ref 4999), (1, .ref 1), (2, .ref 150), (3, .ref 167), (4, .int (nI i))] [.int (xs (nI i + 1 : Int32).toNatClampNeg), .ref 150] M1 kr
  refine Wf.sAl (tkL_4 (d := 19)) rfl rfl rfl ?_
  refine Wf.sIl (tkL_4 (d := 19)) rfl rfl ?_
  refine Wf.sIc (tkL_4 (d := 19)) rfl ?_
  refine Wf.s2 (tkL_4 (d := 19)) rfl ?_
  refine Wf.sScd (tkL_4 (d := 19)) rfl (vi2 hi hn) ?_
  show Wf l (n, xs) uL 20 false (1000, 10000) 426 [(0, .ref 4999), (1, .ref 1), (2, .ref 150), (3, .ref 167), (4, .int (nI i))] [.int (xs (nI i + 2 : Int32).toNatClampNeg), .int (xs (nI i + 1 : Int32).toNatClampNeg), .ref 150] M1 kr
  refine Wf.sCv (as := [.int (xs (nI i + 1 : Int32).toNatClampNeg), .int (xs (nI i + 2 : Int32).toNatClampNeg)]) (rest := []) (tkL_4 (d := 19)) rfl rfl (kk_ok hq8.iv rfl) rfl ?_
  refine p7_face 7 hq8.li (fun x13 M10 hl18 e12 k14 => ?_)
  have hq17 := LX_k hq8 hl18 e12 k14 (by decide +kernel)
  have c15 : mC M10 ≤ mC M + 1 := by rw [mC_1 e12]; exact c6
  have s16 : mS M10 ≤ mS M + 6 := by rw [mS_1 e12]; exact s7
  show Wf l (n, xs) uL 20 false (1000, 10000) 429 [(0, .ref 4999), (1, .ref 1), (2, .ref 150), (3, .ref 167), (4, .int (nI i))] [.int x13] M10 kr
  refine Wf.sPop (tkL_4 (d := 19)) rfl rfl ?_
  refine Wf.sGo (tkL_4 (d := 19)) rfl ?_
  show Wf l (n, xs) uL 20 false (1000, 10000) 1885 [(0, .ref 4999), (1, .ref 1), (2, .ref 150), (3, .ref 167), (4, .int (nI i))] [] M10 kr
  exact h M10 hq17 c15 s16
set_option maxRecDepth 20000 in
theorem lawc_5 (hi : i + 6 ≤ n) (hn : n ≤ 3072) (hL0 : LX M) (h : ∀ M', LX M' → mC M' ≤ mC M + 1 → mS M' ≤ mS M + 6 → Wf l (n, xs) uL 20 false (1000, 10000) 1885 [(0, .ref 4999), (1, .ref 1), (2, .ref 150), (3, .ref 167), (4, .int (nI i))] [] M' kr) : Wf l (n, xs) uL 20 false (1000, 10000) 433 [(0, .ref 4999), (1, .ref 1), (2, .ref 150), (3, .ref 167), (4, .int (nI i))] [] M kr := by
  have c00 : mC M ≤ mC M + 1 := Nat.le_succ _
  have s00 : mS M ≤ mS M + 6 := Nat.le_add_right _ _
  obtain ⟨o, hv0⟩ := hL0.2
  refine Wf.sAl (tkL_5 (d := 19)) rfl rfl rfl ?_
  refine Wf.sAl (tkL_5 (d := 19)) rfl rfl rfl ?_
  refine Wf.sIl (tkL_5 (d := 19)) rfl rfl ?_
  refine Wf.sIc (tkL_5 (d := 19)) rfl ?_
  refine Wf.s2 (tkL_5 (d := 19)) rfl ?_
  refine Wf.sScd (tkL_5 (d := 19)) rfl (vi1 hi hn) ?_
  show Wf l (n, xs) uL 20 false (1000, 10000) 440 [(0, .ref 4999), (1, .ref 1), (2, .ref 150), (3, .ref 167), (4, .int (nI i))] [.int (xs (nI i + 1 : Int32).toNatClampNeg), .ref 1] M kr
  refine Wf.sAl (tkL_5 (d := 19)) rfl rfl rfl ?_
  refine Wf.sIl (tkL_5 (d := 19)) rfl rfl ?_
  refine Wf.sIc (tkL_5 (d := 19)) rfl ?_
  refine Wf.s2 (tkL_5 (d := 19)) rfl ?_
  refine Wf.sScd (tkL_5 (d := 19)) rfl (vi2 hi hn) ?_
  show Wf l (n, xs) uL 20 false (1000, 10000) 446 [(0, .ref 4999), (1, .ref 1), (2, .ref 150), (3, .ref 167), (4, .int (nI i))] [.int (xs (nI i + 2 : Int32).toNatClampNeg), .int (xs (nI i + 1 : Int32).toNatClampNeg), .ref 1] M kr
  refine Wf.sCv (as := [.int (xs (nI i + 1 : Int32).toNatClampNeg), .int (xs (nI i + 2 : Int32).toNatClampNeg)]) (rest := []) (tkL_5 (d := 19)) rfl rfl (kk_ok hL0.iv rfl) rfl ?_
  refine j6_canon 7 hL0 hv0 (fun M1 hq8 e3 hv10 => ?_)
  have c6 : mC M1 ≤ mC M + 1 := by rw [mC_1 e3]; exact c00
  have s7 : mS M1 ≤ mS M + 6 := by rw [mS_1 e3]; exact s00
  show Wf l (n, xs) uL 20 false (1000, 10000) 449 [(0, .ref 4999), (1, .ref 1), (2, .ref 150), (3, .ref 167), (4, .int (nI i))] [.int (lfq (qCanon (xs (nI i + 1 : Int32).toNatClampNeg) (xs (nI i + 2 : Int32).toNatClampNeg)) (-1) o)] M1 kr
  refine Wf.sAl (tkL_5 (d := 19)) rfl rfl rfl ?_
  refine Wf.sAl (tkL_5 (d := 19)) rfl rfl rfl ?_
  refine Wf.sIl (tkL_5 (d := 19)) rfl rfl ?_
  refine Wf.sIc (tkL_5 (d := 19)) rfl ?_
  refine Wf.s2 (tkL_5 (d := 19)) rfl ?_
  refine Wf.sScd (tkL_5 (d := 19)) rfl (vi1 hi hn) ?_
  show Wf l (n, xs) uL 20 false (1000, 10000) 456 [(0, .ref 4999), (1, .ref 1), (2, .ref 150), (3, .ref 167), (4, .int (nI i))] [.int (xs (nI i + 1 : Int32).toNatClampNeg), .ref 150, .int (lfq (qCanon (xs (nI i + 1 : Int32).toNatClampNeg) (xs (nI i + 2 : Int32).toNatClampNeg)) (-1) o)] M1 kr
  refine Wf.sAl (tkL_5 (d := 19)) rfl rfl rfl ?_
  refine Wf.sIl (tkL_5 (d := 19)) rfl rfl ?_
  refine Wf.sIc (tkL_5 (d := 19)) rfl ?_
  refine Wf.s2 (tkL_5 (d := 19)) rfl ?_
  refine Wf.sScd (tkL_5 (d := 19)) rfl (vi2 hi hn) ?_
  show Wf l (n, xs) uL 20 false (1000, 10000) 462 [(0, .ref 4999), (1, .ref 1), (2, .ref 150), (3, .ref 167), (4, .int (nI i))] [.int (xs (nI i + 2 : Int32).toNatClampNeg), .int (xs (nI i + 1 : Int32).toNatClampNeg), .ref 150, .int (lfq (qCanon (xs (nI i + 1 : Int32).toNatClampNeg) (xs (nI i + 2 : Int32).toNatClampNeg)) (-1) o)] M1 kr
  refine Wf.sCv (as := [.int (xs (nI i + 1 : Int32).toNatClampNeg), .int (xs (nI i + 2 : Int32).toNatClampNeg)]) (rest := [.int (lfq (qCanon (xs (nI i + 1 : Int32).toNatClampNeg) (xs (nI i + 2 : Int32).toNatClampNeg)) (-1) o)]) (tkL_5 (d := 19)) rfl rfl (kk_ok hq8.iv rfl) rfl ?_
  refine j7_canon 7 hq8 hv10 (fun M11 hq18 e13 hv20 => ?_)
  have c16 : mC M11 ≤ mC M + 1 := by rw [mC_1 e13]; exact c6
  have s17 : mS M11 ≤ mS M + 6 := by rw [mS_1 e13]; exact s7
  show Wf l (n, xs) uL 20 false (1000, 10000) 465 [(0, .ref 4999), (1, .ref 1), (2, .ref 150), (3, .ref 167), (4, .int (nI i))] [.int (lfq (qCanon (xs (nI i + 1 : Int32).toNatClampNeg) (xs (nI i + 2 : Int32).toNatClampNeg)) (-1) o), .int (lfq (qCanon (xs (nI i + 1 : Int32).toNatClampNeg) (xs (nI i + 2 : Int32).toNatClampNeg)) (-1) o)] M11 kr
  refine Wf.sCm (tkL_5 (d := 19)) rfl (fun _ => ?_) (fun z => absurd rfl z)
  show Wf l (n, xs) uL 20 false (1000, 10000) 1885 [(0, .ref 4999), (1, .ref 1), (2, .ref 150), (3, .ref 167), (4, .int (nI i))] [] M11 kr
  exact h M11 hq18 c16 s17
set_option maxRecDepth 20000 in
theorem lawc_6 (hi : i + 6 ≤ n) (hn : n ≤ 3072) (hL0 : LX M) (h : ∀ M', LX M' → mC M' ≤ mC M + 1 → mS M' ≤ mS M + 6 → Wf l (n, xs) uL 20 false (1000, 10000) 1885 [(0, .ref 4999), (1, .ref 1), (2, .ref 150), (3, .ref 167), (4, .int (nI i))] [] M' kr) : Wf l (n, xs) uL 20 false (1000, 10000) 470 [(0, .ref 4999), (1, .ref 1), (2, .ref 150), (3, .ref 167), (4, .int (nI i))] [] M kr := by
  have c00 : mC M ≤ mC M + 1 := Nat.le_succ _
  have s00 : mS M ≤ mS M + 6 := Nat.le_add_right _ _
  refine Wf.sAl (tkL_6 (d := 19)) rfl rfl rfl ?_
  refine Wf.sAl (tkL_6 (d := 19)) rfl rfl rfl ?_
  refine Wf.sIl (tkL_6 (d := 19)) rfl rfl ?_
  refine Wf.sIc (tkL_6 (d := 19)) rfl ?_
  refine Wf.s2 (tkL_6 (d := 19)) rfl ?_
  refine Wf.sScd (tkL_6 (d := 19)) rfl (vi1 hi hn) ?_
  show Wf l (n, xs) uL 20 false (1000, 10000) 477 [(0, .ref 4999), (1, .ref 1), (2, .ref 150), (3, .ref 167), (4, .int (nI i))] [.int (xs (nI i + 1 : Int32).toNatClampNeg), .ref 1] M kr
  refine Wf.sAl (tkL_6 (d := 19)) rfl rfl rfl ?_
  refine Wf.sIl (tkL_6 (d := 19)) rfl rfl ?_
  refine Wf.sIc (tkL_6 (d := 19)) rfl ?_
  refine Wf.s2 (tkL_6 (d := 19)) rfl ?_
  refine Wf.sScd (tkL_6 (d := 19)) rfl (vi2 hi hn) ?_
  show Wf l (n, xs) uL 20 false (1000, 10000) 483 [(0, .ref 4999), (1, .ref 1), (2, .ref 150), (3, .ref 167), (4, .int (nI i))] [.int (xs (nI i + 2 : Int32).toNatClampNeg), .int (xs (nI i + 1 : Int32).toNatClampNeg), .ref 1] M kr
  refine Wf.sCv (as := [.int (xs (nI i + 1 : Int32).toNatClampNeg), .int (xs (nI i + 2 : Int32).toNatClampNeg)]) (rest := []) (tkL_6 (d := 19)) rfl rfl (kk_ok hL0.iv rfl) rfl ?_
  refine p6_cell 7 hL0.li (fun x4 M1 hl9 e3 k5 => ?_)
  have hq8 := LX_k hL0 hl9 e3 k5 (by decide +kernel)
  have c6 : mC M1 ≤ mC M + 1 := by rw [mC_1 e3]; exact c00
  have s7 : mS M1 ≤ mS M + 6 := by rw [mS_1 e3]; exact s00
  show Wf l (n, xs) uL 20 false (1000, 10000) 486 [(0, .ref 4999), (1, .ref 1), (2, .ref 150), (3, .ref 167), (4, .int (nI i))] [.int x4] M1 kr
  refine Wf.sPop (tkL_6 (d := 19)) rfl rfl ?_
  refine Wf.sAl (tkL_6 (d := 19)) rfl rfl rfl ?_
  refine Wf.sAl (tkL_6 (d := 19)) rfl rfl rfl ?_
  refine Wf.sIl (tkL_6 (d := 19)) rfl rfl ?_
  refine Wf.sIc (tkL_6 (d := 19)) rfl ?_
  refine Wf.s2 (tkL_6 (d := 19)) rfl ?_
  refine Wf.sScd (tkL_6 (d := 19)) rfl (vi1 hi hn) ?_
  show Wf l (n, xs) uL 20 false (1000, 10000) 494 [(0, .ref 4999), (1, .ref 1), (2, .ref 150), (3, .ref 167), (4, .int (nI i))] [.int (xs (nI i + 1 : Int32).toNatClampNeg), .ref 150] M1 kr
  refine Wf.sAl (tkL_6 (d := 19)) rfl rfl rfl ?_
  refine Wf.sIl (tkL_6 (d := 19)) rfl rfl ?_
  refine Wf.sIc (tkL_6 (d := 19)) rfl ?_
  refine Wf.s2 (tkL_6 (d := 19)) rfl ?_
  refine Wf.sScd (tkL_6 (d := 19)) rfl (vi2 hi hn) ?_
  show Wf l (n, xs) uL 20 false (1000, 10000) 500 [(0, .ref 4999), (1, .ref 1), (2, .ref 150), (3, .ref 167), (4, .int (nI i))] [.int (xs (nI i + 2 : Int32).toNatClampNeg), .int (xs (nI i + 1 : Int32).toNatClampNeg), .ref 150] M1 kr
  refine Wf.sCv (as := [.int (xs (nI i + 1 : Int32).toNatClampNeg), .int (xs (nI i + 2 : Int32).toNatClampNeg)]) (rest := []) (tkL_6 (d := 19)) rfl rfl (kk_ok hq8.iv rfl) rfl ?_
  refine p7_cell 7 hq8.li (fun x13 M10 hl18 e12 k14 => ?_)
  have hq17 := LX_k hq8 hl18 e12 k14 (by decide +kernel)
  have c15 : mC M10 ≤ mC M + 1 := by rw [mC_1 e12]; exact c6
  have s16 : mS M10 ≤ mS M + 6 := by rw [mS_1 e12]; exact s7
  show Wf l (n, xs) uL 20 false (1000, 10000) 503 [(0, .ref 4999), (1, .ref 1), (2, .ref 150), (3, .ref 167), (4, .int (nI i))] [.int x13] M10 kr
  refine Wf.sPop (tkL_6 (d := 19)) rfl rfl ?_
  refine Wf.sGo (tkL_6 (d := 19)) rfl ?_
  show Wf l (n, xs) uL 20 false (1000, 10000) 1885 [(0, .ref 4999), (1, .ref 1), (2, .ref 150), (3, .ref 167), (4, .int (nI i))] [] M10 kr
  exact h M10 hq17 c15 s16
set_option maxRecDepth 20000 in
theorem lawc_7 (hi : i + 6 ≤ n) (hn : n ≤ 3072) (hL0 : LX M) (h : ∀ M', LX M' → mC M' ≤ mC M + 1 → mS M' ≤ mS M + 6 → Wf l (n, xs) uL 20 false (1000, 10000) 1885 [(0, .ref 4999), (1, .ref 1), (2, .ref 150), (3, .ref 167), (4, .int (nI i))] [] M' kr) : Wf l (n, xs) uL 20 false (1000, 10000) 507 [(0, .ref 4999), (1, .ref 1), (2, .ref 150), (3, .ref 167), (4, .int (nI i))] [] M kr := by
  have c00 : mC M ≤ mC M + 1 := Nat.le_succ _
  have s00 : mS M ≤ mS M + 6 := Nat.le_add_right _ _
  refine Wf.sAl (tkL_7 (d := 19)) rfl rfl rfl ?_
  refine Wf.sCv (as := []) (rest := []) (tkL_7 (d := 19)) rfl rfl (kk_ok hL0.iv rfl) rfl ?_
  refine p6_burden 7 hL0.li (fun x4 M1 hl9 e3 k5 => ?_)
  have hq8 := LX_k hL0 hl9 e3 k5 (by decide +kernel)
  have c6 : mC M1 ≤ mC M + 1 := by rw [mC_1 e3]; exact c00
  have s7 : mS M1 ≤ mS M + 6 := by rw [mS_1 e3]; exact s00
  show Wf l (n, xs) uL 20 false (1000, 10000) 511 [(0, .ref 4999), (1, .ref 1), (2, .ref 150), (3, .ref 167), (4, .int (nI i))] [.int x4] M1 kr
  refine Wf.sPop (tkL_7 (d := 19)) rfl rfl ?_
  refine Wf.sAl (tkL_7 (d := 19)) rfl rfl rfl ?_
  refine Wf.sCv (as := []) (rest := []) (tkL_7 (d := 19)) rfl rfl (kk_ok hq8.iv rfl) rfl ?_
  refine p7_burden 7 hq8.li (fun x13 M10 hl18 e12 k14 => ?_)
  have hq17 := LX_k hq8 hl18 e12 k14 (by decide +kernel)
  have c15 : mC M10 ≤ mC M + 1 := by rw [mC_1 e12]; exact c6
  have s16 : mS M10 ≤ mS M + 6 := by rw [mS_1 e12]; exact s7
  show Wf l (n, xs) uL 20 false (1000, 10000) 516 [(0, .ref 4999), (1, .ref 1), (2, .ref 150), (3, .ref 167), (4, .int (nI i))] [.int x13] M10 kr
  refine Wf.sPop (tkL_7 (d := 19)) rfl rfl ?_
  refine Wf.sGo (tkL_7 (d := 19)) rfl ?_
  show Wf l (n, xs) uL 20 false (1000, 10000) 1885 [(0, .ref 4999), (1, .ref 1), (2, .ref 150), (3, .ref 167), (4, .int (nI i))] [] M10 kr
  exact h M10 hq17 c15 s16
end LAWC
