section LAWP
variable {l : Launch} {X : Nat × (Nat → Int32)} {kr : KR}
set_option maxRecDepth 20000 in
/-- the law's beginning: the objects are made -/
theorem law_pre (h : Wf l X uL 20 false (1000, 10000) 23 [(0, .ref 4999), (1, .ref 1), (2, .ref 150), (3, .ref 167), (4, .int 0)] [] (mk (167, 3864) 7 0 I0 (fun _ _ => 0)) kr) : Wf l X uL 20 false (1000, 10000) 0 [(0, .ref 4999)] [] (mkD [] 0 I00) kr := by
  refine OK.go (tkL_P (d := 19) (b := (1000, 10000)) (0, oNew (1000, 10000) 0 6 14) (List.mem_of_getElem? (i := 0) rfl)) ?_
  show Wf l X uL 20 false (1000, 10000) 3 [(0, .ref 4999)] [.ref 1] (wA (mkD [] 0 I00) (6, 0) 14) kr
  rw [wA_D (z := 14) (fun _ => rfl), E0_eq]
  refine OK.go (tkL_P (d := 19) (b := (1000, 10000)) (3, oDup 3) (List.mem_of_getElem? (i := 1) rfl)) ?_
  show Wf l X uL 20 false (1000, 10000) 4 [(0, .ref 4999)] [.ref 1, .ref 1] (mkD E0 14 I00) kr
  refine OK.go (tkL_P (d := 19) (b := (1000, 10000)) (4, oCi l X 19 (1000, 10000) 4 uX6_init 6 148 1873) (List.mem_of_getElem? (i := 2) rfl)) ?_
  show Ev l X uX6_init 19 false 148 1873 [.ref 1] (mkD E0 14 I00) (fun r M' => (mC M' = mC (mkD E0 14 I00) + 148 ∧ mS M' = mS (mkD E0 14 I00) + 1873) ∧ Wf l X uL 20 false (1000, 10000) (4 + 3) [(0, .ref 4999)] (r.toList ++ [.ref 1]) M' kr)
  refine sX6_init (d := 17) ⟨⟨by decide +kernel, by decide +kernel⟩, ?_⟩
  refine OK.go (tkL_P (d := 19) (b := (1000, 10000)) (7, oAs 7 1 1) (List.mem_of_getElem? (i := 3) rfl)) ?_
  show Wf l X uL 20 false (1000, 10000) 8 [(0, .ref 4999), (1, .ref 1)] [] (mkD E29 (14 + 1873) I00) kr
  refine OK.go (tkL_P (d := 19) (b := (1000, 10000)) (8, oNew (1000, 10000) 8 7 44) (List.mem_of_getElem? (i := 4) rfl)) ?_
  show Wf l X uL 20 false (1000, 10000) 11 [(0, .ref 4999), (1, .ref 1)] [.ref 150] (wA (mkD E29 (14 + 1873) I00) (7, 0) 44) kr
  rw [wA_D (z := 44) (fun _ => rfl), G0_eq]
  refine OK.go (tkL_P (d := 19) (b := (1000, 10000)) (11, oDup 11) (List.mem_of_getElem? (i := 5) rfl)) ?_
  show Wf l X uL 20 false (1000, 10000) 12 [(0, .ref 4999), (1, .ref 1)] [.ref 150, .ref 150] (mkD G0 (14 + 1873 + 44) I00) kr
  refine OK.go (tkL_P (d := 19) (b := (1000, 10000)) (12, oCi l X 19 (1000, 10000) 12 uX7_init 7 16 1932) (List.mem_of_getElem? (i := 6) rfl)) ?_
  show Ev l X uX7_init 19 false 16 1932 [.ref 150] (mkD G0 (14 + 1873 + 44) I00) (fun r M' => (mC M' = mC (mkD G0 (14 + 1873 + 44) I00) + 16 ∧ mS M' = mS (mkD G0 (14 + 1873 + 44) I00) + 1932) ∧ Wf l X uL 20 false (1000, 10000) (12 + 3) [(0, .ref 4999), (1, .ref 1)] (r.toList ++ [.ref 150]) M' kr)
  refine sX7_init (d := 18) (by unfold slf; decide +kernel) (by decide +kernel) ?_
  rw [cX7_eq]
  refine ⟨⟨by rfl, by rfl⟩, ?_⟩
  refine OK.go (tkL_P (d := 19) (b := (1000, 10000)) (15, oAs 15 1 2) (List.mem_of_getElem? (i := 7) rfl)) ?_
  show Wf l X uL 20 false (1000, 10000) 16 [(0, .ref 4999), (1, .ref 1), (2, .ref 150)] [] (mkD G16 3863 (u2 I00 150 10 (-1))) kr
  refine OK.go (tkL_P (d := 19) (b := (1000, 10000)) (16, oIc 16 1 1) (List.mem_of_getElem? (i := 8) rfl)) ?_
  show Wf l X uL 20 false (1000, 10000) 17 [(0, .ref 4999), (1, .ref 1), (2, .ref 150)] [.int 1] (mkD G16 3863 (u2 I00 150 10 (-1))) kr
  refine OK.go (tkL_P (d := 19) (b := (1000, 10000)) (17, oNa (1000, 10000) 17 10 1 1) (List.mem_of_getElem? (i := 9) rfl)) ?_
  show ((1 : Int32) = 1 ∧ Wf l X uL 20 false (1000, 10000) 19 [(0, .ref 4999), (1, .ref 1), (2, .ref 150)] [.ref 167] (wA (mkD G16 3863 (u2 I00 150 10 (-1))) (10, 1) 1) kr)
  refine ⟨rfl, ?_⟩
  rw [wA_D (z := 0) (fun j => rfl), GZ_eq]
  refine OK.go (tkL_P (d := 19) (b := (1000, 10000)) (19, oAs 19 1 3) (List.mem_of_getElem? (i := 10) rfl)) ?_
  show Wf l X uL 20 false (1000, 10000) 20 [(0, .ref 4999), (1, .ref 1), (2, .ref 150), (3, .ref 167)] [] (mkD GZ (3863 + 1) (u2 I00 150 10 (-1))) kr
  refine OK.go (tkL_P (d := 19) (b := (1000, 10000)) (20, oIc 20 1 0) (List.mem_of_getElem? (i := 11) rfl)) ?_
  refine OK.go (tkL_P (d := 19) (b := (1000, 10000)) (21, oIs 21 2 4) (List.mem_of_getElem? (i := 12) rfl)) ?_
  show Wf l X uL 20 false (1000, 10000) 23 [(0, .ref 4999), (1, .ref 1), (2, .ref 150), (3, .ref 167), (4, .int 0)] [] (mkD GZ 3864 (u2 I00 150 10 (-1))) kr
  exact Wf.eqv (M' := mk (167, 3864) 7 0 I0 (fun _ _ => 0)) rfl rfl rfl kO_mk (fun g ad => GZ_M) h
end LAWP
section LAWC
variable {l : Launch} {xs : Nat → Int32} {w : Nat × Nat} {L : Nat → Nat → Int64} {kr : KR} {r : Nat} {I : Nat → Nat → Int32} {d : Nat} {X : Nat × (Nat → Int32)} {x1 : Int32}
theorem f7_led (hI : n150 I) (h : kr (some (.int 0)) (mk w 7 r (u2 (jn I) 150 0 1) L)) : Ev l X uX7_led (d + 6) true 0 0 [.ref 150, .int x1] (mk w 7 r I L) kr := by
  rw [jn_of hI]
  refine Ev.of (by decide) (Nat.le_of_ble_eq_true rfl) ?_
  refine Wf.gc tkX7_led [] ?_
  conv => whnf
  refine ⟨fun _ => ?_, fun z => absurd rfl z⟩
  conv => whnf
  exact h
theorem f7_thrown (h : kr (some (.int (I 150 0))) (mk w 7 r I L)) : Ev l X uX7_thrown d true 0 0 [.ref 150] (mk w 7 r I L) kr := by
  refine Ev.of (by decide) (Nat.le_of_ble_eq_true rfl) ?_
  refine Wf.gc tkX7_thrown [] ?_
  conv => whnf
  exact h
theorem vin0 : vp_in (0 : Int32) 6 := by unfold vp_in; decide
theorem vin1 : vp_in ((0 : Int32) + 1) 6 := by unfold vp_in; decide
theorem vin2 : vp_in ((0 : Int32) + 2) 6 := by unfold vp_in; decide
theorem vin3 : vp_in ((0 : Int32) + 3) 6 := by unfold vp_in; decide
theorem vin4 : vp_in ((0 : Int32) + 4) 6 := by unfold vp_in; decide
theorem vin5 : vp_in ((0 : Int32) + 5) 6 := by unfold vp_in; decide
set_option maxRecDepth 20000 in
/-- behind the one call -/
theorem law_tail (h : ∀ M', kr (some (.int 1)) M') (M : Mm) : Wf l (6, xs) uL 20 false (1000, 10000) 1915 [(0, .ref 4999), (1, .ref 1), (2, .ref 150), (3, .ref 167), (4, .int 0)] [] M kr := by
  refine Wf.gc (tkL_T (d := 19)) [23] ?_
  conv => whnf
  refine Wf.gc (tkL_H (d := 19)) [1921] ?_
  conv => whnf
  refine ⟨fun _ => ?_, fun z => absurd (show (Int32.ofNat 6 - 6 : Int32) < 0 + 6 by decide) z⟩
  conv => whnf
  refine Wf.gc (tkL_T (d := 19)) [] ?_
  conv => whnf
  exact ⟨Or.inr rfl, h _⟩
set_option maxRecDepth 20000 in
theorem lawc_0 (h : ∀ M', kr (some (.int 1)) M') : Wf l (6, xs) uL 20 false (1000, 10000) 272 [(0, .ref 4999), (1, .ref 1), (2, .ref 150), (3, .ref 167), (4, .int 0)] [] (mk (167, 3864) 7 0 I0 L) kr := by
  refine Wf.gc (tkL_0 (d := 19)) [1915] ?_
  conv => whnf
  repeat' (first
    | exact law_tail h _
    | (refine ⟨vin1, ?_⟩; conv => whnf)
    | (refine ⟨vin2, ?_⟩; conv => whnf)
    | (refine ⟨vin3, ?_⟩; conv => whnf)
    | (refine ⟨vin4, ?_⟩; conv => whnf)
    | (refine ⟨vin5, ?_⟩; conv => whnf)
    | (refine f6_feed (fun I0' hI0 => ?_); conv => whnf)
    | (refine f7_feed (by assumption) (fun M' => ?_); conv => whnf)
    | (refine ⟨fun _ => ?_, fun z => absurd rfl z⟩; conv => whnf))
set_option maxRecDepth 20000 in
theorem lawc_1 (h : ∀ M', kr (some (.int 1)) M') : Wf l (6, xs) uL 20 false (1000, 10000) 345 [(0, .ref 4999), (1, .ref 1), (2, .ref 150), (3, .ref 167), (4, .int 0)] [] (mk (167, 3864) 7 0 I0 L) kr := by
  refine Wf.gc (tkL_1 (d := 19)) [1915] ?_
  conv => whnf
  repeat' (first
    | exact law_tail h _
    | (refine ⟨vin1, ?_⟩; conv => whnf)
    | (refine ⟨vin2, ?_⟩; conv => whnf)
    | (refine ⟨vin3, ?_⟩; conv => whnf)
    | (refine ⟨vin4, ?_⟩; conv => whnf)
    | (refine ⟨vin5, ?_⟩; conv => whnf)
    | (refine f6_close (fun r0 I0' hI0 => ?_); conv => whnf)
    | (refine f7_close (by assumption) (fun M' => ?_); conv => whnf)
    | (refine ⟨fun _ => ?_, fun z => absurd rfl z⟩; conv => whnf))
set_option maxRecDepth 20000 in
theorem lawc_2 (h : ∀ M', kr (some (.int 1)) M') : Wf l (6, xs) uL 20 false (1000, 10000) 370 [(0, .ref 4999), (1, .ref 1), (2, .ref 150), (3, .ref 167), (4, .int 0)] [] (mk (167, 3864) 7 0 I0 L) kr := by
  refine Wf.gc (tkL_2 (d := 19)) [1915] ?_
  conv => whnf
  repeat' (first
    | exact law_tail h _
    | (refine ⟨vin1, ?_⟩; conv => whnf)
    | (refine ⟨vin2, ?_⟩; conv => whnf)
    | (refine ⟨vin3, ?_⟩; conv => whnf)
    | (refine ⟨vin4, ?_⟩; conv => whnf)
    | (refine ⟨vin5, ?_⟩; conv => whnf)
    | (refine f6_fault (fun I0' hI0 => ?_); conv => whnf)
    | (refine f7_fault (by assumption) (fun M' => ?_); conv => whnf)
    | (refine ⟨fun _ => ?_, fun z => absurd rfl z⟩; conv => whnf))
set_option maxRecDepth 20000 in
theorem lawc_3 (h : ∀ M', kr (some (.int 1)) M') : Wf l (6, xs) uL 20 false (1000, 10000) 383 [(0, .ref 4999), (1, .ref 1), (2, .ref 150), (3, .ref 167), (4, .int 0)] [] (mk (167, 3864) 7 0 I0 L) kr := by
  refine Wf.gc (tkL_3 (d := 19)) [1915] ?_
  conv => whnf
  repeat' (first
    | exact law_tail h _
    | (refine ⟨vin1, ?_⟩; conv => whnf)
    | (refine ⟨vin2, ?_⟩; conv => whnf)
    | (refine ⟨vin3, ?_⟩; conv => whnf)
    | (refine ⟨vin4, ?_⟩; conv => whnf)
    | (refine ⟨vin5, ?_⟩; conv => whnf)
    | (refine f6_where (fun I0' hI0 => ?_); conv => whnf)
    | (refine f7_where (by assumption) (fun M' => ?_); conv => whnf)
    | (refine ⟨fun _ => ?_, fun z => absurd rfl z⟩; conv => whnf))
set_option maxRecDepth 20000 in
theorem lawc_4 (h : ∀ M', kr (some (.int 1)) M') : Wf l (6, xs) uL 20 false (1000, 10000) 396 [(0, .ref 4999), (1, .ref 1), (2, .ref 150), (3, .ref 167), (4, .int 0)] [] (mk (167, 3864) 7 0 I0 L) kr := by
  refine Wf.gc (tkL_4 (d := 19)) [1915] ?_
  conv => whnf
  repeat' (first
    | exact law_tail h _
    | (refine ⟨vin1, ?_⟩; conv => whnf)
    | (refine ⟨vin2, ?_⟩; conv => whnf)
    | (refine ⟨vin3, ?_⟩; conv => whnf)
    | (refine ⟨vin4, ?_⟩; conv => whnf)
    | (refine ⟨vin5, ?_⟩; conv => whnf)
    | (refine f6_face (fun I0' hI0 => ?_); conv => whnf)
    | (refine f7_face (by assumption) (fun M' => ?_); conv => whnf)
    | (refine ⟨fun _ => ?_, fun z => absurd rfl z⟩; conv => whnf))
set_option maxRecDepth 20000 in
theorem lawc_5 (h : ∀ M', kr (some (.int 1)) M') : Wf l (6, xs) uL 20 false (1000, 10000) 433 [(0, .ref 4999), (1, .ref 1), (2, .ref 150), (3, .ref 167), (4, .int 0)] [] (mk (167, 3864) 7 0 I0 L) kr := by
  refine Wf.gc (tkL_5 (d := 19)) [1915] ?_
  conv => whnf
  repeat' (first
    | exact law_tail h _
    | (refine ⟨vin1, ?_⟩; conv => whnf)
    | (refine ⟨vin2, ?_⟩; conv => whnf)
    | (refine ⟨vin3, ?_⟩; conv => whnf)
    | (refine ⟨vin4, ?_⟩; conv => whnf)
    | (refine ⟨vin5, ?_⟩; conv => whnf)
    | (refine f6_canon (fun I0' hI0 => ?_); conv => whnf)
    | (refine f7_canon (by assumption) (fun M' => ?_); conv => whnf)
    | (refine ⟨fun _ => ?_, fun z => absurd rfl z⟩; conv => whnf))
set_option maxRecDepth 20000 in
theorem lawc_6 (h : ∀ M', kr (some (.int 1)) M') : Wf l (6, xs) uL 20 false (1000, 10000) 470 [(0, .ref 4999), (1, .ref 1), (2, .ref 150), (3, .ref 167), (4, .int 0)] [] (mk (167, 3864) 7 0 I0 L) kr := by
  refine Wf.gc (tkL_6 (d := 19)) [1915] ?_
  conv => whnf
  repeat' (first
    | exact law_tail h _
    | (refine ⟨vin1, ?_⟩; conv => whnf)
    | (refine ⟨vin2, ?_⟩; conv => whnf)
    | (refine ⟨vin3, ?_⟩; conv => whnf)
    | (refine ⟨vin4, ?_⟩; conv => whnf)
    | (refine ⟨vin5, ?_⟩; conv => whnf)
    | (refine f6_cell (fun I0' hI0 => ?_); conv => whnf)
    | (refine f7_cell (by assumption) (fun M' => ?_); conv => whnf)
    | (refine ⟨fun _ => ?_, fun z => absurd rfl z⟩; conv => whnf))
set_option maxRecDepth 20000 in
theorem lawc_7 (h : ∀ M', kr (some (.int 1)) M') : Wf l (6, xs) uL 20 false (1000, 10000) 507 [(0, .ref 4999), (1, .ref 1), (2, .ref 150), (3, .ref 167), (4, .int 0)] [] (mk (167, 3864) 7 0 I0 L) kr := by
  refine Wf.gc (tkL_7 (d := 19)) [1915] ?_
  conv => whnf
  repeat' (first
    | exact law_tail h _
    | (refine ⟨vin1, ?_⟩; conv => whnf)
    | (refine ⟨vin2, ?_⟩; conv => whnf)
    | (refine ⟨vin3, ?_⟩; conv => whnf)
    | (refine ⟨vin4, ?_⟩; conv => whnf)
    | (refine ⟨vin5, ?_⟩; conv => whnf)
    | (refine f6_burden (fun I0' hI0 => ?_); conv => whnf)
    | (refine f7_burden (by assumption) (fun M' => ?_); conv => whnf)
    | (refine ⟨fun _ => ?_, fun z => absurd rfl z⟩; conv => whnf))
set_option maxRecDepth 20000 in
theorem lawc_8 (h : ∀ M', kr (some (.int 1)) M') : Wf l (6, xs) uL 20 false (1000, 10000) 520 [(0, .ref 4999), (1, .ref 1), (2, .ref 150), (3, .ref 167), (4, .int 0)] [] (mk (167, 3864) 7 0 I0 L) kr := by
  refine Wf.gc (tkL_8 (d := 19)) [1915] ?_
  conv => whnf
  repeat' (first
    | exact law_tail h _
    | (refine ⟨vin1, ?_⟩; conv => whnf)
    | (refine ⟨vin2, ?_⟩; conv => whnf)
    | (refine ⟨vin3, ?_⟩; conv => whnf)
    | (refine ⟨vin4, ?_⟩; conv => whnf)
    | (refine ⟨vin5, ?_⟩; conv => whnf)
    | (refine f6_bears (fun I0' hI0 => ?_); conv => whnf)
    | (refine f7_bears (by assumption) (fun M' => ?_); conv => whnf)
    | (refine ⟨fun _ => ?_, fun z => absurd rfl z⟩; conv => whnf))
set_option maxRecDepth 20000 in
theorem lawc_9 (h : ∀ M', kr (some (.int 1)) M') : Wf l (6, xs) uL 20 false (1000, 10000) 557 [(0, .ref 4999), (1, .ref 1), (2, .ref 150), (3, .ref 167), (4, .int 0)] [] (mk (167, 3864) 7 0 I0 L) kr := by
  refine Wf.gc (tkL_9 (d := 19)) [1915] ?_
  conv => whnf
  repeat' (first
    | exact law_tail h _
    | (refine ⟨vin1, ?_⟩; conv => whnf)
    | (refine ⟨vin2, ?_⟩; conv => whnf)
    | (refine ⟨vin3, ?_⟩; conv => whnf)
    | (refine ⟨vin4, ?_⟩; conv => whnf)
    | (refine ⟨vin5, ?_⟩; conv => whnf)
    | (refine f6_holds (fun I0' hI0 => ?_); conv => whnf)
    | (refine f7_holds (by assumption) (fun M' => ?_); conv => whnf)
    | (refine ⟨fun _ => ?_, fun z => absurd rfl z⟩; conv => whnf))
set_option maxRecDepth 20000 in
theorem lawc_10 (h : ∀ M', kr (some (.int 1)) M') : Wf l (6, xs) uL 20 false (1000, 10000) 594 [(0, .ref 4999), (1, .ref 1), (2, .ref 150), (3, .ref 167), (4, .int 0)] [] (mk (167, 3864) 7 0 I0 L) kr := by
  refine Wf.gc (tkL_10 (d := 19)) [1915] ?_
  conv => whnf
  repeat' (first
    | exact law_tail h _
    | (refine ⟨vin1, ?_⟩; conv => whnf)
    | (refine ⟨vin2, ?_⟩; conv => whnf)
    | (refine ⟨vin3, ?_⟩; conv => whnf)
    | (refine ⟨vin4, ?_⟩; conv => whnf)
    | (refine ⟨vin5, ?_⟩; conv => whnf)
    | (refine f6_drops (fun I0' hI0 => ?_); conv => whnf)
    | (refine f7_drops (by assumption) (fun M' => ?_); conv => whnf)
    | (refine ⟨fun _ => ?_, fun z => absurd rfl z⟩; conv => whnf))
set_option maxRecDepth 20000 in
theorem lawc_11 (h : ∀ M', kr (some (.int 1)) M') : Wf l (6, xs) uL 20 false (1000, 10000) 631 [(0, .ref 4999), (1, .ref 1), (2, .ref 150), (3, .ref 167), (4, .int 0)] [] (mk (167, 3864) 7 0 I0 L) kr := by
  refine Wf.gc (tkL_11 (d := 19)) [1915] ?_
  conv => whnf
  repeat' (first
    | exact law_tail h _
    | (refine ⟨vin1, ?_⟩; conv => whnf)
    | (refine ⟨vin2, ?_⟩; conv => whnf)
    | (refine ⟨vin3, ?_⟩; conv => whnf)
    | (refine ⟨vin4, ?_⟩; conv => whnf)
    | (refine ⟨vin5, ?_⟩; conv => whnf)
    | (refine f6_dropsIn (fun I0' hI0 => ?_); conv => whnf)
    | (refine f7_dropsIn (by assumption) (fun M' => ?_); conv => whnf)
    | (refine ⟨fun _ => ?_, fun z => absurd rfl z⟩; conv => whnf))
set_option maxRecDepth 20000 in
theorem lawc_12 (h : ∀ M', kr (some (.int 1)) M') : Wf l (6, xs) uL 20 false (1000, 10000) 656 [(0, .ref 4999), (1, .ref 1), (2, .ref 150), (3, .ref 167), (4, .int 0)] [] (mk (167, 3864) 7 0 I0 L) kr := by
  refine Wf.gc (tkL_12 (d := 19)) [1915] ?_
  conv => whnf
  repeat' (first
    | exact law_tail h _
    | (refine ⟨vin1, ?_⟩; conv => whnf)
    | (refine ⟨vin2, ?_⟩; conv => whnf)
    | (refine ⟨vin3, ?_⟩; conv => whnf)
    | (refine ⟨vin4, ?_⟩; conv => whnf)
    | (refine ⟨vin5, ?_⟩; conv => whnf)
    | (refine f6_fallsIn (fun I0' hI0 => ?_); conv => whnf)
    | (refine f7_fallsIn (by assumption) (fun M' => ?_); conv => whnf)
    | (refine ⟨fun _ => ?_, fun z => absurd rfl z⟩; conv => whnf))
set_option maxRecDepth 20000 in
theorem lawc_13 (h : ∀ M', kr (some (.int 1)) M') : Wf l (6, xs) uL 20 false (1000, 10000) 681 [(0, .ref 4999), (1, .ref 1), (2, .ref 150), (3, .ref 167), (4, .int 0)] [] (mk (167, 3864) 7 0 I0 L) kr := by
  refine Wf.gc (tkL_13 (d := 19)) [1915] ?_
  conv => whnf
  repeat' (first
    | exact law_tail h _
    | (refine ⟨vin1, ?_⟩; conv => whnf)
    | (refine ⟨vin2, ?_⟩; conv => whnf)
    | (refine ⟨vin3, ?_⟩; conv => whnf)
    | (refine ⟨vin4, ?_⟩; conv => whnf)
    | (refine ⟨vin5, ?_⟩; conv => whnf)
    | (refine f6_wet (fun I0' hI0 => ?_); conv => whnf)
    | (refine f7_wet (by assumption) (fun M' => ?_); conv => whnf)
    | (refine ⟨fun _ => ?_, fun z => absurd rfl z⟩; conv => whnf))
set_option maxRecDepth 20000 in
theorem lawc_14 (h : ∀ M', kr (some (.int 1)) M') : Wf l (6, xs) uL 20 false (1000, 10000) 706 [(0, .ref 4999), (1, .ref 1), (2, .ref 150), (3, .ref 167), (4, .int 0)] [] (mk (167, 3864) 7 0 I0 L) kr := by
  refine Wf.gc (tkL_14 (d := 19)) [1915] ?_
  conv => whnf
  repeat' (first
    | exact law_tail h _
    | (refine ⟨vin1, ?_⟩; conv => whnf)
    | (refine ⟨vin2, ?_⟩; conv => whnf)
    | (refine ⟨vin3, ?_⟩; conv => whnf)
    | (refine ⟨vin4, ?_⟩; conv => whnf)
    | (refine ⟨vin5, ?_⟩; conv => whnf)
    | (refine f6_wetDays (fun I0' hI0 => ?_); conv => whnf)
    | (refine f7_wetDays (by assumption) (fun M' => ?_); conv => whnf)
    | (refine ⟨fun _ => ?_, fun z => absurd rfl z⟩; conv => whnf))
set_option maxRecDepth 20000 in
theorem lawc_15 (h : ∀ M', kr (some (.int 1)) M') : Wf l (6, xs) uL 20 false (1000, 10000) 743 [(0, .ref 4999), (1, .ref 1), (2, .ref 150), (3, .ref 167), (4, .int 0)] [] (mk (167, 3864) 7 0 I0 L) kr := by
  refine Wf.gc (tkL_15 (d := 19)) [1915] ?_
  conv => whnf
  repeat' (first
    | exact law_tail h _
    | (refine ⟨vin1, ?_⟩; conv => whnf)
    | (refine ⟨vin2, ?_⟩; conv => whnf)
    | (refine ⟨vin3, ?_⟩; conv => whnf)
    | (refine ⟨vin4, ?_⟩; conv => whnf)
    | (refine ⟨vin5, ?_⟩; conv => whnf)
    | (refine f6_wettest (fun I0' hI0 => ?_); conv => whnf)
    | (refine f7_wettest (by assumption) (fun M' => ?_); conv => whnf)
    | (refine ⟨fun _ => ?_, fun z => absurd rfl z⟩; conv => whnf))
set_option maxRecDepth 20000 in
theorem lawc_16 (h : ∀ M', kr (some (.int 1)) M') : Wf l (6, xs) uL 20 false (1000, 10000) 756 [(0, .ref 4999), (1, .ref 1), (2, .ref 150), (3, .ref 167), (4, .int 0)] [] (mk (167, 3864) 7 0 I0 L) kr := by
  refine Wf.gc (tkL_16 (d := 19)) [1915] ?_
  conv => whnf
  repeat' (first
    | exact law_tail h _
    | (refine ⟨vin1, ?_⟩; conv => whnf)
    | (refine ⟨vin2, ?_⟩; conv => whnf)
    | (refine ⟨vin3, ?_⟩; conv => whnf)
    | (refine ⟨vin4, ?_⟩; conv => whnf)
    | (refine ⟨vin5, ?_⟩; conv => whnf)
    | (refine f6_sunny (fun I0' hI0 => ?_); conv => whnf)
    | (refine f7_sunny (by assumption) (fun M' => ?_); conv => whnf)
    | (refine ⟨fun _ => ?_, fun z => absurd rfl z⟩; conv => whnf))
set_option maxRecDepth 20000 in
theorem lawc_17 (h : ∀ M', kr (some (.int 1)) M') : Wf l (6, xs) uL 20 false (1000, 10000) 769 [(0, .ref 4999), (1, .ref 1), (2, .ref 150), (3, .ref 167), (4, .int 0)] [] (mk (167, 3864) 7 0 I0 L) kr := by
  refine Wf.gc (tkL_17 (d := 19)) [1915] ?_
  conv => whnf
  repeat' (first
    | exact law_tail h _
    | (refine ⟨vin1, ?_⟩; conv => whnf)
    | (refine ⟨vin2, ?_⟩; conv => whnf)
    | (refine ⟨vin3, ?_⟩; conv => whnf)
    | (refine ⟨vin4, ?_⟩; conv => whnf)
    | (refine ⟨vin5, ?_⟩; conv => whnf)
    | (refine f6_heaviest (fun I0' hI0 => ?_); conv => whnf)
    | (refine f7_heaviest (by assumption) (fun M' => ?_); conv => whnf)
    | (refine ⟨fun _ => ?_, fun z => absurd rfl z⟩; conv => whnf))
set_option maxRecDepth 20000 in
theorem lawc_18 (h : ∀ M', kr (some (.int 1)) M') : Wf l (6, xs) uL 20 false (1000, 10000) 782 [(0, .ref 4999), (1, .ref 1), (2, .ref 150), (3, .ref 167), (4, .int 0)] [] (mk (167, 3864) 7 0 I0 L) kr := by
  refine Wf.gc (tkL_18 (d := 19)) [1915] ?_
  conv => whnf
  repeat' (first
    | exact law_tail h _
    | (refine ⟨vin1, ?_⟩; conv => whnf)
    | (refine ⟨vin2, ?_⟩; conv => whnf)
    | (refine ⟨vin3, ?_⟩; conv => whnf)
    | (refine ⟨vin4, ?_⟩; conv => whnf)
    | (refine ⟨vin5, ?_⟩; conv => whnf)
    | (refine f6_fallen (fun I0' hI0 => ?_); conv => whnf)
    | (refine f7_fallen (by assumption) (fun M' => ?_); conv => whnf)
    | (refine ⟨fun _ => ?_, fun z => absurd rfl z⟩; conv => whnf))
set_option maxRecDepth 20000 in
theorem lawc_19 (h : ∀ M', kr (some (.int 1)) M') : Wf l (6, xs) uL 20 false (1000, 10000) 807 [(0, .ref 4999), (1, .ref 1), (2, .ref 150), (3, .ref 167), (4, .int 0)] [] (mk (167, 3864) 7 0 I0 L) kr := by
  refine Wf.gc (tkL_19 (d := 19)) [1915] ?_
  conv => whnf
  repeat' (first
    | exact law_tail h _
    | (refine ⟨vin1, ?_⟩; conv => whnf)
    | (refine ⟨vin2, ?_⟩; conv => whnf)
    | (refine ⟨vin3, ?_⟩; conv => whnf)
    | (refine ⟨vin4, ?_⟩; conv => whnf)
    | (refine ⟨vin5, ?_⟩; conv => whnf)
    | (refine f6_dropsIf (fun I0' hI0 => ?_); conv => whnf)
    | (refine f7_dropsIf (by assumption) (fun M' => ?_); conv => whnf)
    | (refine ⟨fun _ => ?_, fun z => absurd rfl z⟩; conv => whnf))
set_option maxRecDepth 20000 in
theorem lawc_20 (h : ∀ M', kr (some (.int 1)) M') : Wf l (6, xs) uL 20 false (1000, 10000) 856 [(0, .ref 4999), (1, .ref 1), (2, .ref 150), (3, .ref 167), (4, .int 0)] [] (mk (167, 3864) 7 0 I0 L) kr := by
  refine Wf.gc (tkL_20 (d := 19)) [1915] ?_
  conv => whnf
  repeat' (first
    | exact law_tail h _
    | (refine ⟨vin1, ?_⟩; conv => whnf)
    | (refine ⟨vin2, ?_⟩; conv => whnf)
    | (refine ⟨vin3, ?_⟩; conv => whnf)
    | (refine ⟨vin4, ?_⟩; conv => whnf)
    | (refine ⟨vin5, ?_⟩; conv => whnf)
    | (refine f6_faceFor (fun I0' hI0 => ?_); conv => whnf)
    | (refine f7_faceFor (by assumption) (fun M' => ?_); conv => whnf)
    | (refine ⟨fun _ => ?_, fun z => absurd rfl z⟩; conv => whnf))
set_option maxRecDepth 20000 in
theorem lawc_21 (h : ∀ M', kr (some (.int 1)) M') : Wf l (6, xs) uL 20 false (1000, 10000) 893 [(0, .ref 4999), (1, .ref 1), (2, .ref 150), (3, .ref 167), (4, .int 0)] [] (mk (167, 3864) 7 0 I0 L) kr := by
  refine Wf.gc (tkL_21 (d := 19)) [1915] ?_
  conv => whnf
  repeat' (first
    | exact law_tail h _
    | (refine ⟨vin1, ?_⟩; conv => whnf)
    | (refine ⟨vin2, ?_⟩; conv => whnf)
    | (refine ⟨vin3, ?_⟩; conv => whnf)
    | (refine ⟨vin4, ?_⟩; conv => whnf)
    | (refine ⟨vin5, ?_⟩; conv => whnf)
    | (refine f6_match (fun I0' hI0 => ?_); conv => whnf)
    | (refine f7_match (by assumption) (fun M' => ?_); conv => whnf)
    | (refine ⟨fun _ => ?_, fun z => absurd rfl z⟩; conv => whnf))
set_option maxRecDepth 20000 in
theorem lawc_22 (h : ∀ M', kr (some (.int 1)) M') : Wf l (6, xs) uL 20 false (1000, 10000) 918 [(0, .ref 4999), (1, .ref 1), (2, .ref 150), (3, .ref 167), (4, .int 0)] [] (mk (167, 3864) 7 0 I0 L) kr := by
  refine Wf.gc (tkL_22 (d := 19)) [1915] ?_
  conv => whnf
  repeat' (first
    | exact law_tail h _
    | (refine ⟨vin1, ?_⟩; conv => whnf)
    | (refine ⟨vin2, ?_⟩; conv => whnf)
    | (refine ⟨vin3, ?_⟩; conv => whnf)
    | (refine ⟨vin4, ?_⟩; conv => whnf)
    | (refine ⟨vin5, ?_⟩; conv => whnf)
    | (refine f6_matchDrops (fun I0' hI0 => ?_); conv => whnf)
    | (refine f7_matchDrops (by assumption) (fun M' => ?_); conv => whnf)
    | (refine ⟨fun _ => ?_, fun z => absurd rfl z⟩; conv => whnf))
set_option maxRecDepth 20000 in
theorem lawc_23 (h : ∀ M', kr (some (.int 1)) M') : Wf l (6, xs) uL 20 false (1000, 10000) 943 [(0, .ref 4999), (1, .ref 1), (2, .ref 150), (3, .ref 167), (4, .int 0)] [] (mk (167, 3864) 7 0 I0 L) kr := by
  refine Wf.gc (tkL_23 (d := 19)) [1915] ?_
  conv => whnf
  repeat' (first
    | exact law_tail h _
    | (refine ⟨vin1, ?_⟩; conv => whnf)
    | (refine ⟨vin2, ?_⟩; conv => whnf)
    | (refine ⟨vin3, ?_⟩; conv => whnf)
    | (refine ⟨vin4, ?_⟩; conv => whnf)
    | (refine ⟨vin5, ?_⟩; conv => whnf)
    | (refine f6_matchAt (fun I0' hI0 => ?_); conv => whnf)
    | (refine f7_matchAt (by assumption) (fun M' => ?_); conv => whnf)
    | (refine ⟨fun _ => ?_, fun z => absurd rfl z⟩; conv => whnf))
set_option maxRecDepth 20000 in
theorem lawc_24 (h : ∀ M', kr (some (.int 1)) M') : Wf l (6, xs) uL 20 false (1000, 10000) 980 [(0, .ref 4999), (1, .ref 1), (2, .ref 150), (3, .ref 167), (4, .int 0)] [] (mk (167, 3864) 7 0 I0 L) kr := by
  refine Wf.gc (tkL_24 (d := 19)) [1915] ?_
  conv => whnf
  repeat' (first
    | exact law_tail h _
    | (refine ⟨vin1, ?_⟩; conv => whnf)
    | (refine ⟨vin2, ?_⟩; conv => whnf)
    | (refine ⟨vin3, ?_⟩; conv => whnf)
    | (refine ⟨vin4, ?_⟩; conv => whnf)
    | (refine ⟨vin5, ?_⟩; conv => whnf)
    | (refine f6_steps (fun I0' hI0 => ?_); conv => whnf)
    | (refine f7_steps (by assumption) (fun M' => ?_); conv => whnf)
    | (refine ⟨fun _ => ?_, fun z => absurd rfl z⟩; conv => whnf))
set_option maxRecDepth 20000 in
theorem lawc_25 (h : ∀ M', kr (some (.int 1)) M') : Wf l (6, xs) uL 20 false (1000, 10000) 1017 [(0, .ref 4999), (1, .ref 1), (2, .ref 150), (3, .ref 167), (4, .int 0)] [] (mk (167, 3864) 7 0 I0 L) kr := by
  refine Wf.gc (tkL_25 (d := 19)) [1915] ?_
  conv => whnf
  repeat' (first
    | exact law_tail h _
    | (refine ⟨vin1, ?_⟩; conv => whnf)
    | (refine ⟨vin2, ?_⟩; conv => whnf)
    | (refine ⟨vin3, ?_⟩; conv => whnf)
    | (refine ⟨vin4, ?_⟩; conv => whnf)
    | (refine ⟨vin5, ?_⟩; conv => whnf)
    | (refine f6_wets (fun I0' hI0 => ?_); conv => whnf)
    | (refine f7_wets (by assumption) (fun M' => ?_); conv => whnf)
    | (refine ⟨fun _ => ?_, fun z => absurd rfl z⟩; conv => whnf))
set_option maxRecDepth 20000 in
theorem lawc_26 (h : ∀ M', kr (some (.int 1)) M') : Wf l (6, xs) uL 20 false (1000, 10000) 1054 [(0, .ref 4999), (1, .ref 1), (2, .ref 150), (3, .ref 167), (4, .int 0)] [] (mk (167, 3864) 7 0 I0 L) kr := by
  refine Wf.gc (tkL_26 (d := 19)) [1915] ?_
  conv => whnf
  repeat' (first
    | exact law_tail h _
    | (refine ⟨vin1, ?_⟩; conv => whnf)
    | (refine ⟨vin2, ?_⟩; conv => whnf)
    | (refine ⟨vin3, ?_⟩; conv => whnf)
    | (refine ⟨vin4, ?_⟩; conv => whnf)
    | (refine ⟨vin5, ?_⟩; conv => whnf)
    | (refine f6_way (fun I0' hI0 => ?_); conv => whnf)
    | (refine f7_way (by assumption) (fun M' => ?_); conv => whnf)
    | (refine ⟨fun _ => ?_, fun z => absurd rfl z⟩; conv => whnf))
set_option maxRecDepth 20000 in
theorem lawc_27 (h : ∀ M', kr (some (.int 1)) M') : Wf l (6, xs) uL 20 false (1000, 10000) 1091 [(0, .ref 4999), (1, .ref 1), (2, .ref 150), (3, .ref 167), (4, .int 0)] [] (mk (167, 3864) 7 0 I0 L) kr := by
  refine Wf.gc (tkL_27 (d := 19)) [1915] ?_
  conv => whnf
  repeat' (first
    | exact law_tail h _
    | (refine ⟨vin1, ?_⟩; conv => whnf)
    | (refine ⟨vin2, ?_⟩; conv => whnf)
    | (refine ⟨vin3, ?_⟩; conv => whnf)
    | (refine ⟨vin4, ?_⟩; conv => whnf)
    | (refine ⟨vin5, ?_⟩; conv => whnf)
    | (refine f6_wayAt (fun I0' hI0 => ?_); conv => whnf)
    | (refine f7_wayAt (by assumption) (fun M' => ?_); conv => whnf)
    | (refine ⟨fun _ => ?_, fun z => absurd rfl z⟩; conv => whnf))
set_option maxRecDepth 20000 in
theorem lawc_28 (h : ∀ M', kr (some (.int 1)) M') : Wf l (6, xs) uL 20 false (1000, 10000) 1140 [(0, .ref 4999), (1, .ref 1), (2, .ref 150), (3, .ref 167), (4, .int 0)] [] (mk (167, 3864) 7 0 I0 L) kr := by
  refine Wf.gc (tkL_28 (d := 19)) [1915] ?_
  conv => whnf
  repeat' (first
    | exact law_tail h _
    | (refine ⟨vin1, ?_⟩; conv => whnf)
    | (refine ⟨vin2, ?_⟩; conv => whnf)
    | (refine ⟨vin3, ?_⟩; conv => whnf)
    | (refine ⟨vin4, ?_⟩; conv => whnf)
    | (refine ⟨vin5, ?_⟩; conv => whnf)
    | (refine f6_dryDay (fun I0' hI0 => ?_); conv => whnf)
    | (refine f7_dryDay (by assumption) (fun M' => ?_); conv => whnf)
    | (refine ⟨fun _ => ?_, fun z => absurd rfl z⟩; conv => whnf))
set_option maxRecDepth 20000 in
theorem lawc_29 (h : ∀ M', kr (some (.int 1)) M') : Wf l (6, xs) uL 20 false (1000, 10000) 1165 [(0, .ref 4999), (1, .ref 1), (2, .ref 150), (3, .ref 167), (4, .int 0)] [] (mk (167, 3864) 7 0 I0 L) kr := by
  refine Wf.gc (tkL_29 (d := 19)) [1915] ?_
  conv => whnf
  repeat' (first
    | exact law_tail h _
    | (refine ⟨vin1, ?_⟩; conv => whnf)
    | (refine ⟨vin2, ?_⟩; conv => whnf)
    | (refine ⟨vin3, ?_⟩; conv => whnf)
    | (refine ⟨vin4, ?_⟩; conv => whnf)
    | (refine ⟨vin5, ?_⟩; conv => whnf)
    | (refine f6_gate (fun I0' hI0 => ?_); conv => whnf)
    | (refine f7_gate (by assumption) (fun M' => ?_); conv => whnf)
    | (refine ⟨fun _ => ?_, fun z => absurd rfl z⟩; conv => whnf))
set_option maxRecDepth 20000 in
theorem lawc_30 (h : ∀ M', kr (some (.int 1)) M') : Wf l (6, xs) uL 20 false (1000, 10000) 1178 [(0, .ref 4999), (1, .ref 1), (2, .ref 150), (3, .ref 167), (4, .int 0)] [] (mk (167, 3864) 7 0 I0 L) kr := by
  refine Wf.gc (tkL_30 (d := 19)) [1915] ?_
  conv => whnf
  repeat' (first
    | exact law_tail h _
    | (refine ⟨vin1, ?_⟩; conv => whnf)
    | (refine ⟨vin2, ?_⟩; conv => whnf)
    | (refine ⟨vin3, ?_⟩; conv => whnf)
    | (refine ⟨vin4, ?_⟩; conv => whnf)
    | (refine ⟨vin5, ?_⟩; conv => whnf)
    | (refine f6_fits (fun I0' hI0 => ?_); conv => whnf)
    | (refine f7_fits (by assumption) (fun M' => ?_); conv => whnf)
    | (refine ⟨fun _ => ?_, fun z => absurd rfl z⟩; conv => whnf))
set_option maxRecDepth 20000 in
theorem lawc_31 (h : ∀ M', kr (some (.int 1)) M') : Wf l (6, xs) uL 20 false (1000, 10000) 1191 [(0, .ref 4999), (1, .ref 1), (2, .ref 150), (3, .ref 167), (4, .int 0)] [] (mk (167, 3864) 7 0 I0 L) kr := by
  refine Wf.gc (tkL_31 (d := 19)) [1915] ?_
  conv => whnf
  repeat' (first
    | exact law_tail h _
    | (refine ⟨vin1, ?_⟩; conv => whnf)
    | (refine ⟨vin2, ?_⟩; conv => whnf)
    | (refine ⟨vin3, ?_⟩; conv => whnf)
    | (refine ⟨vin4, ?_⟩; conv => whnf)
    | (refine ⟨vin5, ?_⟩; conv => whnf)
    | (refine f6_fitAt (fun I0' hI0 => ?_); conv => whnf)
    | (refine f7_fitAt (by assumption) (fun M' => ?_); conv => whnf)
    | (refine ⟨fun _ => ?_, fun z => absurd rfl z⟩; conv => whnf))
set_option maxRecDepth 20000 in
theorem lawc_32 (h : ∀ M', kr (some (.int 1)) M') : Wf l (6, xs) uL 20 false (1000, 10000) 1216 [(0, .ref 4999), (1, .ref 1), (2, .ref 150), (3, .ref 167), (4, .int 0)] [] (mk (167, 3864) 7 0 I0 L) kr := by
  refine Wf.gc (tkL_32 (d := 19)) [1915] ?_
  conv => whnf
  repeat' (first
    | exact law_tail h _
    | (refine ⟨vin1, ?_⟩; conv => whnf)
    | (refine ⟨vin2, ?_⟩; conv => whnf)
    | (refine ⟨vin3, ?_⟩; conv => whnf)
    | (refine ⟨vin4, ?_⟩; conv => whnf)
    | (refine ⟨vin5, ?_⟩; conv => whnf)
    | (refine f6_could (fun I0' hI0 => ?_); conv => whnf)
    | (refine f7_could (by assumption) (fun M' => ?_); conv => whnf)
    | (refine ⟨fun _ => ?_, fun z => absurd rfl z⟩; conv => whnf))
set_option maxRecDepth 20000 in
theorem lawc_33 (h : ∀ M', kr (some (.int 1)) M') : Wf l (6, xs) uL 20 false (1000, 10000) 1229 [(0, .ref 4999), (1, .ref 1), (2, .ref 150), (3, .ref 167), (4, .int 0)] [] (mk (167, 3864) 7 0 I0 L) kr := by
  refine Wf.gc (tkL_33 (d := 19)) [1915] ?_
  conv => whnf
  repeat' (first
    | exact law_tail h _
    | (refine ⟨vin1, ?_⟩; conv => whnf)
    | (refine ⟨vin2, ?_⟩; conv => whnf)
    | (refine ⟨vin3, ?_⟩; conv => whnf)
    | (refine ⟨vin4, ?_⟩; conv => whnf)
    | (refine ⟨vin5, ?_⟩; conv => whnf)
    | (refine f6_surely (fun I0' hI0 => ?_); conv => whnf)
    | (refine f7_surely (by assumption) (fun M' => ?_); conv => whnf)
    | (refine ⟨fun _ => ?_, fun z => absurd rfl z⟩; conv => whnf))
set_option maxRecDepth 20000 in
theorem lawc_34 (h : ∀ M', kr (some (.int 1)) M') : Wf l (6, xs) uL 20 false (1000, 10000) 1242 [(0, .ref 4999), (1, .ref 1), (2, .ref 150), (3, .ref 167), (4, .int 0)] [] (mk (167, 3864) 7 0 I0 L) kr := by
  refine Wf.gc (tkL_34 (d := 19)) [1915] ?_
  conv => whnf
  repeat' (first
    | exact law_tail h _
    | (refine ⟨vin1, ?_⟩; conv => whnf)
    | (refine ⟨vin2, ?_⟩; conv => whnf)
    | (refine ⟨vin3, ?_⟩; conv => whnf)
    | (refine ⟨vin4, ?_⟩; conv => whnf)
    | (refine ⟨vin5, ?_⟩; conv => whnf)
    | (refine f6_ask (fun I0' hI0 => ?_); conv => whnf)
    | (refine f7_ask (by assumption) (fun M' => ?_); conv => whnf)
    | (refine ⟨fun _ => ?_, fun z => absurd rfl z⟩; conv => whnf))
set_option maxRecDepth 20000 in
theorem lawc_35 (h : ∀ M', kr (some (.int 1)) M') : Wf l (6, xs) uL 20 false (1000, 10000) 1255 [(0, .ref 4999), (1, .ref 1), (2, .ref 150), (3, .ref 167), (4, .int 0)] [] (mk (167, 3864) 7 0 I0 L) kr := by
  refine Wf.gc (tkL_35 (d := 19)) [1915] ?_
  conv => whnf
  repeat' (first
    | exact law_tail h _
    | (refine ⟨vin1, ?_⟩; conv => whnf)
    | (refine ⟨vin2, ?_⟩; conv => whnf)
    | (refine ⟨vin3, ?_⟩; conv => whnf)
    | (refine ⟨vin4, ?_⟩; conv => whnf)
    | (refine ⟨vin5, ?_⟩; conv => whnf)
    | (refine f6_askLeaves (fun I0' hI0 => ?_); conv => whnf)
    | (refine f7_askLeaves (by assumption) (fun M' => ?_); conv => whnf)
    | (refine ⟨fun _ => ?_, fun z => absurd rfl z⟩; conv => whnf))
set_option maxRecDepth 20000 in
theorem lawc_36 (h : ∀ M', kr (some (.int 1)) M') : Wf l (6, xs) uL 20 false (1000, 10000) 1268 [(0, .ref 4999), (1, .ref 1), (2, .ref 150), (3, .ref 167), (4, .int 0)] [] (mk (167, 3864) 7 0 I0 L) kr := by
  refine Wf.gc (tkL_36 (d := 19)) [1915] ?_
  conv => whnf
  repeat' (first
    | exact law_tail h _
    | (refine ⟨vin1, ?_⟩; conv => whnf)
    | (refine ⟨vin2, ?_⟩; conv => whnf)
    | (refine ⟨vin3, ?_⟩; conv => whnf)
    | (refine ⟨vin4, ?_⟩; conv => whnf)
    | (refine ⟨vin5, ?_⟩; conv => whnf)
    | (refine f6_judge (fun I0' hI0 => ?_); conv => whnf)
    | (refine f7_judge (by assumption) (fun M' => ?_); conv => whnf)
    | (refine ⟨fun _ => ?_, fun z => absurd rfl z⟩; conv => whnf))
set_option maxHeartbeats 20000000 in
set_option maxRecDepth 20000 in
theorem lawc_37 (h : ∀ M', kr (some (.int 1)) M') : Wf l (6, xs) uL 20 false (1000, 10000) 1281 [(0, .ref 4999), (1, .ref 1), (2, .ref 150), (3, .ref 167), (4, .int 0)] [] (mk (167, 3864) 7 0 I0 L) kr := by
  refine Wf.gc (tkL_37 (d := 19)) [1915] ?_
  conv => whnf
  repeat' (first
    | exact law_tail h _
    | (refine ⟨vin1, ?_⟩; conv => whnf)
    | (refine ⟨vin2, ?_⟩; conv => whnf)
    | (refine ⟨vin3, ?_⟩; conv => whnf)
    | (refine ⟨vin4, ?_⟩; conv => whnf)
    | (refine ⟨vin5, ?_⟩; conv => whnf)
    | (refine f6_sulks (fun I0' hI0 => ?_); conv => whnf)
    | (refine f7_sulks (by assumption) (fun M' => ?_); conv => whnf)
    | (refine ⟨fun _ => ?_, fun z => absurd rfl z⟩; conv => whnf)
    | (refine ⟨fun _ => ?_, fun _ => ?_⟩; conv => whnf)
    | (conv => whnf))
set_option maxRecDepth 20000 in
theorem lawc_38 (h : ∀ M', kr (some (.int 1)) M') : Wf l (6, xs) uL 20 false (1000, 10000) 1390 [(0, .ref 4999), (1, .ref 1), (2, .ref 150), (3, .ref 167), (4, .int 0)] [] (mk (167, 3864) 7 0 I0 L) kr := by
  refine Wf.gc (tkL_38 (d := 19)) [1915] ?_
  conv => whnf
  repeat' (first
    | exact law_tail h _
    | (refine ⟨vin1, ?_⟩; conv => whnf)
    | (refine ⟨vin2, ?_⟩; conv => whnf)
    | (refine ⟨vin3, ?_⟩; conv => whnf)
    | (refine ⟨vin4, ?_⟩; conv => whnf)
    | (refine ⟨vin5, ?_⟩; conv => whnf)
    | (refine f6_rests (fun I0' hI0 => ?_); conv => whnf)
    | (refine f7_rests (by assumption) (fun M' => ?_); conv => whnf)
    | (refine ⟨fun _ => ?_, fun z => absurd rfl z⟩; conv => whnf))
set_option maxRecDepth 20000 in
theorem lawc_39 (h : ∀ M', kr (some (.int 1)) M') : Wf l (6, xs) uL 20 false (1000, 10000) 1415 [(0, .ref 4999), (1, .ref 1), (2, .ref 150), (3, .ref 167), (4, .int 0)] [] (mk (167, 3864) 7 0 I0 L) kr := by
  refine Wf.gc (tkL_39 (d := 19)) [1915] ?_
  conv => whnf
  repeat' (first
    | exact law_tail h _
    | (refine ⟨vin1, ?_⟩; conv => whnf)
    | (refine ⟨vin2, ?_⟩; conv => whnf)
    | (refine ⟨vin3, ?_⟩; conv => whnf)
    | (refine ⟨vin4, ?_⟩; conv => whnf)
    | (refine ⟨vin5, ?_⟩; conv => whnf)
    | (refine f6_rest (fun I0' hI0 => ?_); conv => whnf)
    | (refine f7_rest (by assumption) (fun M' => ?_); conv => whnf)
    | (refine ⟨fun _ => ?_, fun z => absurd rfl z⟩; conv => whnf))
set_option maxRecDepth 20000 in
theorem lawc_40 (h : ∀ M', kr (some (.int 1)) M') : Wf l (6, xs) uL 20 false (1000, 10000) 1440 [(0, .ref 4999), (1, .ref 1), (2, .ref 150), (3, .ref 167), (4, .int 0)] [] (mk (167, 3864) 7 0 I0 L) kr := by
  refine Wf.gc (tkL_40 (d := 19)) [1915] ?_
  conv => whnf
  repeat' (first
    | exact law_tail h _
    | (refine ⟨vin1, ?_⟩; conv => whnf)
    | (refine ⟨vin2, ?_⟩; conv => whnf)
    | (refine ⟨vin3, ?_⟩; conv => whnf)
    | (refine ⟨vin4, ?_⟩; conv => whnf)
    | (refine ⟨vin5, ?_⟩; conv => whnf)
    | (refine f6_odds (fun I0' hI0 => ?_); conv => whnf)
    | (refine f7_odds (by assumption) (fun M' => ?_); conv => whnf)
    | (refine ⟨fun _ => ?_, fun z => absurd rfl z⟩; conv => whnf)
    | (refine ⟨fun _ => ?_, fun _ => ?_⟩; conv => whnf)
    | (conv => whnf))
set_option maxRecDepth 20000 in
theorem lawc_41 (h : ∀ M', kr (some (.int 1)) M') : Wf l (6, xs) uL 20 false (1000, 10000) 1506 [(0, .ref 4999), (1, .ref 1), (2, .ref 150), (3, .ref 167), (4, .int 0)] [] (mk (167, 3864) 7 0 I0 L) kr := by
  refine Wf.gc (tkL_41 (d := 19)) [1915] ?_
  conv => whnf
  repeat' (first
    | exact law_tail h _
    | (refine ⟨vin1, ?_⟩; conv => whnf)
    | (refine ⟨vin2, ?_⟩; conv => whnf)
    | (refine ⟨vin3, ?_⟩; conv => whnf)
    | (refine ⟨vin4, ?_⟩; conv => whnf)
    | (refine ⟨vin5, ?_⟩; conv => whnf)
    | (refine f6_mean (fun I0' hI0 => ?_); conv => whnf)
    | (refine f7_mean (by assumption) (fun M' => ?_); conv => whnf)
    | (refine ⟨fun _ => ?_, fun z => absurd rfl z⟩; conv => whnf)
    | (refine ⟨fun _ => ?_, fun _ => ?_⟩; conv => whnf)
    | (conv => whnf))
set_option maxRecDepth 20000 in
theorem lawc_42 (h : ∀ M', kr (some (.int 1)) M') : Wf l (6, xs) uL 20 false (1000, 10000) 1572 [(0, .ref 4999), (1, .ref 1), (2, .ref 150), (3, .ref 167), (4, .int 0)] [] (mk (167, 3864) 7 0 I0 L) kr := by
  refine Wf.gc (tkL_42 (d := 19)) [1915] ?_
  conv => whnf
  repeat' (first
    | exact law_tail h _
    | (refine ⟨vin1, ?_⟩; conv => whnf)
    | (refine ⟨vin2, ?_⟩; conv => whnf)
    | (refine ⟨vin3, ?_⟩; conv => whnf)
    | (refine ⟨vin4, ?_⟩; conv => whnf)
    | (refine ⟨vin5, ?_⟩; conv => whnf)
    | (refine f6_borne (fun I0' hI0 => ?_); conv => whnf)
    | (refine f7_borne (by assumption) (fun M' => ?_); conv => whnf)
    | (refine ⟨fun _ => ?_, fun z => absurd rfl z⟩; conv => whnf))
set_option maxRecDepth 20000 in
theorem lawc_43 (h : ∀ M', kr (some (.int 1)) M') : Wf l (6, xs) uL 20 false (1000, 10000) 1621 [(0, .ref 4999), (1, .ref 1), (2, .ref 150), (3, .ref 167), (4, .int 0)] [] (mk (167, 3864) 7 0 I0 L) kr := by
  refine Wf.gc (tkL_43 (d := 19)) [1915] ?_
  conv => whnf
  repeat' (first
    | exact law_tail h _
    | (refine ⟨vin1, ?_⟩; conv => whnf)
    | (refine ⟨vin2, ?_⟩; conv => whnf)
    | (refine ⟨vin3, ?_⟩; conv => whnf)
    | (refine ⟨vin4, ?_⟩; conv => whnf)
    | (refine ⟨vin5, ?_⟩; conv => whnf)
    | (refine f6_firstWet (fun I0' hI0 => ?_); conv => whnf)
    | (refine f7_firstWet (by assumption) (fun M' => ?_); conv => whnf)
    | (refine ⟨fun _ => ?_, fun z => absurd rfl z⟩; conv => whnf))
set_option maxRecDepth 20000 in
theorem lawc_44 (h : ∀ M', kr (some (.int 1)) M') : Wf l (6, xs) uL 20 false (1000, 10000) 1658 [(0, .ref 4999), (1, .ref 1), (2, .ref 150), (3, .ref 167), (4, .int 0)] [] (mk (167, 3864) 7 0 I0 L) kr := by
  refine Wf.gc (tkL_44 (d := 19)) [1915] ?_
  conv => whnf
  repeat' (first
    | exact law_tail h _
    | (refine ⟨vin1, ?_⟩; conv => whnf)
    | (refine ⟨vin2, ?_⟩; conv => whnf)
    | (refine ⟨vin3, ?_⟩; conv => whnf)
    | (refine ⟨vin4, ?_⟩; conv => whnf)
    | (refine ⟨vin5, ?_⟩; conv => whnf)
    | (refine f6_day (fun I0' hI0 => ?_); conv => whnf)
    | (refine f7_day (by assumption) (fun M' => ?_); conv => whnf)
    | (refine ⟨fun _ => ?_, fun z => absurd rfl z⟩; conv => whnf))
set_option maxRecDepth 20000 in
theorem lawc_45 (h : ∀ M', kr (some (.int 1)) M') : Wf l (6, xs) uL 20 false (1000, 10000) 1671 [(0, .ref 4999), (1, .ref 1), (2, .ref 150), (3, .ref 167), (4, .int 0)] [] (mk (167, 3864) 7 0 I0 L) kr := by
  refine Wf.gc (tkL_45 (d := 19)) [1915] ?_
  conv => whnf
  repeat' (first
    | exact law_tail h _
    | (refine ⟨vin1, ?_⟩; conv => whnf)
    | (refine ⟨vin2, ?_⟩; conv => whnf)
    | (refine ⟨vin3, ?_⟩; conv => whnf)
    | (refine ⟨vin4, ?_⟩; conv => whnf)
    | (refine ⟨vin5, ?_⟩; conv => whnf)
    | (refine f6_give (fun I0' hI0 => ?_); conv => whnf)
    | (refine f7_give (by assumption) (fun M' => ?_); conv => whnf)
    | (refine ⟨fun _ => ?_, fun z => absurd rfl z⟩; conv => whnf))
set_option maxRecDepth 20000 in
theorem lawc_46 (h : ∀ M', kr (some (.int 1)) M') : Wf l (6, xs) uL 20 false (1000, 10000) 1708 [(0, .ref 4999), (1, .ref 1), (2, .ref 150), (3, .ref 167), (4, .int 0)] [] (mk (167, 3864) 7 0 I0 L) kr := by
  refine Wf.gc (tkL_46 (d := 19)) [1915] ?_
  conv => whnf
  repeat' (first
    | exact law_tail h _
    | (refine ⟨vin1, ?_⟩; conv => whnf)
    | (refine ⟨vin2, ?_⟩; conv => whnf)
    | (refine ⟨vin3, ?_⟩; conv => whnf)
    | (refine ⟨vin4, ?_⟩; conv => whnf)
    | (refine ⟨vin5, ?_⟩; conv => whnf)
    | (refine f6_mend (fun I0' hI0 => ?_); conv => whnf)
    | (refine f7_mend (by assumption) (fun M' => ?_); conv => whnf)
    | (refine ⟨fun _ => ?_, fun z => absurd rfl z⟩; conv => whnf))
set_option maxRecDepth 20000 in
theorem lawc_47 (h : ∀ M', kr (some (.int 1)) M') : Wf l (6, xs) uL 20 false (1000, 10000) 1733 [(0, .ref 4999), (1, .ref 1), (2, .ref 150), (3, .ref 167), (4, .int 0)] [] (mk (167, 3864) 7 0 I0 L) kr := by
  refine Wf.gc (tkL_47 (d := 19)) [1915] ?_
  conv => whnf
  repeat' (first
    | exact law_tail h _
    | (refine ⟨vin1, ?_⟩; conv => whnf)
    | (refine ⟨vin2, ?_⟩; conv => whnf)
    | (refine ⟨vin3, ?_⟩; conv => whnf)
    | (refine ⟨vin4, ?_⟩; conv => whnf)
    | (refine ⟨vin5, ?_⟩; conv => whnf)
    | (refine f6_vex (fun I0' hI0 => ?_); conv => whnf)
    | (refine f7_vex (by assumption) (fun M' => ?_); conv => whnf)
    | (refine ⟨fun _ => ?_, fun z => absurd rfl z⟩; conv => whnf))
set_option maxRecDepth 20000 in
theorem lawc_48 (h : ∀ M', kr (some (.int 1)) M') : Wf l (6, xs) uL 20 false (1000, 10000) 1770 [(0, .ref 4999), (1, .ref 1), (2, .ref 150), (3, .ref 167), (4, .int 0)] [] (mk (167, 3864) 7 0 I0 L) kr := by
  refine Wf.gc (tkL_48 (d := 19)) [1915] ?_
  conv => whnf
  repeat' (first
    | exact law_tail h _
    | (refine ⟨vin1, ?_⟩; conv => whnf)
    | (refine ⟨vin2, ?_⟩; conv => whnf)
    | (refine ⟨vin3, ?_⟩; conv => whnf)
    | (refine ⟨vin4, ?_⟩; conv => whnf)
    | (refine ⟨vin5, ?_⟩; conv => whnf)
    | (refine f6_undo (fun I0' hI0 => ?_); conv => whnf)
    | (refine f7_undo (by assumption) (fun M' => ?_); conv => whnf)
    | (refine ⟨fun _ => ?_, fun z => absurd rfl z⟩; conv => whnf))
set_option maxRecDepth 20000 in
theorem lawc_49 (h : ∀ M', kr (some (.int 1)) M') : Wf l (6, xs) uL 20 false (1000, 10000) 1783 [(0, .ref 4999), (1, .ref 1), (2, .ref 150), (3, .ref 167), (4, .int 0)] [] (mk (167, 3864) 7 0 I0 L) kr := by
  refine Wf.gc (tkL_49 (d := 19)) [1915] ?_
  conv => whnf
  repeat' (first
    | exact law_tail h _
    | (refine ⟨vin1, ?_⟩; conv => whnf)
    | (refine ⟨vin2, ?_⟩; conv => whnf)
    | (refine ⟨vin3, ?_⟩; conv => whnf)
    | (refine ⟨vin4, ?_⟩; conv => whnf)
    | (refine ⟨vin5, ?_⟩; conv => whnf)
    | (refine f6_image (fun I0' hI0 => ?_); conv => whnf)
    | (refine f7_image (by assumption) (fun M' => ?_); conv => whnf)
    | (refine ⟨fun _ => ?_, fun z => absurd rfl z⟩; conv => whnf))
set_option maxRecDepth 20000 in
theorem lawc_50 (h : ∀ M', kr (some (.int 1)) M') : Wf l (6, xs) uL 20 false (1000, 10000) 1796 [(0, .ref 4999), (1, .ref 1), (2, .ref 150), (3, .ref 167), (4, .int 0)] [] (mk (167, 3864) 7 0 I0 L) kr := by
  refine Wf.gc (tkL_50 (d := 19)) [1915] ?_
  conv => whnf
  repeat' (first
    | exact law_tail h _
    | (refine ⟨vin1, ?_⟩; conv => whnf)
    | (refine ⟨vin2, ?_⟩; conv => whnf)
    | (refine ⟨vin3, ?_⟩; conv => whnf)
    | (refine ⟨vin4, ?_⟩; conv => whnf)
    | (refine ⟨vin5, ?_⟩; conv => whnf)
    | (refine f6_back (fun I0' hI0 => ?_); conv => whnf)
    | (refine f7_back (by assumption) (fun M' => ?_); conv => whnf)
    | (refine ⟨fun _ => ?_, fun z => absurd rfl z⟩; conv => whnf))
set_option maxRecDepth 20000 in
theorem lawc_51 (hl0 : l.stackTraces = false) (h : ∀ M', kr (some (.int 1)) M') : Wf l (6, xs) uL 20 false (1000, 10000) 1821 [(0, .ref 4999), (1, .ref 1), (2, .ref 150), (3, .ref 167), (4, .int 0)] [] (mk (167, 3864) 7 0 I0 L) kr := by
  refine Wf.gc (tkL_51 (d := 19)) [1915] ?_
  conv => whnf
  refine ⟨vin1, ?_⟩
  conv => whnf
  have c1 : ∀ kr' : KR, kr' (some (.int 1)) (mk (167 + 1, 3864 + 6) 7 0 I0 L) → EvL l (6, xs) 19 1 6 [.ref 1, .int (xs ((0 : Int32) + 1).toNatClampNeg), .ref 167] (mk (167, 3864) 7 0 I0 L) kr' := fun kr' z => ledL (d := 9) (w := (167, 3864)) hl0 z
  refine c1 _ ⟨⟨rfl, rfl⟩, ?_⟩
  conv => whnf
  refine ⟨vin1, ?_⟩
  conv => whnf
  refine f7_led n150_0 ?_
  conv => whnf
  refine f7_thrown ?_
  conv => whnf
  refine ⟨fun _ => ?_, fun z => absurd rfl z⟩
  conv => whnf
  refine ⟨fun _ => ?_, fun z => absurd z (by decide)⟩
  conv => whnf
  refine Wf.keep [0, 1, 2, 3, 4] ?_
  exact law_tail h _
set_option maxRecDepth 20000 in
theorem lawc_52 (h : ∀ M', kr (some (.int 1)) M') : Wf l (6, xs) uL 20 false (1000, 10000) 1877 [(0, .ref 4999), (1, .ref 1), (2, .ref 150), (3, .ref 167), (4, .int 0)] [] (mk (167, 3864) 7 0 I0 L) kr := by
  refine Wf.gc (tkL_52 (d := 19)) [1915] ?_
  conv => whnf
  repeat' (first
    | exact law_tail h _
    | (refine ⟨vin1, ?_⟩; conv => whnf)
    | (refine ⟨vin2, ?_⟩; conv => whnf)
    | (refine ⟨vin3, ?_⟩; conv => whnf)
    | (refine ⟨vin4, ?_⟩; conv => whnf)
    | (refine ⟨vin5, ?_⟩; conv => whnf)
    | (refine f6_size (fun I0' hI0 => ?_); conv => whnf)
    | (refine f7_size (by assumption) (fun M' => ?_); conv => whnf)
    | (refine ⟨fun _ => ?_, fun z => absurd rfl z⟩; conv => whnf))
set_option maxRecDepth 20000 in
theorem lawc_53 (h : ∀ M', kr (some (.int 1)) M') : Wf l (6, xs) uL 20 false (1000, 10000) 1902 [(0, .ref 4999), (1, .ref 1), (2, .ref 150), (3, .ref 167), (4, .int 0)] [] (mk (167, 3864) 7 0 I0 L) kr := by
  refine Wf.gc (tkL_53 (d := 19)) [1915] ?_
  conv => whnf
  repeat' (first
    | exact law_tail h _
    | (refine ⟨vin1, ?_⟩; conv => whnf)
    | (refine ⟨vin2, ?_⟩; conv => whnf)
    | (refine ⟨vin3, ?_⟩; conv => whnf)
    | (refine ⟨vin4, ?_⟩; conv => whnf)
    | (refine ⟨vin5, ?_⟩; conv => whnf)
    | (refine f6_trouble (fun I0' hI0 => ?_); conv => whnf)
    | (refine f7_trouble (by assumption) (fun M' => ?_); conv => whnf)
    | (refine ⟨fun _ => ?_, fun z => absurd rfl z⟩; conv => whnf))
end LAWC
