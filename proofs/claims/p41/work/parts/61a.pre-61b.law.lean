section
/-! the law's beginning, its loop -/
section LAWP
variable {l : Launch} {X : Nat × (Nat → Int32)} {kr : KR}
noncomputable def MZ : Mm := mkD GZ 3864 (u2 I00 150 10 (-1))
set_option maxRecDepth 20000 in
/-- the law's beginning: the objects are made -/
theorem law_pre (h : Wf l X uL 20 false (1000, 10000) 23 [(0, .ref 4999), (1, .ref 1), (2, .ref 150), (3, .ref 167), (4, .int 0)] [] MZ kr) : Wf l X uL 20 false (1000, 10000) 0 [(0, .ref 4999)] [] (mkD [] 0 I00) kr := by
  refine OK.go (tkL_P (d := 19) (b := (1000, 10000)) (0, oNew (1000, 10000) 0 6 14) (List.mem_of_getElem? (i := 0) rfl)) ?_
  show Wf l X uL 20 false (1000, 10000) 3 [(0, .ref 4999)] [.ref 1] (wA (mkD [] 0 I00) (6, 0) 14) kr
  rw [wA_D (z := 14) (fun _ => rfl), E0_eq]
  refine OK.go (tkL_P (d := 19) (b := (1000, 10000)) (3, oDup 3) (List.mem_of_getElem? (i := 1) rfl)) ?_
  show Wf l X uL 20 false (1000, 10000) 4 [(0, .ref 4999)] [.ref 1, .ref 1] (mkD E0 14 I00) kr
  refine OK.go (tkL_P (d := 19) (b := (1000, 10000)) (4, oCi l X 19 (1000, 10000) 4 uX6_init 6 148 1873) (List.mem_of_getElem? (i := 2) rfl)) ?_
  show Ev l X uX6_init 19 false 148 1873 [.ref 1] (mkD E0 14 I00) (fun r M' => (mC M' = mC (mkD E0 14 I00) + 148 ∧ mS M' = mS (mkD E0 14 I00) + 1873) ∧ Wf l X uL 20 false (1000, 10000) (4 + 3) [(0, .ref 4999)] (r.toList ++ [.ref 1]) M' kr)
  refine sX6_init (d := 17) ⟨⟨by decide +kernel, by decide +kernel⟩, ?_⟩
  refine OK.go (tkL_P (d := 19) (b := (1000, 10000)) (7, oAs 7 1 1) (List.mem_of_getElem? (i := 3) rfl)) ?_
  show Wf l X uL 20 false (1000, 10000) 8 [(0, .ref 4999), (1, .ref 1)] [] (mkD E29 (14 + 1873) I00) kr
  refine OK.go (tkL_P (d := 19) (b := (1000, 10000)) (8, oNew (1000, 10000) 8 7 44) (List.mem_of_getElem? (i := 4) rfl)) ?_
  show Wf l X uL 20 false (1000, 10000) 11 [(0, .ref 4999), (1, .ref 1)] [.ref 150] (wA (mkD E29 (14 + 1873) I00) (7, 0) 44) kr
  rw [wA_D (z := 44) (fun _ => rfl), G0_eq]
  refine OK.go (tkL_P (d := 19) (b := (1000, 10000)) (11, oDup 11) (List.mem_of_getElem? (i := 5) rfl)) ?_
  show Wf l X uL 20 false (1000, 10000) 12 [(0, .ref 4999), (1, .ref 1)] [.ref 150, .ref 150] (mkD G0 (14 + 1873 + 44) I00) kr
  refine OK.go (tkL_P (d := 19) (b := (1000, 10000)) (12, oCi l X 19 (1000, 10000) 12 uX7_init 7 16 1932) (List.mem_of_getElem? (i := 6) rfl)) ?_
  show Ev l X uX7_init 19 false 16 1932 [.ref 150] (mkD G0 (14 + 1873 + 44) I00) (fun r M' => (mC M' = mC (mkD G0 (14 + 1873 + 44) I00) + 16 ∧ mS M' = mS (mkD G0 (14 + 1873 + 44) I00) + 1932) ∧ Wf l X uL 20 false (1000, 10000) (12 + 3) [(0, .ref 4999), (1, .ref 1)] (r.toList ++ [.ref 150]) M' kr)
  refine sX7_init (d := 18) (by unfold slf; decide +kernel) (by decide +kernel) ?_
  rw [cX7_eq]
  refine ⟨⟨by rfl, by rfl⟩, ?_⟩
  refine OK.go (tkL_P (d := 19) (b := (1000, 10000)) (15, oAs 15 1 2) (List.mem_of_getElem? (i := 7) rfl)) ?_
  show Wf l X uL 20 false (1000, 10000) 16 [(0, .ref 4999), (1, .ref 1), (2, .ref 150)] [] (mkD G16 3863 (u2 I00 150 10 (-1))) kr
  refine OK.go (tkL_P (d := 19) (b := (1000, 10000)) (16, oIc 16 1 1) (List.mem_of_getElem? (i := 8) rfl)) ?_
  show Wf l X uL 20 false (1000, 10000) 17 [(0, .ref 4999), (1, .ref 1), (2, .ref 150)] [.int 1] (mkD G16 3863 (u2 I00 150 10 (-1))) kr
  refine OK.go (tkL_P (d := 19) (b := (1000, 10000)) (17, oNa (1000, 10000) 17 10 1 1) (List.mem_of_getElem? (i := 9) rfl)) ?_
  show ((1 : Int32) = 1 ∧ Wf l X uL 20 false (1000, 10000) 19 [(0, .ref 4999), (1, .ref 1), (2, .ref 150)] [.ref 167] (wA (mkD G16 3863 (u2 I00 150 10 (-1))) (10, 1) 1) kr)
  refine ⟨rfl, ?_⟩
  rw [wA_D (z := 0) (fun j => rfl), GZ_eq]
  refine OK.go (tkL_P (d := 19) (b := (1000, 10000)) (19, oAs 19 1 3) (List.mem_of_getElem? (i := 10) rfl)) ?_
  show Wf l X uL 20 false (1000, 10000) 20 [(0, .ref 4999), (1, .ref 1), (2, .ref 150), (3, .ref 167)] [] (mkD GZ (3863 + 1) (u2 I00 150 10 (-1))) kr
  refine OK.go (tkL_P (d := 19) (b := (1000, 10000)) (20, oIc 20 1 0) (List.mem_of_getElem? (i := 11) rfl)) ?_
  refine OK.go (tkL_P (d := 19) (b := (1000, 10000)) (21, oIs 21 2 4) (List.mem_of_getElem? (i := 12) rfl)) ?_
  show Wf l X uL 20 false (1000, 10000) 23 [(0, .ref 4999), (1, .ref 1), (2, .ref 150), (3, .ref 167), (4, .int 0)] [] (mkD GZ 3864 (u2 I00 150 10 (-1))) kr
  exact h
end LAWP
section START
noncomputable def zrw (R : List (Nat × List Row)) : Bool := (List.range 168).all (fun a => (lkR R a).all (fun r => decide (r.2.2.1 ≤ 0) && decide (0 ≤ r.2.2.2)))
theorem rw_z {t : List Row} {k : Nat} : (t.all (fun r => decide (r.2.2.1 ≤ 0) && decide (0 ≤ r.2.2.2)) = true) → (rwB t k).1 ≤ 0 ∧ 0 ≤ (rwB t k).2 := by
  induction t with
  | nil => intro _; exact ⟨show iLo ≤ 0 by decide, show 0 ≤ iHi by decide⟩
  | cons r t ih =>
    intro h
    obtain ⟨h1, h2⟩ := andT h
    show (cond (rIn r k) (r.2.2.1, r.2.2.2) (rwB t k)).1 ≤ 0 ∧ 0 ≤ (cond (rIn r k) (r.2.2.1, r.2.2.2) (rwB t k)).2
    cases hr : rIn r k with
    | true => obtain ⟨h3, h4⟩ := andT h1; exact ⟨of_decide_eq_true h3, of_decide_eq_true h4⟩
    | false => exact ih h2
theorem mz_k : ∀ a, a < 168 → kd GZ a = kdT a := by decide +kernel
theorem mz_r : ∀ a, a < 168 → ∀ k, k < 60 → rd GZ a k ∈ rfN a k := by decide +kernel
theorem mz_l : ∀ a, a < 168 → ((GZ.getD (a - 1) (0, 0, [])).2.2).length ≤ 50 ∧ (rfT a).length ≤ 50 := by decide +kernel
theorem gd_z {t : List Nat} {k : Nat} (h : t.length ≤ k) : t.getD k 0 = 0 := by
  rw [List.getD_eq_getElem?_getD, List.getElem?_eq_none h]
  rfl
theorem mz_R {a k : Nat} (ha : a ≤ 167) : mR MZ a k ∈ rfN a k := by
  rcases Nat.lt_or_ge k 60 with h | h
  · exact mz_r a (by omega) k h
  · obtain ⟨l1, l2⟩ := mz_l a (by omega)
    have e2 : (rfT a).getD k 0 = 0 := gd_z (by omega)
    have e1 : rd GZ a k = 0 := by
      cases a with
      | zero => rfl
      | succ b => exact gd_z (t := (GZ.getD b (0, 0, [])).2.2) (Nat.le_trans l1 (by omega))
    show rd GZ a k ∈ rfN a k
    have e3 : rfN a k = [0] := by
      show cond (Nat.beq a 1 && (Nat.beq k 1 || Nat.beq k 2)) [7, 20] (cond (Nat.beq a 2 && Nat.beq k 3) [0, 7, 20] [(rfT a).getD k 0]) = [0]
      have q : ∀ c, c < 60 → Nat.beq k c = false := fun c hc => by
        cases hq : Nat.beq k c with
        | false => rfl
        | true => have := Nat.eq_of_beq_eq_true hq; omega
      rw [q 1 (by decide), q 2 (by decide), q 3 (by decide), e2]
      simp
    rw [e1, e3]
    exact List.mem_singleton.mpr rfl
theorem mz_I {R : List (Nat × List Row)} (h0 : zrw R = true) (h1 : rwB (lkR R 150) 10 = (iLo, iHi)) {a k : Nat} (ha : a ≤ 167) : (rwB (lkR R a) k).1 ≤ (mI MZ a k).toInt ∧ (mI MZ a k).toInt ≤ (rwB (lkR R a) k).2 := by
  by_cases e : a = 150 ∧ k = 10
  · obtain ⟨rfl, rfl⟩ := e
    rw [h1]
    exact ⟨i32_lo _, i32_hi _⟩
  · have e2 : mI MZ a k = 0 := by
      show (if a = 150 ∧ k = 10 then (-1 : Int32) else 0) = 0
      rw [if_neg e]
    rw [e2]
    exact rw_z (List.all_eq_true.mp h0 a (List.mem_range.mpr (by omega)))
theorem mz_n : 167 ≤ mN MZ := by
  show 167 ≤ GZ.length
  decide +kernel
theorem mz_g : GZ.length = 167 := by decide +kernel
theorem mz_c : 6 * mC MZ ≤ 1002 + 0 := by
  have e : mC MZ = 167 := mz_g
  rw [e]
  decide
theorem mz_Iv {R : List (Nat × List Row)} (h0 : zrw R = true) (h1 : rwB (lkR R 150) 10 = (iLo, iHi)) : Iv (mkP R) MZ :=
  ⟨mz_n, fun a ha => mz_k a (by omega), fun a k ha => mz_R ha, fun a k ha => mz_I h0 h1 ha⟩
set_option maxRecDepth 20000 in
theorem LI_MZ : LI MZ := ⟨mz_Iv (R := rwt8) (by decide +kernel) rfl, ⟨1, ⟨by decide, fun _ c _ h5 => by
  have e : (mI MZ 153 5).toInt = 0 := by decide +kernel
  rw [e] at h5
  omega⟩, mz_Iv (R := rwt6) (by decide +kernel) rfl⟩, 0, Nat.zero_le _, rfl, rfl⟩
theorem FM_MZ : FM MZ := ⟨mz_g, by decide +kernel⟩
theorem LQ_MZ : LQ MZ := ⟨⟨LI_MZ.1, LI_MZ.2.1, FM_MZ⟩, ⟨0, fun _ => 0, Nat.zero_le _, ⟨rfl, fun i hi => absurd hi (Nat.not_lt_zero _)⟩, rfl, fun i hi => absurd hi (Nat.not_lt_zero _)⟩, rfl⟩
theorem LR_MZ : LR MZ := by
  have e : mR MZ 1 1 = 7 := by decide +kernel
  refine ⟨LQ_MZ, Or.inl ⟨rfl, ?_⟩⟩
  rw [e]
  rfl
end START
end
section
/-! the law's loop -/
section LAWW
variable {l : Launch} {kr : KR} {xs : Nat → Int32} {i n : Nat} {M : Mm}
theorem nI_6 (i : Nat) : nI i + 6 = nI (i + 6) := nI_add i 6
set_option maxRecDepth 20000 in
theorem law_end (h : ∀ M', kr (some (.int 1)) M') : Wf l (n, xs) uL 20 false (1000, 10000) 1891 [(0, .ref 4999), (1, .ref 1), (2, .ref 150), (3, .ref 167), (4, .int (nI i))] [] M kr := by
  refine Wf.sIc (tkL_T (d := 19)) rfl ?_
  exact Wf.sZr (tkL_T (d := 19)) rfl (Or.inr rfl) (h M)
set_option maxRecDepth 20000 in
theorem law_tail (h : Wf l (n, xs) uL 20 false (1000, 10000) 23 [(0, .ref 4999), (1, .ref 1), (2, .ref 150), (3, .ref 167), (4, .int (nI (i + 6)))] [] M kr) : Wf l (n, xs) uL 20 false (1000, 10000) 1885 [(0, .ref 4999), (1, .ref 1), (2, .ref 150), (3, .ref 167), (4, .int (nI i))] [] M kr := by
  refine Wf.sInc (tkL_T (d := 19)) (ls' := [(0, .ref 4999), (1, .ref 1), (2, .ref 150), (3, .ref 167), (4, .int (nI (i + 6)))]) rfl rfl (by rw [← nI_6]; rfl) ?_
  refine Wf.sGo (tkL_T (d := 19)) rfl ?_
  exact h
set_option maxRecDepth 20000 in
/-- one turn -/
theorem law_turn (hl0 : l.stackTraces = false) (hn : n ≤ 3072) (hi : i ≤ n) (hL : LR M) (hC : 6 * mC M ≤ 1002 + i) (hS : mS M ≤ 3864 + i) (h : ∀ M', kr (some (.int 1)) M') (k : i + 6 ≤ n → ∀ M', LR M' → mC M' ≤ mC M + 1 → mS M' ≤ mS M + 6 → Wf l (n, xs) uL 20 false (1000, 10000) 23 [(0, .ref 4999), (1, .ref 1), (2, .ref 150), (3, .ref 167), (4, .int (nI (i + 6)))] [] M' kr) : Wf l (n, xs) uL 20 false (1000, 10000) 23 [(0, .ref 4999), (1, .ref 1), (2, .ref 150), (3, .ref 167), (4, .int (nI i))] [] M kr := by
  refine Wf.sIl (tkL_H (d := 19)) rfl rfl ?_
  refine Wf.sAl (tkL_H (d := 19)) rfl rfl rfl ?_
  refine Wf.sScl (tkL_H (d := 19)) rfl ?_
  refine Wf.sIc (tkL_H (d := 19)) rfl ?_
  refine Wf.s2 (tkL_H (d := 19)) rfl ?_
  show Wf l (n, xs) uL 20 false (1000, 10000) 30 [(0, .ref 4999), (1, .ref 1), (2, .ref 150), (3, .ref 167), (4, .int (nI i))] [.int (nI n - 6), .int (nI i)] M kr
  refine Wf.sCm (tkL_H (d := 19)) rfl (fun _ => law_end h) (fun z => ?_)
  have z : ¬ (nI n - 6 : Int32) < nI i := z
  rw [hd_gt hi hn] at z
  have h6 : i + 6 ≤ n := by omega
  have k := k h6
  refine Wf.sAl (tkL_H (d := 19)) rfl rfl rfl ?_
  refine Wf.sIl (tkL_H (d := 19)) rfl rfl ?_
  refine Wf.sScd (tkL_H (d := 19)) rfl (vi0 h6 hn) ?_
  refine Wf.sIc (tkL_H (d := 19)) rfl ?_
  refine Wf.s2 (tkL_H (d := 19)) rfl ?_
  refine Wf.sTs (tkL_H (d := 19)) rfl (fun j t hj _ => ?_) (law_tail (k M hL (Nat.le_succ _) (Nat.le_add_right _ _)))
  have tl : ∀ M', LR M' → mC M' ≤ mC M + 1 → mS M' ≤ mS M + 6 → Wf l (n, xs) uL 20 false (1000, 10000) 1885 [(0, .ref 4999), (1, .ref 1), (2, .ref 150), (3, .ref 167), (4, .int (nI i))] [] M' kr := fun M' a b c => law_tail (k M' a b c)
  have hlt : j < 54 := by
    rcases Nat.lt_or_ge j 54 with z | z
    · exact z
    · rw [List.getElem?_eq_none (by simpa using z)] at hj
      cases hj
  rcases (show j = 0 ∨ j = 1 ∨ j = 2 ∨ j = 3 ∨ j = 4 ∨ j = 5 ∨ j = 6 ∨ j = 7 ∨ j = 8 ∨ j = 9 ∨ j = 10 ∨ j = 11 ∨ j = 12 ∨ j = 13 ∨ j = 14 ∨ j = 15 ∨ j = 16 ∨ j = 17 ∨ j = 18 ∨ j = 19 ∨ j = 20 ∨ j = 21 ∨ j = 22 ∨ j = 23 ∨ j = 24 ∨ j = 25 ∨ j = 26 ∨ j = 27 ∨ j = 28 ∨ j = 29 ∨ j = 30 ∨ j = 31 ∨ j = 32 ∨ j = 33 ∨ j = 34 ∨ j = 35 ∨ j = 36 ∨ j = 37 ∨ j = 38 ∨ j = 39 ∨ j = 40 ∨ j = 41 ∨ j = 42 ∨ j = 43 ∨ j = 44 ∨ j = 45 ∨ j = 46 ∨ j = 47 ∨ j = 48 ∨ j = 49 ∨ j = 50 ∨ j = 51 ∨ j = 52 ∨ j = 53 by omega) with rfl | rfl | rfl | rfl | rfl | rfl | rfl | rfl | rfl | rfl | rfl | rfl | rfl | rfl | rfl | rfl | rfl | rfl | rfl | rfl | rfl | rfl | rfl | rfl | rfl | rfl | rfl | rfl | rfl | rfl | rfl | rfl | rfl | rfl | rfl | rfl | rfl | rfl | rfl | rfl | rfl | rfl | rfl | rfl | rfl | rfl | rfl | rfl | rfl | rfl | rfl | rfl | rfl | rfl
  · cases hj
    exact lawc_0 h6 hn hL tl
  · cases hj
    exact lawc_1 h6 hn hL tl
  · cases hj
    exact lawc_2 h6 hn hL tl
  · cases hj
    exact lawc_3 h6 hn hL tl
  · cases hj
    exact lawc_4 h6 hn hL tl
  · cases hj
    exact lawc_5 h6 hn hL tl
  · cases hj
    exact lawc_6 h6 hn hL tl
  · cases hj
    exact lawc_7 h6 hn hL tl
  · cases hj
    exact lawc_8 h6 hn hL tl
  · cases hj
    exact lawc_9 h6 hn hL tl
  · cases hj
    exact lawc_10 h6 hn hL tl
  · cases hj
    exact lawc_11 h6 hn hL tl
  · cases hj
    exact lawc_12 h6 hn hL tl
  · cases hj
    exact lawc_13 h6 hn hL tl
  · cases hj
    exact lawc_14 h6 hn hL tl
  · cases hj
    exact lawc_15 h6 hn hL tl
  · cases hj
    exact lawc_16 h6 hn hL tl
  · cases hj
    exact lawc_17 h6 hn hL tl
  · cases hj
    exact lawc_18 h6 hn hL tl
  · cases hj
    exact lawc_19 h6 hn hL tl
  · cases hj
    exact lawc_20 h6 hn hL tl
  · cases hj
    exact lawc_21 h6 hn hL tl
  · cases hj
    exact lawc_22 h6 hn hL tl
  · cases hj
    exact lawc_23 h6 hn hL tl
  · cases hj
    exact lawc_24 h6 hn hL tl
  · cases hj
    exact lawc_25 h6 hn hL tl
  · cases hj
    exact lawc_26 h6 hn hL tl
  · cases hj
    exact lawc_27 h6 hn hL tl
  · cases hj
    exact lawc_28 h6 hn hL tl
  · cases hj
    exact lawc_29 h6 hn hL tl
  · cases hj
    exact lawc_30 h6 hn hL tl
  · cases hj
    exact lawc_31 h6 hn hL tl
  · cases hj
    exact lawc_32 h6 hn hL tl
  · cases hj
    exact lawc_33 h6 hn hL tl
  · cases hj
    exact lawc_34 h6 hn hL tl
  · cases hj
    exact lawc_35 h6 hn hL tl
  · cases hj
    exact lawc_36 h6 hn hL tl
  · cases hj
    exact lawc_37 h6 hn hL tl
  · cases hj
    exact lawc_38 h6 hn hL tl
  · cases hj
    exact lawc_39 h6 hn hL tl
  · cases hj
    exact lawc_40 h6 hn hL tl
  · cases hj
    exact lawc_41 h6 hn hL tl
  · cases hj
    exact lawc_42 h6 hn hL tl
  · cases hj
    exact lawc_43 h6 hn hL tl
  · cases hj
    exact lawc_44 h6 hn hL tl
  · cases hj
    exact lawc_45 h6 hn hL tl
  · cases hj
    exact lawc_46 h6 hn hL tl
  · cases hj
    exact lawc_47 h6 hn hL tl
  · cases hj
    exact lawc_48 h6 hn hL tl
  · cases hj
    exact lawc_49 h6 hn hL tl
  · cases hj
    exact lawc_50 h6 hn hL tl
  · cases hj
    exact lawc_51 hl0 (by omega) (by omega) h6 hn hL tl
  · cases hj
    exact lawc_52 h6 hn hL tl
  · cases hj
    exact lawc_53 h6 hn hL tl
theorem law_loop (hl0 : l.stackTraces = false) (hn : n ≤ 3072) (h : ∀ M', kr (some (.int 1)) M') : ∀ (j i : Nat) (M : Mm), n ≤ i + j → i ≤ n → LR M → 6 * mC M ≤ 1002 + i → mS M ≤ 3864 + i → Wf l (n, xs) uL 20 false (1000, 10000) 23 [(0, .ref 4999), (1, .ref 1), (2, .ref 150), (3, .ref 167), (4, .int (nI i))] [] M kr := by
  intro j
  induction j with
  | zero =>
    intro i M h1 h2 hL hC hS
    exact law_turn hl0 hn h2 hL hC hS h (fun z => absurd z (by omega))
  | succ j ih =>
    intro i M h1 h2 hL hC hS
    exact law_turn hl0 hn h2 hL hC hS h (fun z M' hL' c s => ih (i + 6) M' (by omega) (by omega) hL' (by omega) (by omega))
end LAWW
theorem GargWhole {l : Launch} (hl0 : l.stackTraces = false) {kr : KR} {xs : Nat → Int32} {n : Nat} (hn : n ≤ 3072) (h : ∀ M', kr (some (.int 1)) M') : Wf l (n, xs) uL 20 false (1000, 10000) 0 [(0, .ref 4999)] [] (mkD [] 0 I00) kr :=
  law_pre (law_loop hl0 hn h n 0 MZ (by omega) (Nat.zero_le _) LR_MZ mz_c (Nat.le_refl 3864))
end
