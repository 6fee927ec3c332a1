/-! the law's beginning, its loop -/
section LAWP
variable {l : Launch} {X : Nat × (Nat → Int32)} {kr : KR}
def MZ : Mm := mkD GZ 3864 (u2 I00 150 10 (-1))
set_option maxRecDepth 20000 in
/-- the law's beginning: the objects are made -/
theorem law_pre (h : Wf l X uL 20 false (1000, 10000) 23 [(0, .ref 4999), (1, .ref 1), (2, .ref 150), (3, .ref 167), (4, .int 0)] [] MZ kr) : Wf l X uL 20 false (1000, 10000) 0 [(0, .ref 4999)] [] (mkD [] 0 I00) kr := by
  refine OK.go (tkL_P (d := 19) (b := (1000, 10000)) (0, oNew (1000, 10000) 0 6 14) (List.mem_of_getElem? (i := 0) rfl)) ?_
  show Wf l X uL 20 false (1000, 10000) 3 [(0, .ref 4999)] [.ref 1] (wA (mkD [] 0 I00) (6, 0) 14) kr
  rw [wA_D (z := 14) (fun _ => rfl), E0_eq]
  refine OK.go (tkL_P (d := 19) (b := (1000, 10000)) (3, oDup 3) (List.mem_of_getElem? (i := 1) rfl)) ?_
  show Wf l X uL 20 false (1000, 10000) 4 [(0, .ref 4999)] [.ref 1, .ref 1] (mkD E0 14 I00) kr
  refine OK.go (tkL_P (d := 19) (b := (1000, 10000)) (4, oCi l X 19 (1000, 10000) 4 uX6_init 6 148 1873) (List.mem_of_getElem? (i := 2) rfl)) ?_
  show Ev l X uX6_init 19 false 148 1873 [.ref 1] (mkD E0 14 I00) (fun r M' => (mC M' = mC (mkD E0 14 I00) + 148 ∧ mS M' = mS (mkD E0 14 I00) + 1873) ∧ Wf l X uL 20 false (1000, 10000) (4 + 3) [(0, .ref 4999)] (r.toList ++ [.ref 1]) M' kr)
  refine sX6_init (d := 17) ⟨⟨by decide +kernel, by decide +kernel⟩, ?_⟩
  refine OK.go (tkL_P (d := 19) (b := (1000, 10000)) (7, oAs 7 1 1) (List.mem_of_getElem? (i := 3) rfl)) ?_
  show Wf l X uL 20 false (1000, 10000) 8 [(0, .ref 4999), (1, .ref 1)] [] (mkD E29 (14 + 1873) I00) kr
  refine OK.go (tkL_P (d := 19) (b := (1000, 10000)) (8, oNew (1000, 10000) 8 7 44) (List.mem_of_getElem? (i := 4) rfl)) ?_
  show Wf l X uL 20 false (1000, 10000) 11 [(0, .ref 4999), (1, .ref 1)] [.ref 150] (wA (mkD E29 (14 + 1873) I00) (7, 0) 44) kr
  rw [wA_D (z := 44) (fun _ => rfl), G0_eq]
  refine OK.go (tkL_P (d := 19) (b := (1000, 10000)) (11, oDup 11) (List.mem_of_getElem? (i := 5) rfl)) ?_
  show Wf l X uL 20 false (1000, 10000) 12 [(0, .ref 4999), (1, .ref 1)] [.ref 150, .ref 150] (mkD G0 (14 + 1873 + 44) I00) kr
  refine OK.go (tkL_P (d := 19) (b := (1000, 10000)) (12, oCi l X 19 (1000, 10000) 12 uX7_init 7 16 1932) (List.mem_of_getElem? (i := 6) rfl)) ?_
  show Ev l X uX7_init 19 false 16 1932 [.ref 150] (mkD G0 (14 + 1873 + 44) I00) (fun r M' => (mC M' = mC (mkD G0 (14 + 1873 + 44) I00) + 16 ∧ mS M' = mS (mkD G0 (14 + 1873 + 44) I00) + 1932) ∧ Wf l X uL 20 false (1000, 10000) (12 + 3) [(0, .ref 4999), (1, .ref 1)] (r.toList ++ [.ref 150]) M' kr)
  refine sX7_init (d := 18) (by unfold slf; decide +kernel) (by decide +kernel) ?_
  rw [cX7_eq]
  refine ⟨⟨by rfl, by rfl⟩, ?_⟩
  refine OK.go (tkL_P (d := 19) (b := (1000, 10000)) (15, oAs 15 1 2) (List.mem_of_getElem? (i := 7) rfl)) ?_
  show Wf l X uL 20 false (1000, 10000) 16 [(0, .ref 4999), (1, .ref 1), (2, .ref 150)] [] (mkD G16 3863 (u2 I00 150 10 (-1))) kr
  refine OK.go (tkL_P (d := 19) (b := (1000, 10000)) (16, oIc 16 1 1) (List.mem_of_getElem? (i := 8) rfl)) ?_
  show Wf l X uL 20 false (1000, 10000) 17 [(0, .ref 4999), (1, .ref 1), (2, .ref 150)] [.int 1] (mkD G16 3863 (u2 I00 150 10 (-1))) kr
  refine OK.go (tkL_P (d := 19) (b := (1000, 10000)) (17, oNa (1000, 10000) 17 10 1 1) (List.mem_of_getElem? (i := 9) rfl)) ?_
  show ((1 : Int32) = 1 ∧ Wf l X uL 20 false (1000, 10000) 19 [(0, .ref 4999), (1, .ref 1), (2, .ref 150)] [.ref 167] (wA (mkD G16 3863 (u2 I00 150 10 (-1))) (10, 1) 1) kr)
  refine ⟨rfl, ?_⟩
  rw [wA_D (z := 0) (fun j => rfl), GZ_eq]
  refine OK.go (tkL_P (d := 19) (b := (1000, 10000)) (19, oAs 19 1 3) (List.mem_of_getElem? (i := 10) rfl)) ?_
  show Wf l X uL 20 false (1000, 10000) 20 [(0, .ref 4999), (1, .ref 1), (2, .ref 150), (3, .ref 167)] [] (mkD GZ (3863 + 1) (u2 I00 150 10 (-1))) kr
  refine OK.go (tkL_P (d := 19) (b := (1000, 10000)) (20, oIc 20 1 0) (List.mem_of_getElem? (i := 11) rfl)) ?_
  refine OK.go (tkL_P (d := 19) (b := (1000, 10000)) (21, oIs 21 2 4) (List.mem_of_getElem? (i := 12) rfl)) ?_
  show Wf l X uL 20 false (1000, 10000) 23 [(0, .ref 4999), (1, .ref 1), (2, .ref 150), (3, .ref 167), (4, .int 0)] [] (mkD GZ 3864 (u2 I00 150 10 (-1))) kr
  exact h
end LAWP
section START
def zrw (R : List (Nat × List Row)) : Bool := (List.range 168).all (fun a => (lkR R a).all (fun r => decide (r.2.2.1 ≤ 0) && decide (0 ≤ r.2.2.2)))
theorem rw_z {t : List Row} {k : Nat} : (t.all (fun r => decide (r.2.2.1 ≤ 0) && decide (0 ≤ r.2.2.2)) = true) → (rwB t k).1 ≤ 0 ∧ 0 ≤ (rwB t k).2 := by
  induction t with
  | nil => intro _; exact ⟨show iLo ≤ 0 by decide, show 0 ≤ iHi by decide⟩
  | cons r t ih =>
    intro h
    obtain ⟨h1, h2⟩ := andT h
    show (cond (rIn r k) (r.2.2.1, r.2.2.2) (rwB t k)).1 ≤ 0 ∧ 0 ≤ (cond (rIn r k) (r.2.2.1, r.2.2.2) (rwB t k)).2
    cases hr : rIn r k with
    | true => obtain ⟨h3, h4⟩ := andT h1; exact ⟨of_decide_eq_true h3, of_decide_eq_true h4⟩
    | false => exact ih h2
theorem mz_k : ∀ a, a < 168 → kd GZ a = kdT a := by decide +kernel
theorem mz_r : ∀ a, a < 168 → ∀ k, k < 60 → rd GZ a k ∈ rfN a k := by decide +kernel
theorem mz_l : ∀ a, a < 168 → ((GZ.getD (a - 1) (0, 0, [])).2.2).length ≤ 50 ∧ (rfT a).length ≤ 50 := by decide +kernel
theorem gd_z {t : List Nat} {k : Nat} (h : t.length ≤ k) : t.getD k 0 = 0 := by
  rw [List.getD_eq_getElem?_getD, List.getElem?_eq_none h]
  rfl
theorem mz_R {a k : Nat} (ha : a ≤ 167) : mR MZ a k ∈ rfN a k := by
  rcases Nat.lt_or_ge k 60 with h | h
  · exact mz_r a (by omega) k h
  · obtain ⟨l1, l2⟩ := mz_l a (by omega)
    have e2 : (rfT a).getD k 0 = 0 := gd_z (by omega)
    have e1 : rd GZ a k = 0 := by
      cases a with
      | zero => rfl
      | succ b => exact gd_z (t := (GZ.getD b (0, 0, [])).2.2) (Nat.le_trans l1 (by omega))
    show rd GZ a k ∈ rfN a k
    have e3 : rfN a k = [0] := by
      show cond (Nat.beq a 1 && (Nat.beq k 1 || Nat.beq k 2)) [7, 20] (cond (Nat.beq a 2 && Nat.beq k 3) [0, 7, 20] [(rfT a).getD k 0]) = [0]
      have q : ∀ c, c < 60 → Nat.beq k c = false := fun c hc => by
        cases hq : Nat.beq k c with
        | false => rfl
        | true => have := Nat.eq_of_beq_eq_true hq; omega
      rw [q 1 (by decide), q 2 (by decide), q 3 (by decide), e2]
      simp
    rw [e1, e3]
    exact List.mem_singleton.mpr rfl
theorem mz_I {R : List (Nat × List Row)} (h0 : zrw R = true) (h1 : rwB (lkR R 150) 10 = (iLo, iHi)) {a k : Nat} (ha : a ≤ 167) : (rwB (lkR R a) k).1 ≤ (mI MZ a k).toInt ∧ (mI MZ a k).toInt ≤ (rwB (lkR R a) k).2 := by
  by_cases e : a = 150 ∧ k = 10
  · obtain ⟨rfl, rfl⟩ := e
    rw [h1]
    exact ⟨i32_lo _, i32_hi _⟩
  · have e2 : mI MZ a k = 0 := by
      show (if a = 150 ∧ k = 10 then (-1 : Int32) else 0) = 0
      rw [if_neg e]
    rw [e2]
    exact rw_z (List.all_eq_true.mp h0 a (List.mem_range.mpr (by omega)))
theorem mz_n : 167 ≤ mN MZ := by
  show 167 ≤ GZ.length
  decide +kernel
theorem mz_g : GZ.length = 167 := by decide +kernel
theorem mz_c : 6 * mC MZ ≤ 1002 + 0 := by
  have e : mC MZ = 167 := mz_g
  rw [e]
  decide
theorem mz_Iv {R : List (Nat × List Row)} (h0 : zrw R = true) (h1 : rwB (lkR R 150) 10 = (iLo, iHi)) : Iv (mkP R) MZ :=
  ⟨mz_n, fun a ha => mz_k a (by omega), fun a k ha => mz_R ha, fun a k ha => mz_I h0 h1 ha⟩
set_option maxRecDepth 20000 in
theorem LI_MZ : LI MZ := ⟨mz_Iv (R := rwt8) (by decide +kernel) rfl, ⟨1, ⟨by decide, fun _ c _ h5 => by
  have e : (mI MZ 153 5).toInt = 0 := by decide +kernel
  rw [e] at h5
  omega⟩, mz_Iv (R := rwt6) (by decide +kernel) rfl⟩, 0, Nat.zero_le _, rfl, rfl⟩
theorem FM_MZ : FM MZ := ⟨mz_g, by decide +kernel⟩
theorem LQ_MZ : LQ MZ := ⟨⟨LI_MZ.1, LI_MZ.2.1, FM_MZ⟩, ⟨0, fun _ => 0, Nat.zero_le _, ⟨rfl, fun i hi => absurd hi (Nat.not_lt_zero _)⟩, rfl, fun i hi => absurd hi (Nat.not_lt_zero _)⟩, rfl⟩
theorem LX_MZ : LX MZ := by
  have e : mR MZ 1 1 = 7 := by decide +kernel
  refine ⟨LQ_MZ, none, trivial, ?_, rfl, rfl, rfl⟩
  rw [e]
  exact ⟨⟨⟨rfl, rfl, rfl, rfl, rfl, rfl, rfl, rfl⟩, fun f hf => absurd hf (Nat.not_lt_zero _), fun f hf => rfl, fun c hc => absurd hc (Nat.not_lt_zero _), fun c hc => absurd hc (Nat.not_lt_zero _), fun c hc => absurd hc (Nat.not_lt_zero _)⟩, rfl, rfl, rfl⟩
end START
