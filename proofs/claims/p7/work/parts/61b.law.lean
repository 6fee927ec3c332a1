/-! the law's loop -/
section LAWW
variable {l : Launch} {kr : KR} {xs : Nat → Int32} {i n : Nat} {M : Mm}
theorem nI_6 (i : Nat) : nI i + 6 = nI (i + 6) := nI_add i 6
set_option maxRecDepth 20000 in
theorem law_end (h : ∀ M', kr (some (.int 1)) M') : Wf l (n, xs) uL 20 false (1000, 10000) 1891 [(0, .ref 4999), (1, .ref 1), (2, .ref 150), (3, .ref 167), (4, .int (nI i))] [] M kr := by
  refine Wf.sIc (tkL_T (d := 19)) rfl ?_
  exact Wf.sZr (tkL_T (d := 19)) rfl (Or.inr rfl) (h M)
set_option maxRecDepth 20000 in
theorem law_tail (h : Wf l (n, xs) uL 20 false (1000, 10000) 23 [(0, .ref 4999), (1, .ref 1), (2, .ref 150), (3, .ref 167), (4, .int (nI (i + 6)))] [] M kr) : Wf l (n, xs) uL 20 false (1000, 10000) 1885 [(0, .ref 4999), (1, .ref 1), (2, .ref 150), (3, .ref 167), (4, .int (nI i))] [] M kr := by
  refine Wf.sInc (tkL_T (d := 19)) (ls' := [(0, .ref 4999), (1, .ref 1), (2, .ref 150), (3, .ref 167), (4, .int (nI (i + 6)))]) rfl rfl (by rw [← nI_6]; rfl) ?_
  refine Wf.sGo (tkL_T (d := 19)) rfl ?_
  exact h
set_option maxRecDepth 20000 in
/-- one turn -/
theorem law_turn (hl0 : l.stackTraces = false) (hn : n ≤ 3072) (hi : i ≤ n) (hL : LX M) (hC : 6 * mC M ≤ 1002 + i) (hS : mS M ≤ 3864 + i) (h : ∀ M', kr (some (.int 1)) M') (k : i + 6 ≤ n → ∀ M', LX M' → mC M' ≤ mC M + 1 → mS M' ≤ mS M + 6 → Wf l (n, xs) uL 20 false (1000, 10000) 23 [(0, .ref 4999), (1, .ref 1), (2, .ref 150), (3, .ref 167), (4, .int (nI (i + 6)))] [] M' kr) : Wf l (n, xs) uL 20 false (1000, 10000) 23 [(0, .ref 4999), (1, .ref 1), (2, .ref 150), (3, .ref 167), (4, .int (nI i))] [] M kr := by
  refine Wf.sIl (tkL_H (d := 19)) rfl rfl ?_
  refine Wf.sAl (tkL_H (d := 19)) rfl rfl rfl ?_
  refine Wf.sScl (tkL_H (d := 19)) rfl ?_
  refine Wf.sIc (tkL_H (d := 19)) rfl ?_
  refine Wf.s2 (tkL_H (d := 19)) rfl ?_
  show Wf l (n, xs) uL 20 false (1000, 10000) 30 [(0, .ref 4999), (1, .ref 1), (2, .ref 150), (3, .ref 167), (4, .int (nI i))] [.int (nI n - 6), .int (nI i)] M kr
  refine Wf.sCm (tkL_H (d := 19)) rfl (fun _ => law_end h) (fun z => ?_)
  have z : ¬ (nI n - 6 : Int32) < nI i := z
  rw [hd_gt hi hn] at z
  have h6 : i + 6 ≤ n := by omega
  have k := k h6
  refine Wf.sAl (tkL_H (d := 19)) rfl rfl rfl ?_
  refine Wf.sIl (tkL_H (d := 19)) rfl rfl ?_
  refine Wf.sScd (tkL_H (d := 19)) rfl (vi0 h6 hn) ?_
  refine Wf.sIc (tkL_H (d := 19)) rfl ?_
  refine Wf.s2 (tkL_H (d := 19)) rfl ?_
  refine Wf.sTs (tkL_H (d := 19)) rfl (fun j t hj _ => ?_) (law_tail (k M hL (Nat.le_succ _) (Nat.le_add_right _ _)))
  have tl : ∀ M', LX M' → mC M' ≤ mC M + 1 → mS M' ≤ mS M + 6 → Wf l (n, xs) uL 20 false (1000, 10000) 1885 [(0, .ref 4999), (1, .ref 1), (2, .ref 150), (3, .ref 167), (4, .int (nI i))] [] M' kr := fun M' a b c => law_tail (k M' a b c)
  have hlt : j < 54 := by
    rcases Nat.lt_or_ge j 54 with z | z
    · exact z
    · rw [List.getElem?_eq_none (by simpa using z)] at hj
      cases hj
  rcases (show j = 0 ∨ j = 1 ∨ j = 2 ∨ j = 3 ∨ j = 4 ∨ j = 5 ∨ j = 6 ∨ j = 7 ∨ j = 8 ∨ j = 9 ∨ j = 10 ∨ j = 11 ∨ j = 12 ∨ j = 13 ∨ j = 14 ∨ j = 15 ∨ j = 16 ∨ j = 17 ∨ j = 18 ∨ j = 19 ∨ j = 20 ∨ j = 21 ∨ j = 22 ∨ j = 23 ∨ j = 24 ∨ j = 25 ∨ j = 26 ∨ j = 27 ∨ j = 28 ∨ j = 29 ∨ j = 30 ∨ j = 31 ∨ j = 32 ∨ j = 33 ∨ j = 34 ∨ j = 35 ∨ j = 36 ∨ j = 37 ∨ j = 38 ∨ j = 39 ∨ j = 40 ∨ j = 41 ∨ j = 42 ∨ j = 43 ∨ j = 44 ∨ j = 45 ∨ j = 46 ∨ j = 47 ∨ j = 48 ∨ j = 49 ∨ j = 50 ∨ j = 51 ∨ j = 52 ∨ j = 53 by omega) with rfl | rfl | rfl | rfl | rfl | rfl | rfl | rfl | rfl | rfl | rfl | rfl | rfl | rfl | rfl | rfl | rfl | rfl | rfl | rfl | rfl | rfl | rfl | rfl | rfl | rfl | rfl | rfl | rfl | rfl | rfl | rfl | rfl | rfl | rfl | rfl | rfl | rfl | rfl | rfl | rfl | rfl | rfl | rfl | rfl | rfl | rfl | rfl | rfl | rfl | rfl | rfl | rfl | rfl
  · cases hj
    exact lawc_0 h6 hn hL tl
  · cases hj
    exact lawc_1 h6 hn hL tl
  · cases hj
    exact lawc_2 h6 hn hL tl
  · cases hj
    exact lawc_3 h6 hn hL tl
  · cases hj
    exact lawc_4 h6 hn hL tl
  · cases hj
    exact lawc_5 h6 hn hL tl
  · cases hj
    exact lawc_6 h6 hn hL tl
  · cases hj
    exact lawc_7 h6 hn hL tl
  · cases hj
    exact lawc_8 h6 hn hL tl
  · cases hj
    exact lawc_9 h6 hn hL tl
  · cases hj
    exact lawc_10 h6 hn hL tl
  · cases hj
    exact lawc_11 h6 hn hL tl
  · cases hj
    exact lawc_12 h6 hn hL tl
  · cases hj
    exact lawc_13 h6 hn hL tl
  · cases hj
    exact lawc_14 h6 hn hL tl
  · cases hj
    exact lawc_15 h6 hn hL tl
  · cases hj
    exact lawc_16 h6 hn hL tl
  · cases hj
    exact lawc_17 h6 hn hL tl
  · cases hj
    exact lawc_18 h6 hn hL tl
  · cases hj
    exact lawc_19 h6 hn hL tl
  · cases hj
    exact lawc_20 h6 hn hL tl
  · cases hj
    exact lawc_21 h6 hn hL tl
  · cases hj
    exact lawc_22 h6 hn hL tl
  · cases hj
    exact lawc_23 h6 hn hL tl
  · cases hj
    exact lawc_24 h6 hn hL tl
  · cases hj
    exact lawc_25 h6 hn hL tl
  · cases hj
    exact lawc_26 h6 hn hL tl
  · cases hj
    exact lawc_27 h6 hn hL tl
  · cases hj
    exact lawc_28 h6 hn hL tl
  · cases hj
    exact lawc_29 h6 hn hL tl
  · cases hj
    exact lawc_30 h6 hn hL tl
  · cases hj
    exact lawc_31 h6 hn hL tl
  · cases hj
    exact lawc_32 h6 hn hL tl
  · cases hj
    exact lawc_33 h6 hn hL tl
  · cases hj
    exact lawc_34 h6 hn hL tl
  · cases hj
    exact lawc_35 h6 hn hL tl
  · cases hj
    exact lawc_36 h6 hn hL tl
  · cases hj
    exact lawc_37 h6 hn hL tl
  · cases hj
    exact lawc_38 h6 hn hL tl
  · cases hj
    exact lawc_39 h6 hn hL tl
  · cases hj
    exact lawc_40 h6 hn hL tl
  · cases hj
    exact lawc_41 h6 hn hL tl
  · cases hj
    exact lawc_42 h6 hn hL tl
  · cases hj
    exact lawc_43 h6 hn hL tl
  · cases hj
    exact lawc_44 h6 hn hL tl
  · cases hj
    exact lawc_45 h6 hn hL tl
  · cases hj
    exact lawc_46 h6 hn hL tl
  · cases hj
    exact lawc_47 h6 hn hL tl
  · cases hj
    exact lawc_48 h6 hn hL tl
  · cases hj
    exact lawc_49 h6 hn hL tl
  · cases hj
    exact lawc_50 h6 hn hL tl
  · cases hj
    exact lawc_51 hl0 (by omega) (by omega) h6 hn hL tl
  · cases hj
    exact lawc_52 h6 hn hL tl
  · cases hj
    exact lawc_53 h6 hn hL tl
theorem law_loop (hl0 : l.stackTraces = false) (hn : n ≤ 3072) (h : ∀ M', kr (some (.int 1)) M') : ∀ (j i : Nat) (M : Mm), n ≤ i + j → i ≤ n → LX M → 6 * mC M ≤ 1002 + i → mS M ≤ 3864 + i → Wf l (n, xs) uL 20 false (1000, 10000) 23 [(0, .ref 4999), (1, .ref 1), (2, .ref 150), (3, .ref 167), (4, .int (nI i))] [] M kr := by
  intro j
  induction j with
  | zero =>
    intro i M h1 h2 hL hC hS
    exact law_turn hl0 hn h2 hL hC hS h (fun z => absurd z (by omega))
  | succ j ih =>
    intro i M h1 h2 hL hC hS
    exact law_turn hl0 hn h2 hL hC hS h (fun z M' hL' c s => ih (i + 6) M' (by omega) (by omega) hL' (by omega) (by omega))
end LAWW
theorem GargWhole {l : Launch} (hl0 : l.stackTraces = false) {kr : KR} {xs : Nat → Int32} {n : Nat} (hn : n ≤ 3072) (h : ∀ M', kr (some (.int 1)) M') : Wf l (n, xs) uL 20 false (1000, 10000) 0 [(0, .ref 4999)] [] (mkD [] 0 I00) kr :=
  law_pre (law_loop hl0 hn h n 0 MZ (by omega) (Nat.zero_le _) LX_MZ mz_c (Nat.le_refl 3864))
