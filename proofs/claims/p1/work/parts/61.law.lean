section LAWW
variable {l : Launch} {kr : KR} {xs : Nat → Int32}
set_option maxRecDepth 20000 in
/-- the law's loop, on a script of six ints -/
theorem law_six (hl0 : l.stackTraces = false) (h : ∀ M', kr (some (.int 1)) M') : Wf l (6, xs) uL 20 false (1000, 10000) 23 [(0, .ref 4999), (1, .ref 1), (2, .ref 150), (3, .ref 167), (4, .int 0)] [] (mk (167, 3864) 7 0 I0 (fun _ _ => 0)) kr := by
  refine Wf.gc (tkL_H (d := 19)) [272, 345, 370, 383, 396, 433, 470, 507, 520, 557, 594, 631, 656, 681, 706, 743, 756, 769, 782, 807, 856, 893, 918, 943, 980, 1017, 1054, 1091, 1140, 1165, 1178, 1191, 1216, 1229, 1242, 1255, 1268, 1281, 1390, 1415, 1440, 1506, 1572, 1621, 1658, 1671, 1708, 1733, 1770, 1783, 1796, 1821, 1877, 1902, 1915, 1921] ?_
  conv => whnf
  refine ⟨fun z => absurd (show (Int32.ofNat 6 - 6 : Int32) < 0 from z) (by decide), fun _ => ?_⟩
  conv => whnf
  refine ⟨vin0, ?_⟩
  conv => whnf
  refine ⟨fun k t hk hx => ?_, fun _ => ?_⟩
  · have hlt : k < 54 := by
      rcases Nat.lt_or_ge k 54 with z | z
      · exact z
      · rw [List.getElem?_eq_none (by simpa using z)] at hk
        cases hk
    rcases (show k = 0 ∨ k = 1 ∨ k = 2 ∨ k = 3 ∨ k = 4 ∨ k = 5 ∨ k = 6 ∨ k = 7 ∨ k = 8 ∨ k = 9 ∨ k = 10 ∨ k = 11 ∨ k = 12 ∨ k = 13 ∨ k = 14 ∨ k = 15 ∨ k = 16 ∨ k = 17 ∨ k = 18 ∨ k = 19 ∨ k = 20 ∨ k = 21 ∨ k = 22 ∨ k = 23 ∨ k = 24 ∨ k = 25 ∨ k = 26 ∨ k = 27 ∨ k = 28 ∨ k = 29 ∨ k = 30 ∨ k = 31 ∨ k = 32 ∨ k = 33 ∨ k = 34 ∨ k = 35 ∨ k = 36 ∨ k = 37 ∨ k = 38 ∨ k = 39 ∨ k = 40 ∨ k = 41 ∨ k = 42 ∨ k = 43 ∨ k = 44 ∨ k = 45 ∨ k = 46 ∨ k = 47 ∨ k = 48 ∨ k = 49 ∨ k = 50 ∨ k = 51 ∨ k = 52 ∨ k = 53 by omega) with rfl | rfl | rfl | rfl | rfl | rfl | rfl | rfl | rfl | rfl | rfl | rfl | rfl | rfl | rfl | rfl | rfl | rfl | rfl | rfl | rfl | rfl | rfl | rfl | rfl | rfl | rfl | rfl | rfl | rfl | rfl | rfl | rfl | rfl | rfl | rfl | rfl | rfl | rfl | rfl | rfl | rfl | rfl | rfl | rfl | rfl | rfl | rfl | rfl | rfl | rfl | rfl | rfl | rfl
    · cases hk
      exact lawc_0 h
    · cases hk
      exact lawc_1 h
    · cases hk
      exact lawc_2 h
    · cases hk
      exact lawc_3 h
    · cases hk
      exact lawc_4 h
    · cases hk
      exact lawc_5 h
    · cases hk
      exact lawc_6 h
    · cases hk
      exact lawc_7 h
    · cases hk
      exact lawc_8 h
    · cases hk
      exact lawc_9 h
    · cases hk
      exact lawc_10 h
    · cases hk
      exact lawc_11 h
    · cases hk
      exact lawc_12 h
    · cases hk
      exact lawc_13 h
    · cases hk
      exact lawc_14 h
    · cases hk
      exact lawc_15 h
    · cases hk
      exact lawc_16 h
    · cases hk
      exact lawc_17 h
    · cases hk
      exact lawc_18 h
    · cases hk
      exact lawc_19 h
    · cases hk
      exact lawc_20 h
    · cases hk
      exact lawc_21 h
    · cases hk
      exact lawc_22 h
    · cases hk
      exact lawc_23 h
    · cases hk
      exact lawc_24 h
    · cases hk
      exact lawc_25 h
    · cases hk
      exact lawc_26 h
    · cases hk
      exact lawc_27 h
    · cases hk
      exact lawc_28 h
    · cases hk
      exact lawc_29 h
    · cases hk
      exact lawc_30 h
    · cases hk
      exact lawc_31 h
    · cases hk
      exact lawc_32 h
    · cases hk
      exact lawc_33 h
    · cases hk
      exact lawc_34 h
    · cases hk
      exact lawc_35 h
    · cases hk
      exact lawc_36 h
    · cases hk
      exact lawc_37 h
    · cases hk
      exact lawc_38 h
    · cases hk
      exact lawc_39 h
    · cases hk
      exact lawc_40 h
    · cases hk
      exact lawc_41 h
    · cases hk
      exact lawc_42 h
    · cases hk
      exact lawc_43 h
    · cases hk
      exact lawc_44 h
    · cases hk
      exact lawc_45 h
    · cases hk
      exact lawc_46 h
    · cases hk
      exact lawc_47 h
    · cases hk
      exact lawc_48 h
    · cases hk
      exact lawc_49 h
    · cases hk
      exact lawc_50 h
    · cases hk
      exact lawc_51 hl0 h
    · cases hk
      exact lawc_52 h
    · cases hk
      exact lawc_53 h
  · exact law_tail h _
set_option maxRecDepth 20000 in
theorem law_few {n : Nat} (hn : n < 6) (h : ∀ M', kr (some (.int 1)) M') : Wf l (n, xs) uL 20 false (1000, 10000) 23 [(0, .ref 4999), (1, .ref 1), (2, .ref 150), (3, .ref 167), (4, .int 0)] [] (mk (167, 3864) 7 0 I0 (fun _ _ => 0)) kr := by
  refine Wf.gc (tkL_H (d := 19)) [1921] ?_
  conv => whnf
  refine ⟨fun _ => ?_, fun z => absurd (show (Int32.ofNat n - 6 : Int32) < 0 by rcases (show n = 0 ∨ n = 1 ∨ n = 2 ∨ n = 3 ∨ n = 4 ∨ n = 5 by omega) with rfl | rfl | rfl | rfl | rfl | rfl <;> decide) z⟩
  conv => whnf
  refine Wf.gc (tkL_T (d := 19)) [] ?_
  conv => whnf
  exact ⟨Or.inr rfl, h _⟩
end LAWW
theorem GargWhole {l : Launch} (hl0 : l.stackTraces = false) {kr : KR} {xs : Nat → Int32} {n : Nat} (hn : n ≤ 6) (h : ∀ M', kr (some (.int 1)) M') : Wf l (n, xs) uL 20 false (1000, 10000) 0 [(0, .ref 4999)] [] (mkD [] 0 I00) kr := by
  refine law_pre ?_
  by_cases h6 : n = 6
  · subst h6
    exact law_six hl0 h
  · exact law_few (by omega) h
