/-! from memories by lists to the memory behind the constructors -/
theorem cle' {b : Bool} {x y n : Nat} (hx : x ≤ n) (hy : y ≤ n) : cond b x y ≤ n := by
  cases b
  · exact hy
  · exact hx
theorem blt_f {i n : Nat} (h : n ≤ i) : Nat.blt i n = false := by
  cases hb : Nat.blt i n with
  | true => exact absurd (Nat.le_of_ble_eq_true hb) (by omega)
  | false => rfl
theorem arr_le {k n c m : Nat} (h : ∀ j, j < n → c + m * j ≤ 167) : cond (Nat.blt k n) (c + m * k) 0 ≤ 167 := by
  cases hb : Nat.blt k n with
  | true => exact h k (Nat.le_of_ble_eq_true hb)
  | false => exact Nat.zero_le _
theorem kO_1 {k : Nat} : R0_1 7 0 k ≤ 167 := by
  unfold R0_1
  repeat' (first | exact Nat.le_of_ble_eq_true rfl | refine cle' ?_ ?_)
theorem kO_2 {k : Nat} : R0_2 7 0 k ≤ 167 := by
  unfold R0_2
  repeat' (first | exact Nat.le_of_ble_eq_true rfl | refine cle' ?_ ?_)
theorem kO_7 {k : Nat} : R0_7 7 0 k ≤ 167 := by
  unfold R0_7
  repeat' (first | exact Nat.le_of_ble_eq_true rfl | refine cle' ?_ ?_)
theorem kO_20 {k : Nat} : R0_20 7 0 k ≤ 167 := by
  unfold R0_20
  repeat' (first | exact Nat.le_of_ble_eq_true rfl | refine cle' ?_ ?_)
theorem kO_33 {k : Nat} : R0_33 7 0 k ≤ 167 := by
  unfold R0_33
  repeat' (first | exact Nat.le_of_ble_eq_true rfl | refine cle' ?_ ?_)
theorem kO_38 {k : Nat} : R0_38 7 0 k ≤ 167 := arr_le (n := 16) (c := 55) (m := 5) (fun j hj => by omega)
theorem kO_39 {k : Nat} : R0_39 7 0 k ≤ 167 := arr_le (n := 3) (c := 135) (m := 5) (fun j hj => by omega)
theorem kO_41 {k : Nat} : R0_41 7 0 k ≤ 167 := by
  unfold R0_41
  repeat' (first | exact Nat.le_of_ble_eq_true rfl | refine cle' ?_ ?_)
theorem kO_43 {k : Nat} : R0_43 7 0 k ≤ 167 := by
  unfold R0_43
  repeat' (first | exact Nat.le_of_ble_eq_true rfl | refine cle' ?_ ?_)
theorem kO_44 {k : Nat} : R0_44 7 0 k ≤ 167 := by
  unfold R0_44
  cases hb : Nat.blt k 6 with
  | true => have := Nat.le_of_ble_eq_true hb; show 45 + k ≤ 167; omega
  | false => exact Nat.zero_le _
theorem kO_55 {k : Nat} : R0_55 7 0 k ≤ 167 := by
  unfold R0_55
  repeat' (first | exact Nat.le_of_ble_eq_true rfl | refine cle' ?_ ?_)
theorem kO_60 {k : Nat} : R0_60 7 0 k ≤ 167 := by
  unfold R0_60
  repeat' (first | exact Nat.le_of_ble_eq_true rfl | refine cle' ?_ ?_)
theorem kO_65 {k : Nat} : R0_65 7 0 k ≤ 167 := by
  unfold R0_65
  repeat' (first | exact Nat.le_of_ble_eq_true rfl | refine cle' ?_ ?_)
theorem kO_70 {k : Nat} : R0_70 7 0 k ≤ 167 := by
  unfold R0_70
  repeat' (first | exact Nat.le_of_ble_eq_true rfl | refine cle' ?_ ?_)
theorem kO_75 {k : Nat} : R0_75 7 0 k ≤ 167 := by
  unfold R0_75
  repeat' (first | exact Nat.le_of_ble_eq_true rfl | refine cle' ?_ ?_)
theorem kO_80 {k : Nat} : R0_80 7 0 k ≤ 167 := by
  unfold R0_80
  repeat' (first | exact Nat.le_of_ble_eq_true rfl | refine cle' ?_ ?_)
theorem kO_85 {k : Nat} : R0_85 7 0 k ≤ 167 := by
  unfold R0_85
  repeat' (first | exact Nat.le_of_ble_eq_true rfl | refine cle' ?_ ?_)
theorem kO_90 {k : Nat} : R0_90 7 0 k ≤ 167 := by
  unfold R0_90
  repeat' (first | exact Nat.le_of_ble_eq_true rfl | refine cle' ?_ ?_)
theorem kO_95 {k : Nat} : R0_95 7 0 k ≤ 167 := by
  unfold R0_95
  repeat' (first | exact Nat.le_of_ble_eq_true rfl | refine cle' ?_ ?_)
theorem kO_100 {k : Nat} : R0_100 7 0 k ≤ 167 := by
  unfold R0_100
  repeat' (first | exact Nat.le_of_ble_eq_true rfl | refine cle' ?_ ?_)
theorem kO_105 {k : Nat} : R0_105 7 0 k ≤ 167 := by
  unfold R0_105
  repeat' (first | exact Nat.le_of_ble_eq_true rfl | refine cle' ?_ ?_)
theorem kO_110 {k : Nat} : R0_110 7 0 k ≤ 167 := by
  unfold R0_110
  repeat' (first | exact Nat.le_of_ble_eq_true rfl | refine cle' ?_ ?_)
theorem kO_115 {k : Nat} : R0_115 7 0 k ≤ 167 := by
  unfold R0_115
  repeat' (first | exact Nat.le_of_ble_eq_true rfl | refine cle' ?_ ?_)
theorem kO_120 {k : Nat} : R0_120 7 0 k ≤ 167 := by
  unfold R0_120
  repeat' (first | exact Nat.le_of_ble_eq_true rfl | refine cle' ?_ ?_)
theorem kO_125 {k : Nat} : R0_125 7 0 k ≤ 167 := by
  unfold R0_125
  repeat' (first | exact Nat.le_of_ble_eq_true rfl | refine cle' ?_ ?_)
theorem kO_130 {k : Nat} : R0_130 7 0 k ≤ 167 := by
  unfold R0_130
  repeat' (first | exact Nat.le_of_ble_eq_true rfl | refine cle' ?_ ?_)
theorem kO_135 {k : Nat} : R0_135 7 0 k ≤ 167 := by
  unfold R0_135
  repeat' (first | exact Nat.le_of_ble_eq_true rfl | refine cle' ?_ ?_)
theorem kO_140 {k : Nat} : R0_140 7 0 k ≤ 167 := by
  unfold R0_140
  repeat' (first | exact Nat.le_of_ble_eq_true rfl | refine cle' ?_ ?_)
theorem kO_145 {k : Nat} : R0_145 7 0 k ≤ 167 := by
  unfold R0_145
  repeat' (first | exact Nat.le_of_ble_eq_true rfl | refine cle' ?_ ?_)
theorem kO_150 {k : Nat} : R0_150 7 0 k ≤ 167 := by
  unfold R0_150
  repeat' (first | exact Nat.le_of_ble_eq_true rfl | refine cle' ?_ ?_)
set_option maxRecDepth 20000 in
theorem kO_mk {w : Nat × Nat} {I : Nat → Nat → Int32} {L : Nat → Nat → Int64} : kO (mk w 7 0 I L) := by
  intro a i
  show R0 7 0 a i ≤ 167
  unfold R0
  repeat' (first | exact Nat.zero_le _ | exact kO_1 | exact kO_2 | exact kO_7 | exact kO_20 | exact kO_33 | exact kO_38 | exact kO_39 | exact kO_41 | exact kO_43 | exact kO_44 | exact kO_55 | exact kO_60 | exact kO_65 | exact kO_70 | exact kO_75 | exact kO_80 | exact kO_85 | exact kO_90 | exact kO_95 | exact kO_100 | exact kO_105 | exact kO_110 | exact kO_115 | exact kO_120 | exact kO_125 | exact kO_130 | exact kO_135 | exact kO_140 | exact kO_145 | exact kO_150 | refine cle' ?_ ?_)
theorem tf_len (c : Nat) : (tf c).length ≤ 44 := by
  unfold tf
  split <;> decide
theorem en_eq {g : Nat → ClassId} {ad : Nat → Nat} {M M' : Mm} {a : Nat} (h0 : mK M' a = mK M a) (h1 : mI M' a = mI M a) (h2 : mL M' a = mL M a) (h3 : ∀ i, i < 50 → mR M' a i = mR M a i) (h4 : 10 < (mK M a).1 → mR M' a = mR M a) : en g ad M' a = en g ad M a := by
  unfold en
  rw [h0, h1, h2]
  split
  · congr 2
    unfold eo
    refine List.map_congr_left fun k hk => ?_
    have hk := List.mem_range.mp hk
    have := tf_len (mK M a).1
    unfold sv
    rw [h1, h2, h3 k (by omega)]
  · split
    · rfl
    · split
      · rfl
      · have e : er ad M' a = er ad M a := by unfold er; rw [h4 (by omega)]
        rw [e]
section EQV
variable {l : Launch} {X : Nat × (Nat → Int32)} {q : Md} {d : Nat} {b : Nat × Nat} {pc : Nat} {kr : KR} {ls : Ls} {st : List Value} {M M' : Mm}
theorem Wf.eqv (hN : mN M' = mN M) (hC : mC M' = mC M) (hS : mS M' = mS M) (hO : kO M') (hE : ∀ g ad, wl g ad M' = wl g ad M) (k : Wf l X q d false b pc ls st M' kr) : Wf l X q d false b pc ls st M kr := by
  intro p e R s m args below meth c Q D g ad0 A n0 S0 c0 s0 ad H locs la hf g1 g2 g3 g4 g5 g6 g7 g8 hr hl hk
  obtain ⟨r1, r2, r3, r4, r5, r6, r7, r8⟩ := hr
  have := k p e R s m args below meth c Q D g ad0 A n0 S0 c0 s0 ad H locs la hf g1 g2 g3 g4 (by omega) (by omega) (by omega) (by omega) ⟨by rw [hE]; exact r1, by rw [hE]; exact r2, r3, hO, by omega, by omega, r7, fun z => by cases z⟩ hl hk
  rw [hC, hS] at this
  exact this
end EQV
theorem GZ_K : ∀ a, a < 168 → K0 a = kd GZ a := by decide +kernel
theorem GZ_R : ∀ a, a < 168 → ∀ i, i < 50 → R0 7 0 a i = rd GZ a i := by decide +kernel
theorem GZ_A : ∀ a, a < 168 → 10 < (kd GZ a).1 → a = 38 ∨ a = 39 ∨ a = 44 := by decide +kernel
theorem gd_out {xs : List Nat} {i : Nat} (h : xs.length ≤ i) : xs.getD i 0 = 0 := by
  rw [List.getD_eq_getElem?_getD, List.getElem?_eq_none h]
  rfl
theorem GZ_F {a : Nat} (ha : a < 168) (hk : 10 < (kd GZ a).1) : R0 7 0 a = rd GZ a := by
  rcases GZ_A a ha hk with h | h | h
  all_goals
    rw [h]
    funext j
    by_cases hj : j < 50
    · exact GZ_R _ (by decide) j hj
  · show cond (Nat.blt j 16) _ 0 = ((GZ.getD 37 (0, 0, [])).2.2).getD j 0
    rw [blt_f (by omega), gd_out (Nat.le_trans (show ((GZ.getD 37 (0, 0, [])).2.2).length ≤ 50 by decide +kernel) (by omega))]
    rfl
  · show cond (Nat.blt j 3) _ 0 = ((GZ.getD 38 (0, 0, [])).2.2).getD j 0
    rw [blt_f (by omega), gd_out (Nat.le_trans (show ((GZ.getD 38 (0, 0, [])).2.2).length ≤ 50 by decide +kernel) (by omega))]
    rfl
  · show cond (Nat.blt j 6) _ 0 = ((GZ.getD 43 (0, 0, [])).2.2).getD j 0
    rw [blt_f (by omega), gd_out (Nat.le_trans (show ((GZ.getD 43 (0, 0, [])).2.2).length ≤ 50 by decide +kernel) (by omega))]
    rfl
theorem GZ_M {s : Nat} {g : Nat → ClassId} {ad : Nat → Nat} : wl g ad (mk (167, s) 7 0 I0 (fun _ _ => 0)) = wl g ad (mkD GZ s (u2 I00 150 10 (-1))) := by
  unfold wl
  have e : mN (mkD GZ s (u2 I00 150 10 (-1))) = 167 := rfl
  rw [e]
  refine List.map_congr_left fun i hi => ?_
  have hi : i < 167 := List.mem_range.mp hi
  have key : en g ad (mk (167, s) 7 0 I0 (fun _ _ => 0)) (i + 1) = en g ad (mkD GZ s (u2 I00 150 10 (-1))) (i + 1) := by
    refine en_eq (M := mkD GZ s (u2 I00 150 10 (-1))) (M' := mk (167, s) 7 0 I0 (fun _ _ => 0)) (GZ_K (i + 1) (by omega)) rfl rfl (fun j hj => GZ_R (i + 1) (by omega) j hj) (fun hk => ?_)
    exact GZ_F (by omega) hk
  rw [key]
