/-! the class's ways: a step's cell as a plain number; the steps of a way -/
def mx1 (w : Int32) : Int32 := if 1 < w then w else 1
def nxR (w k s : Int32) : Int32 := k / mx1 w + (if s = 2 then 1 else 0) - (if s = 0 then 1 else 0)
def nxC (w k s : Int32) : Int32 := k - k / mx1 w * w + (if s = 1 then 1 else 0) - (if s = 3 then 1 else 0)
def nx5 (w dp wl k s : Int32) : Int32 := if nxR w k s < 0 ∨ dp ≤ nxR w k s ∨ nxC w k s < 0 ∨ ¬ nxC w k s < w then -2 else if (wl >>> ((nxR w k s * w + nxC w k s) &&& 31)) &&& 1 = 0 then nxR w k s * w + nxC w k s else -2
section STP5
variable {l : Launch} {X : Nat × (Nat → Int32)} {d : Nat} {M : Mm} {kr : KR} {p : Nat}
set_option maxRecDepth 20000 in
theorem k_maxI {y : Int32} (h : kr (some (.int (mx1 y))) M) : Ev l X uJ9_max_7cf53 d true 0 0 [.int 1, .int y] M kr := by
  refine Ev.ofF (by decide +kernel) (Nat.le_of_ble_eq_true rfl) ?_
  refine Wf.sIl tkJ9_max_7cf53 rfl rfl ?_
  refine Wf.sIl tkJ9_max_7cf53 rfl rfl ?_
  unfold mx1 at h
  refine Wf.sCm tkJ9_max_7cf53 rfl (fun w => ?_) (fun w => ?_)
  · refine Wf.sIl tkJ9_max_7cf53 rfl rfl ?_
    rw [if_pos (show 1 < y from w)] at h
    exact Wf.sIr tkJ9_max_7cf53 rfl h
  · refine Wf.sIl tkJ9_max_7cf53 rfl rfl ?_
    refine Wf.sGo tkJ9_max_7cf53 rfl ?_
    rw [if_neg (show ¬ 1 < y from w)] at h
    exact Wf.sIr tkJ9_max_7cf53 rfl h
set_option maxRecDepth 20000 in
theorem k_wall {k : Int32} (hp : Nat.blt 0 p = true) (kp : kk M p 3 = true) (h1 : (mI M p 3 >>> (k &&& 31)) &&& 1 = 0 → kr (some (.int 0)) M) (h2 : ¬ (mI M p 3 >>> (k &&& 31)) &&& 1 = 0 → kr (some (.int 1)) M) : Ev l X uX3_isWall d true 0 0 [.ref p, .int k] M kr := by
  refine Ev.of (by decide) (Nat.le_of_ble_eq_true rfl) ?_
  refine Wf.sAl tkX3_isWall rfl rfl hp ?_
  refine Wf.sG tkX3_isWall rfl kp ?_
  refine Wf.sIl tkX3_isWall rfl rfl ?_
  refine Wf.s2 (x := mI M p 3) (y := k) tkX3_isWall rfl ?_
  refine Wf.sIc tkX3_isWall rfl ?_
  refine Wf.s2 tkX3_isWall rfl ?_
  refine Wf.sIf tkX3_isWall rfl (fun w => ?_) (fun w => ?_)
  · refine Wf.sIc tkX3_isWall rfl ?_
    exact Wf.sZr tkX3_isWall rfl (Or.inl rfl) (h1 w)
  · refine Wf.sIc tkX3_isWall rfl ?_
    refine Wf.sGo tkX3_isWall rfl ?_
    exact Wf.sZr tkX3_isWall rfl (Or.inr rfl) (h2 w)
theorem mx1_ne (w : Int32) : ¬ mx1 w = 0 := by
  unfold mx1
  split
  · rename_i h
    intro z
    rw [z] at h
    exact absurd h (by decide)
  · decide
set_option maxRecDepth 20000 in
theorem k_next5 {k s : Int32} (hp : Nat.blt 0 p = true) (kp : kk M p 3 = true) (h : kr (some (.int (nx5 (mI M p 0) (mI M p 1) (mI M p 3) k s))) M) : Ev l X uX5_next (d + 1) true 0 0 [.ref 41, .ref p, .int k, .int s] M kr := by
  refine Ev.of (by decide) (Nat.le_of_ble_eq_true rfl) ?_
  refine Wf.sIl tkX5_next rfl rfl ?_
  refine Wf.sIc tkX5_next rfl ?_
  refine Wf.sAl tkX5_next rfl rfl hp ?_
  refine Wf.sG tkX5_next rfl kp ?_
  refine Wf.sCs (as := [.int 1, .int (mI M p 0)]) (rest := [.int k]) tkX5_next rfl rfl rfl ?_
  refine k_maxI ?_
  refine Wf.stp1 tkX5_next (o := o2d 9 (fun x y => x / y)) rfl ⟨mx1_ne _, ?_⟩
  refine Wf.sIs tkX5_next rfl rfl ?_
  refine Wf.sIl tkX5_next rfl rfl ?_
  refine Wf.sIl tkX5_next rfl rfl ?_
  refine Wf.sAl tkX5_next rfl rfl hp ?_
  refine Wf.sG tkX5_next rfl kp ?_
  refine Wf.s2 (x := k / mx1 (mI M p 0)) (y := mI M p 0) tkX5_next rfl ?_
  refine Wf.s2 (x := k) (y := k / mx1 (mI M p 0) * mI M p 0) tkX5_next rfl ?_
  refine Wf.sIs tkX5_next rfl rfl ?_
  refine Wf.sIl tkX5_next rfl rfl ?_
  show Wf l X uX5_next (d + 1) true (mC M + 0, mS M + 0) 25 [(0, .ref 41), (1, .ref p), (2, .int k), (3, .int s), (4, .int (k / mx1 (mI M p 0))), (5, .int (k - k / mx1 (mI M p 0) * mI M p 0))] [.int (k / mx1 (mI M p 0))] M kr
  generalize hrow : k / mx1 (mI M p 0) = row
  generalize hcol : k - row * mI M p 0 = col
  have eR : nxR (mI M p 0) k s = row + (if s = 2 then 1 else 0) - (if s = 0 then 1 else 0) := by unfold nxR; rw [hrow]
  have eC : nxC (mI M p 0) k s = col + (if s = 1 then 1 else 0) - (if s = 3 then 1 else 0) := by unfold nxC; rw [hrow, hcol]
  have j4 : ∀ tr tc : Int32, nxR (mI M p 0) k s = tr → nxC (mI M p 0) k s = tc → Wf l X uX5_next (d + 1) true (mC M + 0, mS M + 0) 74 [(0, .ref 41), (1, .ref p), (2, .int k), (3, .int s), (4, .int row), (5, .int col), (6, .int tr), (7, .int tc)] [] M kr := by
    intro tr tc er ec
    have hbad : (tr < 0 ∨ mI M p 1 ≤ tr ∨ tc < 0 ∨ ¬ tc < mI M p 0) → Wf l X uX5_next (d + 1) true (mC M + 0, mS M + 0) 102 [(0, .ref 41), (1, .ref p), (2, .int k), (3, .int s), (4, .int row), (5, .int col), (6, .int tr), (7, .int tc)] [] M kr := by
      intro hb
      refine Wf.sIc tkX5_next rfl ?_
      refine Wf.sIr tkX5_next rfl ?_
      unfold nx5 at h
      rw [er, ec, if_pos hb] at h
      exact h
    refine Wf.sIl tkX5_next rfl rfl ?_
    refine Wf.sIf tkX5_next rfl (fun w => hbad (Or.inl w)) (fun w1 => ?_)
    refine Wf.sIl tkX5_next rfl rfl ?_
    refine Wf.sAl tkX5_next rfl rfl hp ?_
    refine Wf.sG tkX5_next rfl kp ?_
    refine Wf.sCm (x := tr) (y := mI M p 1) tkX5_next rfl (fun w => hbad (Or.inr (Or.inl w))) (fun w2 => ?_)
    refine Wf.sIl tkX5_next rfl rfl ?_
    refine Wf.sIf tkX5_next rfl (fun w => hbad (Or.inr (Or.inr (Or.inl w)))) (fun w3 => ?_)
    refine Wf.sIl tkX5_next rfl rfl ?_
    refine Wf.sAl tkX5_next rfl rfl hp ?_
    refine Wf.sG tkX5_next rfl kp ?_
    refine Wf.sCm (x := tc) (y := mI M p 0) tkX5_next rfl (fun w4 => ?_) (fun w => hbad (Or.inr (Or.inr (Or.inr w))))
    refine Wf.sIl tkX5_next rfl rfl ?_
    refine Wf.sAl tkX5_next rfl rfl hp ?_
    refine Wf.sG tkX5_next rfl kp ?_
    refine Wf.s2 (x := tr) (y := mI M p 0) tkX5_next rfl ?_
    refine Wf.sIl tkX5_next rfl rfl ?_
    refine Wf.s2 tkX5_next rfl ?_
    refine Wf.sIs tkX5_next rfl rfl ?_
    refine Wf.sAl tkX5_next rfl rfl hp ?_
    refine Wf.sIl tkX5_next rfl rfl ?_
    refine Wf.sCv (as := [.int (tr * mI M p 0 + tc)]) (rest := []) tkX5_next rfl rfl kp rfl ?_
    have hg : ¬ (tr < 0 ∨ mI M p 1 ≤ tr ∨ tc < 0 ∨ ¬ tc < mI M p 0) := by
      rintro (z | z | z | z)
      · exact w1 z
      · exact w2 z
      · exact w3 z
      · exact z w4
    unfold nx5 at h
    rw [er, ec, if_neg hg] at h
    refine k_wall hp kp (fun w => ?_) (fun w => ?_)
    · rw [if_pos w] at h
      refine Wf.sIf tkX5_next rfl (fun _ => ?_) (fun z => absurd rfl z)
      refine Wf.sIl tkX5_next rfl rfl ?_
      exact Wf.sIr tkX5_next rfl h
    · rw [if_neg w] at h
      refine Wf.sIf tkX5_next rfl (fun z => absurd z (by decide)) (fun _ => ?_)
      refine Wf.sIc tkX5_next rfl ?_
      refine Wf.sGo tkX5_next rfl ?_
      exact Wf.sIr tkX5_next rfl h
  have j3 : ∀ tr tc0 : Int32, nxR (mI M p 0) k s = tr → col + (if s = 1 then 1 else 0) = tc0 → Wf l X uX5_next (d + 1) true (mC M + 0, mS M + 0) 61 [(0, .ref 41), (1, .ref p), (2, .int k), (3, .int s), (4, .int row), (5, .int col), (6, .int tr)] [.int tc0] M kr := by
    intro tr tc0 er ec
    refine Wf.sIl tkX5_next rfl rfl ?_
    refine Wf.sIc tkX5_next rfl ?_
    refine Wf.sCm (x := s) (y := 3) tkX5_next rfl (fun w => ?_) (fun w => ?_)
    · refine Wf.sIc tkX5_next rfl ?_
      refine Wf.s2 tkX5_next rfl ?_
      refine Wf.sIs tkX5_next rfl rfl ?_
      exact j4 tr _ er (by rw [eC, ec, if_neg w])
    · refine Wf.sIc tkX5_next rfl ?_
      refine Wf.sGo tkX5_next rfl ?_
      refine Wf.s2 tkX5_next rfl ?_
      refine Wf.sIs tkX5_next rfl rfl ?_
      exact j4 tr _ er (by rw [eC, ec, if_pos w])
  have j2 : ∀ tr : Int32, nxR (mI M p 0) k s = tr → Wf l X uX5_next (d + 1) true (mC M + 0, mS M + 0) 48 [(0, .ref 41), (1, .ref p), (2, .int k), (3, .int s), (4, .int row), (5, .int col), (6, .int tr)] [] M kr := by
    intro tr er
    refine Wf.sIl tkX5_next rfl rfl ?_
    refine Wf.sIl tkX5_next rfl rfl ?_
    refine Wf.sIc tkX5_next rfl ?_
    refine Wf.sCm (x := s) (y := 1) tkX5_next rfl (fun w => ?_) (fun w => ?_)
    · refine Wf.sIc tkX5_next rfl ?_
      refine Wf.s2 tkX5_next rfl ?_
      exact j3 tr _ er (by rw [if_neg w])
    · refine Wf.sIc tkX5_next rfl ?_
      refine Wf.sGo tkX5_next rfl ?_
      refine Wf.s2 tkX5_next rfl ?_
      exact j3 tr _ er (by rw [if_pos w])
  have j1 : ∀ r0 : Int32, row + (if s = 2 then 1 else 0) = r0 → Wf l X uX5_next (d + 1) true (mC M + 0, mS M + 0) 36 [(0, .ref 41), (1, .ref p), (2, .int k), (3, .int s), (4, .int row), (5, .int col)] [.int r0] M kr := by
    intro r0 er
    refine Wf.sIl tkX5_next rfl rfl ?_
    refine Wf.sIf tkX5_next rfl (fun w => ?_) (fun w => ?_)
    · refine Wf.sIc tkX5_next rfl ?_
      refine Wf.s2 tkX5_next rfl ?_
      refine Wf.sIs tkX5_next rfl rfl ?_
      exact j2 _ (by rw [eR, er, if_neg w])
    · refine Wf.sIc tkX5_next rfl ?_
      refine Wf.sGo tkX5_next rfl ?_
      refine Wf.s2 tkX5_next rfl ?_
      refine Wf.sIs tkX5_next rfl rfl ?_
      exact j2 _ (by rw [eR, er, if_pos w])
  refine Wf.sIl tkX5_next rfl rfl ?_
  refine Wf.sIc tkX5_next rfl ?_
  refine Wf.sCm (x := s) (y := 2) tkX5_next rfl (fun w => ?_) (fun w => ?_)
  · refine Wf.sIc tkX5_next rfl ?_
    refine Wf.s2 tkX5_next rfl ?_
    exact j1 _ (by rw [if_neg w])
  · refine Wf.sIc tkX5_next rfl ?_
    refine Wf.sGo tkX5_next rfl ?_
    refine Wf.s2 tkX5_next rfl ?_
    exact j1 _ (by rw [if_pos w])
theorem nx5_b {w dp wl k s : Int32} (hw : 0 ≤ w.toInt ∧ w.toInt ≤ 5) (hd : 0 ≤ dp.toInt ∧ dp.toInt ≤ 4) : nx5 w dp wl k s = -2 ∨ (0 ≤ (nx5 w dp wl k s).toInt ∧ (nx5 w dp wl k s).toInt ≤ 19) := by
  unfold nx5
  split
  · exact Or.inl rfl
  · rename_i h
    split
    · refine Or.inr ?_
      generalize nxR w k s = r at h
      generalize nxC w k s = c at h
      have h1 : ¬ r < 0 := fun z => h (Or.inl z)
      have h2 : ¬ dp ≤ r := fun z => h (Or.inr (Or.inl z))
      have h3 : ¬ c < 0 := fun z => h (Or.inr (Or.inr (Or.inl z)))
      have h4 : c < w := Classical.byContradiction fun z => h (Or.inr (Or.inr (Or.inr z)))
      rw [Int32.lt_iff_toInt_lt] at h1 h3 h4
      rw [Int32.le_iff_toInt_le] at h2
      have e0 : (0 : Int32).toInt = 0 := rfl
      rw [e0] at h1 h3
      have e1 : r.toInt * w.toInt ≤ 3 * 5 := Int.mul_le_mul (by omega) hw.2 hw.1 (by omega)
      have e2 : 0 ≤ r.toInt * w.toInt := Int.mul_nonneg (by omega) hw.1
      have lo : iLo ≤ 0 := by decide
      have hi : (100 : Int) ≤ iHi := by decide
      have em : (r * w).toInt = r.toInt * w.toInt := mul_i (by omega) (by omega)
      rw [add_i (by rw [em]; omega) (by rw [em]; omega), em]
      omega
    · exact Or.inl rfl
set_option maxRecDepth 20000 in
theorem k_weight {k : Int32} (k41 : kk M 41 5 = true) (h : ∀ r : Int32, kr (some (.int r)) M) : Ev l X uX5_weight d true 0 0 [.ref 41, .int k] M kr := by
  refine Ev.of (by decide) (Nat.le_of_ble_eq_true rfl) ?_
  refine Wf.sAl tkX5_weight rfl rfl rfl ?_
  refine Wf.sG tkX5_weight rfl k41 ?_
  refine Wf.sIl tkX5_weight rfl rfl ?_
  refine Wf.s2 (x := mI M 41 1) (y := k) tkX5_weight rfl ?_
  refine Wf.sIc tkX5_weight rfl ?_
  refine Wf.s2 tkX5_weight rfl ?_
  refine Wf.sIc tkX5_weight rfl ?_
  refine Wf.s2 tkX5_weight rfl ?_
  exact Wf.sIr tkX5_weight rfl (h _)
/-- a step that leads somewhere -/
def stG (M : Mm) (p : Nat) (k s : Int32) : Prop := ¬ nx5 (mI M p 0) (mI M p 1) (mI M p 3) k s = -2
set_option maxRecDepth 20000 in
theorem k_first {k : Nat} (hk : k ≤ 19) (hI : Iv Pt8 M) (hp : p = 7 ∨ p = 20) (h0 : kr (some (.int (-2))) M) (h1 : ∀ s : Int32, ¬ s = -2 → stG M p (nI k) s → kr (some (.int s)) M) : Ev l X uX5_firstStep (d + 2) true 0 0 [.ref 41, .ref p, .int (nI k)] M kr := by
  have hp0 : Nat.blt 0 p = true := by rcases hp with rfl | rfl <;> rfl
  have kp : kk M p 3 = true := by rcases hp with rfl | rfl <;> exact kk_ok hI (by decide +kernel)
  have k41 : kk M 41 5 = true := kk_ok hI (by decide +kernel)
  have k42 : kk M 42 9 = true := kk_ok hI (by decide +kernel)
  have r41 : mR M 41 0 = 42 := List.mem_singleton.mp (hI.2.2.1 41 0 (by decide))
  have m42 : (mK M 42).2 = 20 := by rw [hI.2.1 42 (by decide)]; rfl
  have bw : (0 : Int) ≤ (mI M p 0).toInt ∧ (mI M p 0).toInt ≤ 5 := by rcases hp with rfl | rfl <;> exact hI.2.2.2 _ 0 (by decide)
  have bd : (0 : Int) ≤ (mI M p 1).toInt ∧ (mI M p 1).toInt ≤ 4 := by rcases hp with rfl | rfl <;> exact hI.2.2.2 _ 1 (by decide)
  refine Ev.of (by decide) (Nat.le_of_ble_eq_true rfl) ?_
  have key : ∀ s, s ≤ 4 → ∀ zs : Ls, (zs = [] ∨ ∃ z : Int32, zs = [(4, .int z)]) → Wf l X uX5_firstStep (d + 2) true (mC M + 0, mS M + 0) 2 ([(0, .ref 41), (1, .ref p), (2, .int (nI k)), (3, .int (nI s))] ++ zs) [] M kr := by
    have kee : ∀ (s : Nat) (zs : Ls), (zs = [] ∨ ∃ z : Int32, zs = [(4, .int z)]) → Wf l X uX5_firstStep (d + 2) true (mC M + 0, mS M + 0) 2 [(0, .ref 41), (1, .ref p), (2, .int (nI k)), (3, .int (nI s))] [] M kr → Wf l X uX5_firstStep (d + 2) true (mC M + 0, mS M + 0) 2 ([(0, .ref 41), (1, .ref p), (2, .int (nI k)), (3, .int (nI s))] ++ zs) [] M kr := by
      intro s zs hz hW
      refine Wf.keep [0, 1, 2, 3] ?_
      rcases hz with rfl | ⟨z, rfl⟩ <;> exact hW
    refine dwn _ 4 ?_ ?_
    · intro zs hz
      refine kee 4 zs hz ?_
      refine Wf.sIl tkX5_firstStep rfl rfl ?_
      refine Wf.sIc tkX5_firstStep rfl ?_
      refine Wf.sCm (x := nI 4) (y := 4) tkX5_firstStep rfl (fun _ => ?_) (fun z => absurd (show (4 : Int32) ≤ nI 4 by decide) z)
      refine Wf.sIc tkX5_firstStep rfl ?_
      exact Wf.sIr tkX5_firstStep rfl h0
    · intro s hs ih zs hz
      refine kee s zs hz ?_
      have inc : ∀ o : Int32, Wf l X uX5_firstStep (d + 2) true (mC M + 0, mS M + 0) 49 [(0, .ref 41), (1, .ref p), (2, .int (nI k)), (3, .int (nI s)), (4, .int o)] [] M kr := by
        intro o
        refine Wf.sInc tkX5_firstStep rfl rfl rfl ?_
        refine Wf.sGo tkX5_firstStep rfl ?_
        rw [nI_1]
        exact ih [(4, .int o)] (Or.inr ⟨o, rfl⟩)
      refine Wf.sIl tkX5_firstStep rfl rfl ?_
      refine Wf.sIc tkX5_firstStep rfl ?_
      refine Wf.sCm (x := nI s) (y := 4) tkX5_firstStep rfl (fun z => absurd (show nI 4 ≤ nI s from z) (nI_ge hs (by decide))) (fun _ => ?_)
      refine Wf.sAl tkX5_firstStep rfl rfl rfl ?_
      refine Wf.sAl tkX5_firstStep rfl rfl hp0 ?_
      refine Wf.sIl tkX5_firstStep rfl rfl ?_
      refine Wf.sIl tkX5_firstStep rfl rfl ?_
      refine Wf.sCv (as := [.ref p, .int (nI k), .int (nI s)]) (rest := []) tkX5_firstStep rfl rfl k41 rfl ?_
      refine k_next5 hp0 kp ?_
      generalize ho : nx5 (mI M p 0) (mI M p 1) (mI M p 3) (nI k) (nI s) = o
      have hob := nx5_b (wl := mI M p 3) (k := nI k) (s := nI s) bw bd
      rw [ho] at hob
      refine Wf.sIs tkX5_firstStep rfl rfl ?_
      refine Wf.sIl tkX5_firstStep rfl rfl ?_
      refine Wf.sIc tkX5_firstStep rfl ?_
      refine Wf.sCm (x := o) (y := -2) tkX5_firstStep rfl (fun _ => inc o) (fun w => ?_)
      have w : ¬ o = -2 := w
      have hob : 0 ≤ o.toInt ∧ o.toInt ≤ 19 := by
        rcases hob with z | z
        · exact absurd z w
        · exact z
      refine Wf.sAl tkX5_firstStep rfl rfl rfl ?_
      refine Wf.sG tkX5_firstStep rfl k41 ?_
      show Wf l X uX5_firstStep (d + 2) true _ 27 _ [.ref (mR M 41 0)] M kr
      rw [r41]
      refine Wf.sIl tkX5_firstStep rfl rfl ?_
      refine Wf.sIal (j := o.toInt.toNat) tkX5_firstStep rfl k42 ⟨nI_at (by omega) (by omega), by omega, by rw [m42]; omega⟩ ?_
      refine Wf.sIc tkX5_firstStep rfl ?_
      refine Wf.s2 tkX5_firstStep rfl ?_
      refine Wf.sAl tkX5_firstStep rfl rfl rfl ?_
      refine Wf.sIl tkX5_firstStep rfl rfl ?_
      refine Wf.sCv (as := [.int (nI k)]) (rest := [.int (mI M 42 o.toInt.toNat + 1)]) tkX5_firstStep rfl rfl k41 rfl ?_
      refine k_weight k41 (fun r => ?_)
      refine Wf.s2 (x := mI M 42 o.toInt.toNat + 1) (y := r) tkX5_firstStep rfl ?_
      refine Wf.sAl tkX5_firstStep rfl rfl rfl ?_
      refine Wf.sG tkX5_firstStep rfl k41 ?_
      show Wf l X uX5_firstStep (d + 2) true _ 42 _ [.ref (mR M 41 0), .int (mI M 42 o.toInt.toNat + 1 + r)] M kr
      rw [r41]
      refine Wf.sIl tkX5_firstStep rfl rfl ?_
      refine Wf.sIal (j := k) tkX5_firstStep rfl k42 ⟨rfl, by omega, by rw [m42]; omega⟩ ?_
      refine Wf.sCm tkX5_firstStep rfl (fun _ => inc o) (fun _ => ?_)
      refine Wf.sIl tkX5_firstStep rfl rfl ?_
      refine Wf.sIr tkX5_firstStep rfl (h1 (nI s) ?_ (by unfold stG; rw [ho]; exact w))
      intro z
      have := congrArg Int32.toInt z
      rw [nI_toInt (by omega)] at this
      have e2 : (-2 : Int32).toInt = -2 := by decide
      omega
  refine Wf.sIc tkX5_firstStep rfl ?_
  refine Wf.sIs tkX5_firstStep rfl rfl ?_
  exact key 0 (by decide) [] (Or.inl rfl)
set_option maxRecDepth 20000 in
theorem sa_loop {b : Nat × Nat} {f0 i : Int32} (hI : Iv Pt8 M) (hp : p = 7 ∨ p = 20) (h : ∀ r : Int32, kr (some (.int r)) M) : ∀ (n : Nat) (k : Nat) (s gone : Int32), (i.toInt - gone.toInt).toNat < n → k ≤ 19 → (s = -2 ∨ stG M p (nI k) s) → Wf l X uX5_stepAt (d + 3) true b 15 [(0, .ref 41), (1, .ref p), (2, .int f0), (3, .int i), (4, .int (nI k)), (5, .int s), (6, .int gone)] [] M kr := by
  have hp0 : Nat.blt 0 p = true := by rcases hp with rfl | rfl <;> rfl
  have kp : kk M p 3 = true := by rcases hp with rfl | rfl <;> exact kk_ok hI (by decide +kernel)
  have k41 : kk M 41 5 = true := kk_ok hI (by decide +kernel)
  have bw : (0 : Int) ≤ (mI M p 0).toInt ∧ (mI M p 0).toInt ≤ 5 := by rcases hp with rfl | rfl <;> exact hI.2.2.2 _ 0 (by decide)
  have bd : (0 : Int) ≤ (mI M p 1).toInt ∧ (mI M p 1).toInt ≤ 4 := by rcases hp with rfl | rfl <;> exact hI.2.2.2 _ 1 (by decide)
  intro n
  induction n with
  | zero => intro k s gone hn; exact absurd hn (Nat.not_lt_zero _)
  | succ n ih =>
    intro k s gone hn hk hs
    have fin : Wf l X uX5_stepAt (d + 3) true b 54 [(0, .ref 41), (1, .ref p), (2, .int f0), (3, .int i), (4, .int (nI k)), (5, .int s), (6, .int gone)] [] M kr := by
      refine Wf.sIl tkX5_stepAt rfl rfl ?_
      exact Wf.sIr tkX5_stepAt rfl (h s)
    refine Wf.sIl tkX5_stepAt rfl rfl ?_
    refine Wf.sIl tkX5_stepAt rfl rfl ?_
    refine Wf.sCm (x := gone) (y := i) tkX5_stepAt rfl (fun _ => fin) (fun w1 => ?_)
    refine Wf.sIl tkX5_stepAt rfl rfl ?_
    refine Wf.sIc tkX5_stepAt rfl ?_
    refine Wf.sCm (x := s) (y := -2) tkX5_stepAt rfl (fun _ => fin) (fun w2 => ?_)
    have hs : stG M p (nI k) s := by
      rcases hs with z | z
      · exact absurd z w2
      · exact z
    refine Wf.sAl tkX5_stepAt rfl rfl rfl ?_
    refine Wf.sAl tkX5_stepAt rfl rfl hp0 ?_
    refine Wf.sIl tkX5_stepAt rfl rfl ?_
    refine Wf.sIl tkX5_stepAt rfl rfl ?_
    refine Wf.sCv (as := [.ref p, .int (nI k), .int s]) (rest := []) tkX5_stepAt rfl rfl k41 rfl ?_
    refine k_next5 (d := d + 1) hp0 kp ?_
    have hob := nx5_b (wl := mI M p 3) (k := nI k) (s := s) bw bd
    unfold stG at hs
    generalize ho : nx5 (mI M p 0) (mI M p 1) (mI M p 3) (nI k) s = o at hob hs ⊢
    have hob : 0 ≤ o.toInt ∧ o.toInt ≤ 19 := by
      rcases hob with z | z
      · exact absurd z hs
      · exact z
    have eo : o = nI o.toInt.toNat := nI_at (by omega) (by omega)
    rw [eo]
    refine Wf.sIs tkX5_stepAt rfl rfl ?_
    refine Wf.sAl tkX5_stepAt rfl rfl rfl ?_
    refine Wf.sAl tkX5_stepAt rfl rfl hp0 ?_
    refine Wf.sIl tkX5_stepAt rfl rfl ?_
    refine Wf.sCv (as := [.ref p, .int (nI o.toInt.toNat)]) (rest := []) tkX5_stepAt rfl rfl k41 rfl ?_
    have go : ∀ s' : Int32, (s' = -2 ∨ stG M p (nI o.toInt.toNat) s') → Wf l X uX5_stepAt (d + 3) true b 46 [(0, .ref 41), (1, .ref p), (2, .int f0), (3, .int i), (4, .int (nI o.toInt.toNat)), (5, .int s), (6, .int gone)] [.int s'] M kr := by
      intro s' hs'
      refine Wf.sIs tkX5_stepAt rfl rfl ?_
      refine Wf.sInc tkX5_stepAt rfl rfl rfl ?_
      refine Wf.sGo tkX5_stepAt rfl ?_
      have w1 : ¬ i ≤ gone := w1
      rw [Int32.le_iff_toInt_le] at w1
      have hi := i32_hi i
      have eg : (gone + 1).toInt = gone.toInt + 1 := add_i (by have := i32_lo gone; have e1 : (1 : Int32).toInt = 1 := rfl; omega) (by have e1 : (1 : Int32).toInt = 1 := rfl; omega)
      exact ih o.toInt.toNat s' (gone + 1) (by rw [eg]; omega) (by omega) hs'
    exact k_first (d := d) (by omega) hI hp (go (-2) (Or.inl rfl)) (fun s' _ hs' => go s' (Or.inr hs'))
set_option maxRecDepth 20000 in
theorem vh_stepAt {e : Int} (d : Nat) : Vc l X U0 Pt8 e (d + 4) ((47, [(2, 0, 0, [41]), (2, 0, 0, [7, 20]), (0, 0, 19, []), (0, iLo, iHi, [])], []), [], [(some (0, iLo, iHi, []), [], [])]) := by
  intro av M kr hI he hb hf hr
  obtain ⟨v, t, rfl, hv, ht⟩ := gbs_1 hb
  obtain ⟨v2, t, rfl, hv2, ht⟩ := gbs_1 ht
  obtain ⟨v3, t, rfl, hv3, ht⟩ := gbs_1 ht
  obtain ⟨v4, t, rfl, hv4, ht⟩ := gbs_1 ht
  obtain rfl := gbs_0 ht
  obtain rfl := gb_r1 hv
  obtain ⟨p, rfl, hm⟩ := gb_r hv2
  obtain ⟨k, rfl, hk1, hk2⟩ := gb_i hv3
  obtain ⟨i, rfl, -, -⟩ := gb_i hv4
  have hp : p = 7 ∨ p = 20 := by
    rcases List.mem_cons.mp hm with z | z
    · exact Or.inl z
    · exact Or.inr (List.mem_singleton.mp z)
  have hp0 : Nat.blt 0 p = true := by rcases hp with rfl | rfl <;> rfl
  have k41 : kk M 41 5 = true := kk_ok hI (by decide +kernel)
  have hk : ∀ r : Int32, kr (some (.int r)) M := fun r => hr _ M (Jv.rf hI he) gps_any
  have ek : k = nI k.toInt.toNat := nI_at (by omega) (by omega)
  show Ev l X uX5_stepAt (d + 4) true 0 0 _ M kr
  refine Ev.of (by decide) (Nat.le_of_ble_eq_true rfl) ?_
  rw [ek]
  refine Wf.sIl tkX5_stepAt rfl rfl ?_
  refine Wf.sIs tkX5_stepAt rfl rfl ?_
  refine Wf.sAl tkX5_stepAt rfl rfl rfl ?_
  refine Wf.sAl tkX5_stepAt rfl rfl hp0 ?_
  refine Wf.sIl tkX5_stepAt rfl rfl ?_
  refine Wf.sCv (as := [.ref p, .int (nI k.toInt.toNat)]) (rest := []) tkX5_stepAt rfl rfl k41 rfl ?_
  have go : ∀ s : Int32, (s = -2 ∨ stG M p (nI k.toInt.toNat) s) → Wf l X uX5_stepAt (d + 4) true (mC M + 0, mS M + 0) 10 [(0, .ref 41), (1, .ref p), (2, .int (nI k.toInt.toNat)), (3, .int i), (4, .int (nI k.toInt.toNat))] [.int s] M kr := by
    intro s hs
    refine Wf.sIs tkX5_stepAt rfl rfl ?_
    refine Wf.sIc tkX5_stepAt rfl ?_
    refine Wf.sIs tkX5_stepAt rfl rfl ?_
    exact sa_loop (d := d + 1) hI hp hk ((i.toInt - (0 : Int32).toInt).toNat + 1) k.toInt.toNat s 0 (Nat.lt_succ_self _) (by omega) hs
  exact k_first (d := d + 1) (by omega) hI hp (go (-2) (Or.inl rfl)) (fun s' _ hs' => go s' (Or.inr hs'))
end STP5
