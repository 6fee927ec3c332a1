/-! the reference's steps, and the costs that it lays -/
def hbB (s k : Int32) : Bool := decide ((s >>> (k &&& 31)) &&& 1 = 1)
def isw (wl gw k : Int32) : Bool := !(decide (k = gw)) && hbB wl k
def dxI (s : Int32) : Int32 := if s = 1 then 1 else if s = 3 then -1 else 0
def dyI (s : Int32) : Int32 := if s = 2 then 1 else if s = 0 then -1 else 0
def sfx (w k s : Int32) : Int32 := k - k / w * w + dxI s
def sfy (w k s : Int32) : Int32 := k / w + dyI s
def inB (v lo hi : Int32) : Bool := decide (¬ v < lo) && decide (¬ hi < v)
def sfI (w dp wl gw k s : Int32) : Int32 := if (inB (sfx w k s) 0 (w - 1) && (inB (sfy w k s) 0 (dp - 1) && (!(isw wl gw k) && !(isw wl gw (sfy w k s * w + sfx w k s))))) = true then sfy w k s * w + sfx w k s else -2
def coI (wet k : Int32) : Int32 := if hbB wet k = true then 1000 else 0
section LAY9
variable {l : Launch} {X : Nat × (Nat → Int32)} {d : Nat} {M : Mm} {kr : KR}
theorem k_bitB {s k : Int32} (h : kr (some (.int (if hbB s k = true then 1 else 0))) M) : Ev l X uX7_hasBit d true 0 0 [.int s, .int k] M kr := by
  refine k_bit (fun w => ?_) (fun w => ?_)
  · have e : hbB s k = false := decide_eq_false w
    rw [e, if_neg (by decide)] at h
    exact h
  · have e : hbB s k = true := decide_eq_true w
    rw [e, if_pos rfl] at h
    exact h
set_option maxRecDepth 20000 in
theorem k_inB {v lo hi : Int32} (h : kr (some (.int (if inB v lo hi = true then 1 else 0))) M) : Ev l X uX7_in d true 0 0 [.int v, .int lo, .int hi] M kr := by
  refine Ev.of (by decide) (Nat.le_of_ble_eq_true rfl) ?_
  have r0 : inB v lo hi = false → ∀ ls, Wf l X uX7_in d true (mC M + 0, mS M + 0) 14 ls [] M kr := by
    intro e ls
    rw [e, if_neg (by decide)] at h
    refine Wf.sIc tkX7_in rfl ?_
    exact Wf.sZr tkX7_in rfl (Or.inl rfl) h
  refine Wf.sIl tkX7_in rfl rfl ?_
  refine Wf.sIl tkX7_in rfl rfl ?_
  refine Wf.sCm tkX7_in rfl (fun w => r0 ?_ _) (fun w1 => ?_)
  · unfold inB
    rw [show decide (¬ v < lo) = false from decide_eq_false (fun q => q w)]
    rfl
  refine Wf.sIl tkX7_in rfl rfl ?_
  refine Wf.sIl tkX7_in rfl rfl ?_
  refine Wf.sCm tkX7_in rfl (fun w => r0 ?_ _) (fun w2 => ?_)
  · unfold inB
    rw [show decide (¬ hi < v) = false from decide_eq_false (fun q => q w), Bool.and_false]
  have e : inB v lo hi = true := by
    unfold inB
    rw [decide_eq_true (show ¬ v < lo from w1), decide_eq_true (show ¬ hi < v from w2)]
    rfl
  rw [e, if_pos rfl] at h
  refine Wf.sIc tkX7_in rfl ?_
  refine Wf.sGo tkX7_in rfl ?_
  exact Wf.sZr tkX7_in rfl (Or.inr rfl) h
variable {R : List (Nat × List Row)} {e : Int}
set_option maxRecDepth 20000 in
theorem k_isw {k : Int32} (hI : Iv (mkP R) M) (h : kr (some (.int (if isw (mI M 153 10) (mI M 150 26) k = true then 1 else 0))) M) : Ev l X uX7_isWall (d + 1) true 0 0 [.ref 150, .int k] M kr := by
  have k150 : kk M 150 7 = true := kk_ok hI rfl
  have k153 : kk M 153 9 = true := kk_ok hI rfl
  have r15 : mR M 150 15 = 153 := List.mem_singleton.mp (hI.2.2.1 150 15 (by decide))
  have m153 : (mK M 153).2 = 202 := by rw [hI.2.1 153 (by decide)]; rfl
  refine Ev.of (by decide) (Nat.le_of_ble_eq_true rfl) ?_
  have r0 : isw (mI M 153 10) (mI M 150 26) k = false → ∀ ls, Wf l X uX7_isWall (d + 1) true (mC M + 0, mS M + 0) 26 ls [] M kr := by
    intro e ls
    rw [e, if_neg (by decide)] at h
    refine Wf.sIc tkX7_isWall rfl ?_
    exact Wf.sZr tkX7_isWall rfl (Or.inl rfl) h
  refine Wf.sIl tkX7_isWall rfl rfl ?_
  refine Wf.sAl tkX7_isWall rfl rfl rfl ?_
  refine Wf.sG tkX7_isWall rfl k150 ?_
  refine Wf.sCm (x := k) (y := mI M 150 26) tkX7_isWall rfl (fun w => r0 ?_ _) (fun w1 => ?_)
  · unfold isw
    rw [decide_eq_true (show k = mI M 150 26 from w)]
    rfl
  refine Wf.sAl tkX7_isWall rfl rfl rfl ?_
  refine Wf.sG tkX7_isWall rfl k150 ?_
  show Wf l X uX7_isWall (d + 1) true _ 12 _ [.ref (mR M 150 15)] M kr
  rw [r15]
  refine Wf.sIc tkX7_isWall rfl ?_
  refine Wf.sIal (j := 10) tkX7_isWall rfl k153 ⟨by decide, by decide, by rw [m153]; decide⟩ ?_
  refine Wf.sIl tkX7_isWall rfl rfl ?_
  refine Wf.sCs (as := [.int (mI M 153 10), .int k]) (rest := []) tkX7_isWall rfl rfl rfl ?_
  have e1 : decide (k = mI M 150 26) = false := decide_eq_false w1
  refine k_bitB ?_
  cases hb : hbB (mI M 153 10) k with
  | false =>
    refine Wf.sIf tkX7_isWall rfl (fun _ => r0 ?_ _) (fun z => absurd rfl z)
    unfold isw
    rw [e1, hb]
    rfl
  | true =>
    refine Wf.sIf tkX7_isWall rfl (fun z => absurd z (by decide)) (fun _ => ?_)
    have e : isw (mI M 153 10) (mI M 150 26) k = true := by
      unfold isw
      rw [e1, hb]
      rfl
    rw [e, if_pos rfl] at h
    refine Wf.sIc tkX7_isWall rfl ?_
    refine Wf.sGo tkX7_isWall rfl ?_
    exact Wf.sZr tkX7_isWall rfl (Or.inr rfl) h
set_option maxRecDepth 20000 in
theorem k_cof {k wet : Int32} (h : kr (some (.int (coI wet k))) M) : Ev l X uX7_costOf (d + 1) true 0 0 [.ref 150, .int k, .int wet] M kr := by
  refine Ev.of (by decide) (Nat.le_of_ble_eq_true rfl) ?_
  refine Wf.sIl tkX7_costOf rfl rfl ?_
  refine Wf.sIl tkX7_costOf rfl rfl ?_
  refine Wf.sCs (as := [.int wet, .int k]) (rest := []) tkX7_costOf rfl rfl rfl ?_
  refine k_bitB ?_
  unfold coI at h
  cases hb : hbB wet k with
  | false =>
    rw [hb, if_neg (by decide)] at h
    refine Wf.sIf tkX7_costOf rfl (fun _ => ?_) (fun z => absurd rfl z)
    refine Wf.sIc tkX7_costOf rfl ?_
    exact Wf.sIr tkX7_costOf rfl h
  | true =>
    rw [hb, if_pos rfl] at h
    refine Wf.sIf tkX7_costOf rfl (fun z => absurd z (by decide)) (fun _ => ?_)
    refine Wf.sIc tkX7_costOf rfl ?_
    refine Wf.sGo tkX7_costOf rfl ?_
    exact Wf.sIr tkX7_costOf rfl h
set_option maxRecDepth 20000 in
theorem k_sf {k s : Int32} (hI : Iv (mkP R) M) (hw0 : ¬ mI M 153 0 = 0) (h : kr (some (.int (sfI (mI M 153 0) (mI M 153 1) (mI M 153 10) (mI M 150 26) k s))) M) : Ev l X uX7_stepFrom (d + 2) true 0 0 [.ref 150, .int k, .int s] M kr := by
  have k150 : kk M 150 7 = true := kk_ok hI rfl
  have k153 : kk M 153 9 = true := kk_ok hI rfl
  have r15 : mR M 150 15 = 153 := List.mem_singleton.mp (hI.2.2.1 150 15 (by decide))
  have m153 : (mK M 153).2 = 202 := by rw [hI.2.1 153 (by decide)]; rfl
  refine Ev.of (by decide) (Nat.le_of_ble_eq_true rfl) ?_
  have bad : (inB (sfx (mI M 153 0) k s) 0 (mI M 153 0 - 1) && (inB (sfy (mI M 153 0) k s) 0 (mI M 153 1 - 1) && (!(isw (mI M 153 10) (mI M 150 26) k) && !(isw (mI M 153 10) (mI M 150 26) (sfy (mI M 153 0) k s * mI M 153 0 + sfx (mI M 153 0) k s))))) = false → ∀ ls, Wf l X uX7_stepFrom (d + 2) true (mC M + 0, mS M + 0) 117 ls [] M kr := by
    intro hb ls
    unfold sfI at h
    rw [hb, if_neg (by decide)] at h
    refine Wf.sIc tkX7_stepFrom rfl ?_
    exact Wf.sIr tkX7_stepFrom rfl h
  have j58 : Wf l X uX7_stepFrom (d + 2) true (mC M + 0, mS M + 0) 58 [(0, .ref 150), (1, .int k), (2, .int s), (3, .int (sfx (mI M 153 0) k s)), (4, .int (sfy (mI M 153 0) k s))] [] M kr := by
    generalize hx : sfx (mI M 153 0) k s = x at h bad ⊢
    generalize hy : sfy (mI M 153 0) k s = y at h bad ⊢
    unfold sfI at h
    rw [hx, hy] at h
    refine Wf.sIl tkX7_stepFrom rfl rfl ?_
    refine Wf.sIc tkX7_stepFrom rfl ?_
    refine Wf.sAl tkX7_stepFrom rfl rfl rfl ?_
    refine Wf.sG tkX7_stepFrom rfl k150 ?_
    show Wf l X uX7_stepFrom (d + 2) true _ 64 _ (.ref (mR M 150 15) :: [.int 0, .int x]) M kr
    rw [r15]
    refine Wf.sIc tkX7_stepFrom rfl ?_
    refine Wf.sIal (j := 0) tkX7_stepFrom rfl k153 ⟨by decide, by decide, by rw [m153]; decide⟩ ?_
    refine Wf.sIc tkX7_stepFrom rfl ?_
    refine Wf.s2 tkX7_stepFrom rfl ?_
    refine Wf.sCs (as := [.int x, .int 0, .int (mI M 153 0 - 1)]) (rest := []) tkX7_stepFrom rfl rfl rfl ?_
    refine k_inB ?_
    cases b1 : inB x 0 (mI M 153 0 - 1) with
    | false => exact Wf.sIf tkX7_stepFrom rfl (fun _ => bad (by rw [b1]; rfl) _) (fun z => absurd rfl z)
    | true =>
    refine Wf.sIf tkX7_stepFrom rfl (fun z => absurd z (by decide)) (fun _ => ?_)
    refine Wf.sIl tkX7_stepFrom rfl rfl ?_
    refine Wf.sIc tkX7_stepFrom rfl ?_
    refine Wf.sAl tkX7_stepFrom rfl rfl rfl ?_
    refine Wf.sG tkX7_stepFrom rfl k150 ?_
    show Wf l X uX7_stepFrom (d + 2) true _ 81 _ (.ref (mR M 150 15) :: [.int 0, .int y]) M kr
    rw [r15]
    refine Wf.sIc tkX7_stepFrom rfl ?_
    refine Wf.sIal (j := 1) tkX7_stepFrom rfl k153 ⟨by decide, by decide, by rw [m153]; decide⟩ ?_
    refine Wf.sIc tkX7_stepFrom rfl ?_
    refine Wf.s2 tkX7_stepFrom rfl ?_
    refine Wf.sCs (as := [.int y, .int 0, .int (mI M 153 1 - 1)]) (rest := []) tkX7_stepFrom rfl rfl rfl ?_
    refine k_inB ?_
    cases b2 : inB y 0 (mI M 153 1 - 1) with
    | false => exact Wf.sIf tkX7_stepFrom rfl (fun _ => bad (by rw [b1, b2]; rfl) _) (fun z => absurd rfl z)
    | true =>
    refine Wf.sIf tkX7_stepFrom rfl (fun z => absurd z (by decide)) (fun _ => ?_)
    refine Wf.sAl tkX7_stepFrom rfl rfl rfl ?_
    refine Wf.sIl tkX7_stepFrom rfl rfl ?_
    refine Wf.sCv (as := [.int k]) (rest := []) tkX7_stepFrom rfl rfl k150 rfl ?_
    refine k_isw hI ?_
    cases b3 : isw (mI M 153 10) (mI M 150 26) k with
    | true => exact Wf.sIf tkX7_stepFrom rfl (fun _ => bad (by rw [b1, b2, b3]; rfl) _) (fun z => absurd z (by decide))
    | false =>
    refine Wf.sIf tkX7_stepFrom rfl (fun z => absurd rfl z) (fun _ => ?_)
    refine Wf.sAl tkX7_stepFrom rfl rfl rfl ?_
    refine Wf.sIl tkX7_stepFrom rfl rfl ?_
    refine Wf.sAl tkX7_stepFrom rfl rfl rfl ?_
    refine Wf.sG tkX7_stepFrom rfl k150 ?_
    show Wf l X uX7_stepFrom (d + 2) true _ 106 _ (.ref (mR M 150 15) :: [.int y, .ref 150]) M kr
    rw [r15]
    refine Wf.sIc tkX7_stepFrom rfl ?_
    refine Wf.sIal (j := 0) tkX7_stepFrom rfl k153 ⟨by decide, by decide, by rw [m153]; decide⟩ ?_
    refine Wf.s2 tkX7_stepFrom rfl ?_
    refine Wf.sIl tkX7_stepFrom rfl rfl ?_
    refine Wf.s2 tkX7_stepFrom rfl ?_
    refine Wf.sCv (as := [.int (y * mI M 153 0 + x)]) (rest := []) tkX7_stepFrom rfl rfl k150 rfl ?_
    refine k_isw hI ?_
    cases b4 : isw (mI M 153 10) (mI M 150 26) (y * mI M 153 0 + x) with
    | true => exact Wf.sIf tkX7_stepFrom rfl (fun z => absurd z (by decide)) (fun _ => bad (by rw [b1, b2, b3, b4]; rfl) _)
    | false =>
    refine Wf.sIf tkX7_stepFrom rfl (fun _ => ?_) (fun z => absurd rfl z)
    rw [b1, b2, b3, b4, if_pos (by decide)] at h
    refine Wf.sIl tkX7_stepFrom rfl rfl ?_
    refine Wf.sAl tkX7_stepFrom rfl rfl rfl ?_
    refine Wf.sG tkX7_stepFrom rfl k150 ?_
    show Wf l X uX7_stepFrom (d + 2) true _ 126 _ (.ref (mR M 150 15) :: [.int y]) M kr
    rw [r15]
    refine Wf.sIc tkX7_stepFrom rfl ?_
    refine Wf.sIal (j := 0) tkX7_stepFrom rfl k153 ⟨by decide, by decide, by rw [m153]; decide⟩ ?_
    refine Wf.s2 tkX7_stepFrom rfl ?_
    refine Wf.sIl tkX7_stepFrom rfl rfl ?_
    refine Wf.s2 tkX7_stepFrom rfl ?_
    exact Wf.sIr tkX7_stepFrom rfl h
  have j55 : ∀ dy : Int32, dyI s = dy → Wf l X uX7_stepFrom (d + 2) true (mC M + 0, mS M + 0) 55 [(0, .ref 150), (1, .int k), (2, .int s), (3, .int (sfx (mI M 153 0) k s))] [.int dy, .int (k / mI M 153 0)] M kr := by
    intro dy hdy
    refine Wf.s2 tkX7_stepFrom rfl ?_
    refine Wf.sIs tkX7_stepFrom rfl rfl ?_
    rw [show sfy (mI M 153 0) k s = k / mI M 153 0 + dy from by unfold sfy; rw [hdy]] at j58
    exact j58
  have j29 : Wf l X uX7_stepFrom (d + 2) true (mC M + 0, mS M + 0) 29 [(0, .ref 150), (1, .int k), (2, .int s), (3, .int (sfx (mI M 153 0) k s))] [] M kr := by
    refine Wf.sIl tkX7_stepFrom rfl rfl ?_
    refine Wf.sAl tkX7_stepFrom rfl rfl rfl ?_
    refine Wf.sG tkX7_stepFrom rfl k150 ?_
    show Wf l X uX7_stepFrom (d + 2) true _ 34 _ (.ref (mR M 150 15) :: [.int k]) M kr
    rw [r15]
    refine Wf.sIc tkX7_stepFrom rfl ?_
    refine Wf.sIal (j := 0) tkX7_stepFrom rfl k153 ⟨by decide, by decide, by rw [m153]; decide⟩ ?_
    refine Wf.stp1 tkX7_stepFrom (o := o2d 36 (fun x y => x / y)) rfl ⟨hw0, ?_⟩
    refine Wf.sIl tkX7_stepFrom rfl rfl ?_
    refine Wf.sIc tkX7_stepFrom rfl ?_
    refine Wf.sCm (x := s) (y := 2) tkX7_stepFrom rfl (fun w => ?_) (fun w => ?_)
    · refine Wf.sIl tkX7_stepFrom rfl rfl ?_
      refine Wf.sIf tkX7_stepFrom rfl (fun w2 => ?_) (fun w2 => ?_)
      · refine Wf.sIc tkX7_stepFrom rfl ?_
        exact j55 0 (by unfold dyI; rw [if_neg w, if_neg w2])
      · refine Wf.sIc tkX7_stepFrom rfl ?_
        refine Wf.sGo tkX7_stepFrom rfl ?_
        exact j55 (-1) (by unfold dyI; rw [if_neg w, if_pos w2])
    · refine Wf.sIc tkX7_stepFrom rfl ?_
      refine Wf.sGo tkX7_stepFrom rfl ?_
      exact j55 1 (by unfold dyI; rw [if_pos w])
  have j27 : ∀ dx : Int32, dxI s = dx → Wf l X uX7_stepFrom (d + 2) true (mC M + 0, mS M + 0) 27 [(0, .ref 150), (1, .int k), (2, .int s)] [.int dx, .int (k - k / mI M 153 0 * mI M 153 0)] M kr := by
    intro dx hdx
    refine Wf.s2 tkX7_stepFrom rfl ?_
    refine Wf.sIs tkX7_stepFrom rfl rfl ?_
    rw [show sfx (mI M 153 0) k s = k - k / mI M 153 0 * mI M 153 0 + dx from by unfold sfx; rw [hdx]] at j29
    exact j29
  refine Wf.sIl tkX7_stepFrom rfl rfl ?_
  refine Wf.sAl tkX7_stepFrom rfl rfl rfl ?_
  refine Wf.sG tkX7_stepFrom rfl k150 ?_
  show Wf l X uX7_stepFrom (d + 2) true _ 5 _ (.ref (mR M 150 15) :: [.int k]) M kr
  rw [r15]
  refine Wf.sIc tkX7_stepFrom rfl ?_
  refine Wf.sIal (j := 0) tkX7_stepFrom rfl k153 ⟨by decide, by decide, by rw [m153]; decide⟩ ?_
  refine Wf.stp1 tkX7_stepFrom (o := o2d 7 (fun x y => x - x / y * y)) rfl ⟨hw0, ?_⟩
  refine Wf.sIl tkX7_stepFrom rfl rfl ?_
  refine Wf.sIc tkX7_stepFrom rfl ?_
  refine Wf.sCm (x := s) (y := 1) tkX7_stepFrom rfl (fun w => ?_) (fun w => ?_)
  · refine Wf.sIl tkX7_stepFrom rfl rfl ?_
    refine Wf.sIc tkX7_stepFrom rfl ?_
    refine Wf.sCm (x := s) (y := 3) tkX7_stepFrom rfl (fun w2 => ?_) (fun w2 => ?_)
    · refine Wf.sIc tkX7_stepFrom rfl ?_
      exact j27 0 (by unfold dxI; rw [if_neg w, if_neg w2])
    · refine Wf.sIc tkX7_stepFrom rfl ?_
      refine Wf.sGo tkX7_stepFrom rfl ?_
      exact j27 (-1) (by unfold dxI; rw [if_neg w, if_pos w2])
  · refine Wf.sIc tkX7_stepFrom rfl ?_
    refine Wf.sGo tkX7_stepFrom rfl ?_
    exact j27 1 (by unfold dxI; rw [if_pos w])
theorem sfI_b {w dp wl gw k s : Int32} (hw : 2 ≤ w.toInt ∧ w.toInt ≤ 5) (hd : 0 ≤ dp.toInt ∧ dp.toInt ≤ 4) : sfI w dp wl gw k s = -2 ∨ (0 ≤ (sfI w dp wl gw k s).toInt ∧ (sfI w dp wl gw k s).toInt ≤ 19) := by
  unfold sfI
  split
  · rename_i h
    obtain ⟨h1, h⟩ := andT h
    obtain ⟨h2, -⟩ := andT h
    refine Or.inr ?_
    generalize sfx w k s = x at h1 ⊢
    generalize sfy w k s = y at h2 ⊢
    unfold inB at h1 h2
    obtain ⟨h1, h3⟩ := andT h1
    obtain ⟨h2, h4⟩ := andT h2
    have h1 := of_decide_eq_true h1
    have h2 := of_decide_eq_true h2
    have h3 := of_decide_eq_true h3
    have h4 := of_decide_eq_true h4
    rw [Int32.lt_iff_toInt_lt] at h1 h2 h3 h4
    have e0 : (0 : Int32).toInt = 0 := rfl
    have e1 : (1 : Int32).toInt = 1 := rfl
    have lo : iLo ≤ -100 := by decide
    have hi : (100 : Int) ≤ iHi := by decide
    rw [sub_i (by omega) (by omega)] at h3 h4
    rw [e0] at h1 h2
    rw [e1] at h3 h4
    have q1 : y.toInt * w.toInt ≤ 3 * 5 := Int.mul_le_mul (by omega) hw.2 (by omega) (by omega)
    have q2 : 0 ≤ y.toInt * w.toInt := Int.mul_nonneg (by omega) (by omega)
    have em : (y * w).toInt = y.toInt * w.toInt := mul_i (by omega) (by omega)
    rw [add_i (by rw [em]; omega) (by rw [em]; omega), em]
    omega
  · exact Or.inl rfl
theorem sfI_wall {w dp wl gw k s : Int32} (h : isw wl gw k = true) : sfI w dp wl gw k s = -2 := by
  unfold sfI
  rw [h]
  rw [if_neg (by simp)]
theorem coI_b (wet k : Int32) : (coI wet k).toInt = 0 ∨ (coI wet k).toInt = 1000 := by
  unfold coI
  split
  · exact Or.inr (by decide)
  · exact Or.inl (by decide)
set_option maxRecDepth 20000 in
theorem k_cells (hI : Iv (mkP R) M) (h : kr (some (.int (mI M 153 0 * mI M 153 1))) M) : Ev l X uX7_cells d true 0 0 [.ref 150] M kr := by
  have k150 : kk M 150 7 = true := kk_ok hI rfl
  have k153 : kk M 153 9 = true := kk_ok hI rfl
  have r15 : mR M 150 15 = 153 := List.mem_singleton.mp (hI.2.2.1 150 15 (by decide))
  have m153 : (mK M 153).2 = 202 := by rw [hI.2.1 153 (by decide)]; rfl
  refine Ev.of (by decide) (Nat.le_of_ble_eq_true rfl) ?_
  refine Wf.sAl tkX7_cells rfl rfl rfl ?_
  refine Wf.sG tkX7_cells rfl k150 ?_
  show Wf l X uX7_cells d true _ 4 _ [.ref (mR M 150 15)] M kr
  rw [r15]
  refine Wf.sIc tkX7_cells rfl ?_
  refine Wf.sIal (j := 0) tkX7_cells rfl k153 ⟨by decide, by decide, by rw [m153]; decide⟩ ?_
  refine Wf.sAl tkX7_cells rfl rfl rfl ?_
  refine Wf.sG tkX7_cells rfl k150 ?_
  show Wf l X uX7_cells d true _ 10 _ [.ref (mR M 150 15), .int (mI M 153 0)] M kr
  rw [r15]
  refine Wf.sIc tkX7_cells rfl ?_
  refine Wf.sIal (j := 1) tkX7_cells rfl k153 ⟨by decide, by decide, by rw [m153]; decide⟩ ?_
  refine Wf.s2 tkX7_cells rfl ?_
  exact Wf.sIr tkX7_cells rfl h
end LAY9
