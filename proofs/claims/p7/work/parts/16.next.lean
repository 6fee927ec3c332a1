/-! letters, digits -/
section NXT
variable {l : Launch} {X : Nat × (Nat → Int32)} {d : Nat} {M : Mm} {kr : KR}
/-- a letter, a digit -/
def smL (c : Int32) : Bool := decide (¬ c < 97) && decide (¬ 122 < c)
def dgL (c : Int32) : Bool := decide (¬ c < 48) && decide (¬ 57 < c)
set_option maxRecDepth 20000 in
theorem k_small {c : Int32} (h0 : smL c = false → kr (some (.int 0)) M) (h1 : smL c = true → kr (some (.int 1)) M) : Ev l X uX7_isSmall d true 0 0 [.int c] M kr := by
  refine Ev.of (by decide) (Nat.le_of_ble_eq_true rfl) ?_
  have r0 : smL c = false → ∀ ls, Wf l X uX7_isSmall d true (mC M + 0, mS M + 0) 16 ls [] M kr := by
    intro h ls
    refine Wf.sIc tkX7_isSmall rfl ?_
    exact Wf.sZr tkX7_isSmall rfl (Or.inl rfl) (h0 h)
  refine Wf.sIl tkX7_isSmall rfl rfl ?_
  refine Wf.sIc tkX7_isSmall rfl ?_
  refine Wf.sCm tkX7_isSmall rfl (fun z => r0 ?_ _) (fun z1 => ?_)
  · have z : c < 97 := z
    unfold smL
    rw [decide_eq_false (fun q => q z)]
    rfl
  refine Wf.sIl tkX7_isSmall rfl rfl ?_
  refine Wf.sIc tkX7_isSmall rfl ?_
  refine Wf.sCm tkX7_isSmall rfl (fun z => r0 ?_ _) (fun z2 => ?_)
  · have z : 122 < c := z
    unfold smL
    rw [show decide (¬ 122 < c) = false from decide_eq_false (fun q => q z), Bool.and_false]
  refine Wf.sIc tkX7_isSmall rfl ?_
  refine Wf.sGo tkX7_isSmall rfl ?_
  refine Wf.sZr tkX7_isSmall rfl (Or.inr rfl) (h1 ?_)
  unfold smL
  rw [decide_eq_true (show ¬ c < 97 from z1), decide_eq_true (show ¬ 122 < c from z2)]
  rfl
set_option maxRecDepth 20000 in
theorem k_digit {c : Int32} (h0 : dgL c = false → kr (some (.int 0)) M) (h1 : dgL c = true → kr (some (.int 1)) M) : Ev l X uX7_isDigit d true 0 0 [.int c] M kr := by
  refine Ev.of (by decide) (Nat.le_of_ble_eq_true rfl) ?_
  have r0 : dgL c = false → ∀ ls, Wf l X uX7_isDigit d true (mC M + 0, mS M + 0) 16 ls [] M kr := by
    intro h ls
    refine Wf.sIc tkX7_isDigit rfl ?_
    exact Wf.sZr tkX7_isDigit rfl (Or.inl rfl) (h0 h)
  refine Wf.sIl tkX7_isDigit rfl rfl ?_
  refine Wf.sIc tkX7_isDigit rfl ?_
  refine Wf.sCm tkX7_isDigit rfl (fun z => r0 ?_ _) (fun z1 => ?_)
  · have z : c < 48 := z
    unfold dgL
    rw [decide_eq_false (fun q => q z)]
    rfl
  refine Wf.sIl tkX7_isDigit rfl rfl ?_
  refine Wf.sIc tkX7_isDigit rfl ?_
  refine Wf.sCm tkX7_isDigit rfl (fun z => r0 ?_ _) (fun z2 => ?_)
  · have z : 57 < c := z
    unfold dgL
    rw [show decide (¬ 57 < c) = false from decide_eq_false (fun q => q z), Bool.and_false]
  refine Wf.sIc tkX7_isDigit rfl ?_
  refine Wf.sGo tkX7_isDigit rfl ?_
  refine Wf.sZr tkX7_isDigit rfl (Or.inr rfl) (h1 ?_)
  unfold dgL
  rw [decide_eq_true (show ¬ c < 48 from z1), decide_eq_true (show ¬ 57 < c from z2)]
  rfl
end NXT
