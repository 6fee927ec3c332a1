/-! feed and close of both sides, over states in which the two tapeds may differ -/
section FC
variable {l : Launch} {X : Nat × (Nat → Int32)} {M : Mm} {kr : KR} {a b : Nat}
def L2 (a b : Nat) (M : Mm) : Prop := Iv Pt8 M ∧ RefI M ∧ mI M 2 1 = nI a ∧ mI M 150 2 = nI b
theorem L2_LI (h : L2 a a M) (ha : a ≤ 900) : LI M := ⟨h.1, h.2.1, a, ha, h.2.2.1, h.2.2.2⟩
theorem L2_e (h : L2 a b M) : (0 : Int) ≤ (mI M 150 5).toInt := by
  obtain ⟨p, hp, hI⟩ := h.2.1
  exact ((t_up hp hI).1.2.2.2 150 5 (by decide)).1
def fdA (a : Nat) : Nat := if a ≤ 880 then a + 20 else a
def fdR (a : Nat) : Int32 := if a ≤ 880 then nI (a + 20) else -1
def clA (n : Int32) (a : Nat) : Nat := if inB n 0 (nI a) = true then 0 else a
theorem fdA_b (h : a ≤ 900) : fdA a ≤ 900 := by unfold fdA; split <;> omega
theorem clA_b {n : Int32} (h : a ≤ 900) : clA n a ≤ 900 := by unfold clA; split <;> omega
theorem clA_i {n v : Int32} (h : v = nI a) : (if inB n 0 v = true then 0 else v) = nI (clA n a) := by
  rw [h]
  unfold clA
  split
  · rfl
  · rfl
theorem q6_feed (d : Nat) {x1 x2 x3 x4 x5 : Int32} (hL : L2 a b M) (ha : a ≤ 900) (h : ∀ M', L2 (fdA a) b M' → M'.1 = M.1 → kr (some (.int (fdR a))) M') : Ev l X uX6_feed (d + 12) true 0 0 [.ref 1, .int x1, .int x2, .int x3, .int x4, .int x5] M kr := by
  refine fd6 (d := d + 11) (e := 0) hL.1 (L2_e hL) hL.2.2.1 ha (fun z => ?_) (fun M' z hJ ht => ?_)
  · have e1 : fdA a = a := by unfold fdA; rw [if_neg (by omega)]
    have e2 : fdR a = -1 := by unfold fdR; rw [if_neg (by omega)]
    have := h M (by rw [e1]; exact hL) rfl
    rw [e2] at this
    exact this
  · have e1 : fdA a = a + 20 := by unfold fdA; rw [if_pos z]
    have e2 : fdR a = nI (a + 20) := by unfold fdR; rw [if_pos z]
    have := h M' ⟨hJ.2.1, RefI_keep hL.2.1 hJ.2.1 hJ.2.2.1 (by decide +kernel), by rw [e1]; exact ht, by rw [(hJ.2.2.1 150 2 rfl).1]; exact hL.2.2.2⟩ hJ.1
    rw [e2] at this
    exact this
theorem rwx_f {p : Nat} (hp : p < 7) : lkR (rwx p) 151 = [] ∧ rwB (lkR (rwx p) 150) 2 = (0, 900) ∧ rwB (lkR (rwx p) 150) 0 = (iLo, iHi) := by
  rcases lt7 hp with rfl | rfl | rfl | rfl | rfl | rfl | rfl <;> exact ⟨rfl, rfl, rfl⟩
theorem q7_feed (d : Nat) {x1 x2 x3 x4 x5 : Int32} (hL : L2 a b M) (hb : b ≤ 900) (h : ∀ M', L2 a (fdA b) M' → M'.1 = M.1 → kr (some (.int (fdR b))) M') : Ev l X uX7_feed (d + 12) true 0 0 [.ref 150, .int x1, .int x2, .int x3, .int x4, .int x5] M kr := by
  obtain ⟨p, hp, hI⟩ := hL.2.1
  obtain ⟨p1, p2, p3⟩ := rwx_f hp
  refine fd7 (d := d + 12) (e := 0) p1 p2 p3 hI (L2_e hL) hL.2.2.2 hb (fun M' z hJ ht => ?_) (fun M' z hJ ht => ?_)
  · have e1 : fdA b = b := by unfold fdA; rw [if_neg (by omega)]
    have e2 : fdR b = -1 := by unfold fdR; rw [if_neg (by omega)]
    have := h M' ⟨Iv_keep hL.1 hJ.2.1 hJ.2.2.1 (by decide +kernel), ⟨p, hp, hJ.2.1⟩, by rw [(hJ.2.2.1 2 1 rfl).1]; exact hL.2.2.1, by rw [e1]; exact ht⟩ hJ.1
    rw [e2] at this
    exact this
  · have e1 : fdA b = b + 20 := by unfold fdA; rw [if_pos z]
    have e2 : fdR b = nI (b + 20) := by unfold fdR; rw [if_pos z]
    have := h M' ⟨Iv_keep hL.1 hJ.2.1 hJ.2.2.1 (by decide +kernel), ⟨p, hp, hJ.2.1⟩, by rw [(hJ.2.2.1 2 1 rfl).1]; exact hL.2.2.1, by rw [e1]; exact ht⟩ hJ.1
    rw [e2] at this
    exact this
theorem q6_close (d : Nat) {n : Int32} (hL : L2 a b M) (h : ∀ (r : Int32) (M' : Mm), L2 (clA n a) b M' → M'.1 = M.1 → kr (some (.int r)) M') : Ev l X uX6_close (d + 12) true 0 0 [.ref 1, .int n] M kr := by
  refine cl6_ev (d := d + 1) (e := 0) hL.1 (L2_e hL) (fun r M' hJ ht => ?_)
  exact h r M' ⟨hJ.2.1, RefI_keep hL.2.1 hJ.2.1 hJ.2.2.1 (by decide +kernel), by rw [ht]; exact clA_i hL.2.2.1, by rw [(hJ.2.2.1 150 2 rfl).1]; exact hL.2.2.2⟩ hJ.1
theorem q7_close (d : Nat) {n : Int32} (hL : L2 a b M) (h : ∀ (r : Int32) (M' : Mm), L2 a (clA n b) M' → M'.1 = M.1 → kr (some (.int r)) M') : Ev l X uX7_close (d + 12) true 0 0 [.ref 150, .int n] M kr := by
  refine cl_ref (d := d + 1) hL.2.1 (fun r M' hR h1 hk ht => ?_)
  obtain ⟨p, hp, hI⟩ := hR
  exact h r M' ⟨Iv_keep hL.1 hI hk (by decide +kernel), ⟨p, hp, hI⟩, by rw [(hk 2 1 rfl).1]; exact hL.2.2.1, by rw [ht]; exact clA_i hL.2.2.2⟩ h1
end FC
