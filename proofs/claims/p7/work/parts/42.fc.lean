/-! feed and close: how taped goes -/
section FC
variable {a b : Nat}
def fdA (a : Nat) : Nat := if a ≤ 880 then a + 20 else a
def fdR (a : Nat) : Int32 := if a ≤ 880 then nI (a + 20) else -1
def clA (n : Int32) (a : Nat) : Nat := if inB n 0 (nI a) = true then 0 else a
theorem fdA_b (h : a ≤ 900) : fdA a ≤ 900 := by unfold fdA; split <;> omega
theorem clA_b {n : Int32} (h : a ≤ 900) : clA n a ≤ 900 := by unfold clA; split <;> omega
theorem clA_i {n v : Int32} (h : v = nI a) : (if inB n 0 v = true then 0 else v) = nI (clA n a) := by
  rw [h]
  unfold clA
  split
  · rfl
  · rfl
theorem rwx_f {p : Nat} (hp : p < 2) : lkR (rwx p) 151 = [] ∧ rwB (lkR (rwx p) 150) 2 = (0, 900) ∧ rwB (lkR (rwx p) 150) 0 = (iLo, iHi) := by
  rcases lt2 hp with rfl | rfl <;> exact ⟨rfl, rfl, rfl⟩
end FC
