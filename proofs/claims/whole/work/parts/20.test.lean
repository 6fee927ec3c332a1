theorem kX3_cells {l : Launch} {X : Nat × (Nat → Int32)} {d a : Nat} {M : Mm} {kr : KR} (h0 : Nat.blt 0 a = true) (ha : kk M a 3 = true) (h : kr (some (.int (mI M a 0 * mI M a 1))) M) : Ev l X uX3_cells d true 0 0 [.ref a] M kr := by
  refine Ev.of (by decide) (by decide) ?_
  refine Wf.go tkX3_cells 6 ?_
  conv => whnf
  simp only [h0, cond_true]
  conv => whnf
  simp only [ha, cond_true]
  conv => whnf
  simp only [h0, cond_true]
  conv => whnf
  simp only [ha, cond_true]
  conv => whnf
  exact h
theorem kX3_cells2 {l : Launch} {X : Nat × (Nat → Int32)} {d a : Nat} {M : Mm} {kr : KR} (h0 : Nat.blt 0 a = true) (ha : kk M a 3 = true) (h : kr (some (.int (mI M a 0 * mI M a 1))) M) : Ev l X uX3_cells d true 0 0 [.ref a] M kr := by
  refine Ev.of (by decide) (by decide) ?_
  refine Wf.go tkX3_cells 6 ?_
  simp only [go, lo, tbX3_cells, lv_args, Nat.beq, oAl, oG, o2, oIr, lg, sv, cond_true, cond_false, h0, ha]
  exact h
theorem kX3_faceOver {l : Launch} {X : Nat × (Nat → Int32)} {d a : Nat} {M : Mm} {kr : KR} {k : Int32} (h0 : Nat.blt 0 a = true) (ha : kk M a 3 = true) (h : ∀ v, kr (some (.int v)) M) : Ev l X uX3_faceOver d true 0 0 [.ref a, .int k] M kr := by
  refine Ev.of (by decide) (by decide) ?_
  refine Wf.go tkX3_faceOver 8 ?_
  conv => whnf
  simp only [h0, cond_true]
  conv => whnf
  simp only [ha, cond_true]
  conv => whnf
  trace_state
  sorry
