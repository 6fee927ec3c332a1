/-! canon and bread: the class's side -/
section GAM
variable {l : Launch} {X : Nat × (Nat → Int32)} {d : Nat} {w : Nat × Nat} {p r : Nat} {I : Nat → Nat → Int32} {L : Nat → Nat → Int64} {kr : KR} {M : Mm}
def shr (e : Int32) (s u o : Bool) : Int32 := if s = true then (if o = true then (if u = true then 1 else 2) else (if u = true then 3 - e else -e)) else (if o = true then (if u = true then 3 else 0) else (if u = true then 0 else 2))
set_option maxRecDepth 20000 in
theorem x_share {e o : Int32} {s u : Bool} (h : kr (some (.int (shr e s u (decide (¬ o = 0))))) M) : Ev l X uX6_share d true 0 0 [.int e, .int (bI s), .int (bI u), .int o] M kr := by
  refine Ev.of (by decide) (Nat.le_of_ble_eq_true rfl) ?_
  refine Wf.gc tkX6_share [] ?_
  by_cases c : o = 0
  · rw [show decide (¬ o = 0) = false from decide_eq_false (fun z => z c)] at h
    cases s <;> cases u <;> conv => whnf
    · refine b1 (by decide) ?_
      conv => whnf
      refine b1' c ?_
      conv => whnf
      refine b1 (by decide) ?_
      conv => whnf
      exact h
    · refine b1 (by decide) ?_
      conv => whnf
      refine b1' c ?_
      conv => whnf
      refine b2 (fun z => z rfl) ?_
      conv => whnf
      exact h
    · refine b2 (fun z => z rfl) ?_
      conv => whnf
      refine b1' c ?_
      conv => whnf
      refine b1 (by decide) ?_
      conv => whnf
      exact h
    · refine b2 (fun z => z rfl) ?_
      conv => whnf
      refine b1' c ?_
      conv => whnf
      refine b2 (fun z => z rfl) ?_
      conv => whnf
      exact h
  · rw [show decide (¬ o = 0) = true from decide_eq_true c] at h
    cases s <;> cases u <;> conv => whnf
    · refine b1 (by decide) ?_
      conv => whnf
      refine b2' c ?_
      conv => whnf
      refine b1 (by decide) ?_
      conv => whnf
      exact h
    · refine b1 (by decide) ?_
      conv => whnf
      refine b2' c ?_
      conv => whnf
      refine b2 (fun z => z rfl) ?_
      conv => whnf
      exact h
    · refine b2 (fun z => z rfl) ?_
      conv => whnf
      refine b2' c ?_
      conv => whnf
      refine b1 (by decide) ?_
      conv => whnf
      exact h
    · refine b2 (fun z => z rfl) ?_
      conv => whnf
      refine b2' c ?_
      conv => whnf
      refine b2 (fun z => z rfl) ?_
      conv => whnf
      exact h
end GAM
