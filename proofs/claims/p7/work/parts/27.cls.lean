/-! what a close of the reference may change -/
def msC : Md3 := [(150, 0, 0), (150, 2, 11), (150, 13, 14), (150, 22, 23), (152, 0, 7), (153, 0, 201), (154, 0, 201), (155, 0, 24), (156, 0, 24), (157, 0, 24)]
theorem all2 {f : Nat → Bool} (h : (List.range 2).all f = true) {s : Nat} (hs : s < 2) : f s = true := List.all_eq_true.mp h s (List.mem_range.mpr hs)
theorem lt2 {s : Nat} (h : s < 2) : s = 0 ∨ s = 1 := by omega
theorem gre_i {r : Option Value} {a b : Int} (h : gre r (some (0, a, b, []))) : ∃ x, r = some (.int x) := by
  cases r with
  | none => exact h.elim
  | some v =>
    cases v with
    | int x => exact ⟨x, rfl⟩
    | long x => have := h.1; cases this
    | ref x => have := h.1; cases this
    | _ => exact h.elim
