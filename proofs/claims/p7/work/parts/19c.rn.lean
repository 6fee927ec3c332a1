theorem r_none {av : List Value} {r : Option Value} {M : Mm} {ps : List Po} (h : ps.all (fun p => p.1.isNone) = true) (hp : gps av r M ps) : r = none := by
  obtain ⟨p, hm, h1, -⟩ := hp
  have h2 := List.all_eq_true.mp h p hm
  cases hq : p.1 with
  | some b => rw [hq] at h2; cases h2
  | none =>
    rw [hq] at h1
    cases r with
    | none => rfl
    | some v => exact h1.elim
/-- an int's end -/
theorem r_int {av : List Value} {r : Option Value} {M : Mm} {ps : List Po} (h : ps.all (fun p => match p.1 with
  | some b => Nat.beq b.1 0
  | none => false) = true) (hp : gps av r M ps) : ∃ x : Int32, r = some (.int x) := by
  obtain ⟨p, hm, h1, -⟩ := hp
  have h2 := List.all_eq_true.mp h p hm
  cases hq : p.1 with
  | none => rw [hq] at h2; cases h2
  | some b =>
    rw [hq] at h1 h2
    have e0 : b.1 = 0 := Nat.eq_of_beq_eq_true h2
    cases r with
    | none => exact h1.elim
    | some v =>
      have h1 : gb v b := h1
      cases v with
      | int x => exact ⟨x, rfl⟩
      | long x => have := h1.1; omega
      | ref x => have := h1.1; omega
      | _ => exact h1.elim
