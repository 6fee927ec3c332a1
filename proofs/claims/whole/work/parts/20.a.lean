section SA
variable {l : Launch} {X : Nat × (Nat → Int32)} {d : Nat} {w : Nat × Nat} {p r : Nat} {I : Nat → Nat → Int32} {L : Nat → Nat → Int64} {kr : KR}
theorem sX6_answer {v : Int32} (h : kr (some (.int v)) (mk w p r (u2 I 1 13 0) L)) : Ev l X uX6_answer d true 0 0 [.ref 1, .int v] (mk w p r I L) kr := by
  refine Ev.of (by decide) (Nat.le_of_ble_eq_true rfl) ?_
  refine Wf.go tkX6_answer 6 ?_
  conv => whnf
  exact h
theorem sX6_refuse {v : Int32} (h : kr (some (.int (-1))) (mk w p r (u2 I 1 13 v) L)) : Ev l X uX6_refuse d true 0 0 [.ref 1, .int v] (mk w p r I L) kr := by
  refine Ev.of (by decide) (Nat.le_of_ble_eq_true rfl) ?_
  refine Wf.go tkX6_refuse 6 ?_
  conv => whnf
  exact h
theorem sX6_within {x a b : Int32} {M : Mm} (h1 : a ≤ x → x ≤ b → kr (some (.int 1)) M) (h0 : ¬ (a ≤ x ∧ x ≤ b) → kr (some (.int 0)) M) : Ev l X uX6_within d true 0 0 [.int x, .int a, .int b] M kr := by
  refine Ev.of (by decide) (Nat.le_of_ble_eq_true rfl) ?_
  refine Wf.go tkX6_within 12 ?_
  conv => whnf
  refine ⟨fun c1 => ?_, fun c1 => ?_⟩
  · conv => whnf
    exact ⟨Or.inl rfl, h0 (fun z => absurd z.1 (Int32.not_le.mpr c1))⟩
  · conv => whnf
    refine ⟨fun c2 => ?_, fun c2 => ?_⟩
    · conv => whnf
      exact ⟨Or.inl rfl, h0 (fun z => absurd z.2 (Int32.not_le.mpr c2))⟩
    · conv => whnf
      exact ⟨Or.inr rfl, h1 (Int32.not_lt.mp c1) (Int32.not_lt.mp c2)⟩
theorem sX6_hasClose (hp : p = 7 ∨ p = 20) (h1 : 0 < I p 4 → kr (some (.int 1)) (mk w p r I L)) (h0 : ¬ 0 < I p 4 → kr (some (.int 0)) (mk w p r I L)) : Ev l X uX6_hasClose d true 0 0 [.ref 1] (mk w p r I L) kr := by
  refine Ev.of (by decide) (Nat.le_of_ble_eq_true rfl) ?_
  refine Wf.go tkX6_hasClose 12 ?_
  rcases hp with rfl | rfl
  all_goals
    conv => whnf
    refine ⟨fun c1 => ?_, fun c1 => ?_⟩
    · conv => whnf
      exact ⟨Or.inl rfl, h0 (Int32.not_lt.mpr c1)⟩
    · conv => whnf
      exact ⟨Or.inr rfl, h1 (Int32.not_le.mp c1)⟩
theorem sX6_canonOf_t (hp : p = 7 ∨ p = 20) : True := trivial
end SA
