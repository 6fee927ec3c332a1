/-! two contracts of one call hold together -/
section BTH
theorem mf_both {l : Launch} {x : MethodName} {S : Spec} {P : Array Value → State → Prop} {K : Program → Env → List Frame → State → Array Value → Prop} {Q1 Q2 : Array Value → State → Outcome → State → Prop} (h1 : MetFree l x S P K Q1) (h2 : MetFree l x S P K Q2) : MetFree l x S P K (fun a s o t => Q1 a s o t ∧ Q2 a s o t) := by
  intro p e ha hc hk s m args below hf hS hP hK
  obtain ⟨n1, o1, w1, r1, e1, q1⟩ := h1 p e ha hc hk s m args below hf hS hP hK
  obtain ⟨n2, o2, w2, r2, e2, q2⟩ := h2 p e ha hc hk s m args below hf hS hP hK
  have hn : n1 = n2 := by
    rcases Nat.lt_trichotomy n1 n2 with z | z | z
    · exact absurd (w2 n1 z) e1.not_within
    · exact z
    · exact absurd (w1 n2 z) e2.not_within
  subst hn
  have ho := e1.outcome_unique e2
  subst ho
  exact ⟨n1, o1, w1, r1, e1, q1, q2⟩
end BTH
