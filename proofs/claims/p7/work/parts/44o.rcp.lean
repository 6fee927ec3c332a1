/-! the reference's copies -/
section RL8
variable {l : Launch} {X : Nat × (Nat → Int32)} {d : Nat} {w : Nat × Nat} {p r : Nat} {I : Nat → Nat → Int32} {L : Nat → Nat → Int64} {kr : KR} {b : Nat → Nat} {n e : Nat} {nm : List Nm} {F : Nat → Nat} {W : Int32}
theorem y_good (h : kr none (mk w p r (u2 (u2 I 150 0 0) 150 11 0) L)) : Ev l X uX7_good d true 0 0 [.ref 150] (mk w p r I L) kr := by
  refine Ev.of (by decide) (Nat.le_of_ble_eq_true rfl) ?_
  refine Wf.gc tkX7_good [] ?_
  conv => whnf
  exact h
set_option maxHeartbeats 2000000 in
set_option maxRecDepth 20000 in
theorem y_copy3 (h : ∀ K : Nat → Nat → Int32, (∀ x i, ¬ (x = 153 ∧ i < 202) → K x i = I x i) → (∀ i, i < 202 → K 153 i = I 154 i) → kr none (mk w p r K L)) : Ev l X uX7_copy d true 0 0 [.ref 154, .int 0, .ref 153, .int 0, .int 202] (mk w p r I L) kr := by
  refine Ev.of (by decide) (Nat.le_of_ble_eq_true rfl) ?_
  refine Wf.gc tkX7_copy [3] ?_
  conv => whnf
  have loop := down (fun j => ∀ K : Nat → Nat → Int32, (∀ x i, ¬ (x = 153 ∧ i < 202) → K x i = I x i) → (∀ i, i < j → K 153 i = I 154 i) → Wf l X uX7_copy d true (mC (mk w p r I L) + 0, mS (mk w p r I L) + 0) 3 [(0, .ref 154), (1, .int 0), (2, .ref 153), (3, .int 0), (4, .int 202), (5, .int (nI j))] [] (mk w p r K L) kr) 202 ?_ ?_ 0 (Nat.zero_le _)
  · exact loop I (fun _ _ _ => rfl) (fun i hi => absurd hi (Nat.not_lt_zero _))
  · intro K k1 k2
    refine Wf.gc tkX7_copy [] ?_
    conv => whnf
    refine b1' (by decide) ?_
    conv => whnf
    exact h K k1 k2
  · intro j hj ih K k1 k2
    have ih := ih (u2 K 153 j (K 154 j)) (fun x i z => by rw [u2_o (by omega)]; exact k1 x i z) (fun i hi => by
      rcases Nat.lt_or_ge i j with z | z
      · rw [u2_o (by omega)]; exact k2 i z
      · have : i = j := by omega
        subst this
        rw [u2_s]; exact k1 154 i (by omega))
    rw [← nI_1] at ih
    refine Wf.gc tkX7_copy [3] ?_
    conv => whnf
    refine b2' (by show ¬ (202 : Int32) ≤ nI j; rw [show (202 : Int32) = nI 202 from rfl]; exact nI_ge hj (by decide)) ?_
    conv => whnf
    refine ⟨j, ⟨by show (0 + nI j : Int32) = nI j; exact Int32.zero_add _, by omega, show j < 202 by omega⟩, ?_⟩
    conv => whnf
    refine ⟨j, ⟨by show (0 + nI j : Int32) = nI j; exact Int32.zero_add _, by omega, show j < 202 by omega⟩, ?_⟩
    conv => whnf
    exact ih
set_option maxHeartbeats 2000000 in
set_option maxRecDepth 20000 in
theorem y_copy5 (h : ∀ K : Nat → Nat → Int32, (∀ x i, ¬ (x = 155 ∧ i < 25) → K x i = I x i) → (∀ i, i < 25 → K 155 i = I 156 i) → kr none (mk w p r K L)) : Ev l X uX7_copy d true 0 0 [.ref 156, .int 0, .ref 155, .int 0, .int 25] (mk w p r I L) kr := by
  refine Ev.of (by decide) (Nat.le_of_ble_eq_true rfl) ?_
  refine Wf.gc tkX7_copy [3] ?_
  conv => whnf
  have loop := down (fun j => ∀ K : Nat → Nat → Int32, (∀ x i, ¬ (x = 155 ∧ i < 25) → K x i = I x i) → (∀ i, i < j → K 155 i = I 156 i) → Wf l X uX7_copy d true (mC (mk w p r I L) + 0, mS (mk w p r I L) + 0) 3 [(0, .ref 156), (1, .int 0), (2, .ref 155), (3, .int 0), (4, .int 25), (5, .int (nI j))] [] (mk w p r K L) kr) 25 ?_ ?_ 0 (Nat.zero_le _)
  · exact loop I (fun _ _ _ => rfl) (fun i hi => absurd hi (Nat.not_lt_zero _))
  · intro K k1 k2
    refine Wf.gc tkX7_copy [] ?_
    conv => whnf
    refine b1' (by decide) ?_
    conv => whnf
    exact h K k1 k2
  · intro j hj ih K k1 k2
    have ih := ih (u2 K 155 j (K 156 j)) (fun x i z => by rw [u2_o (by omega)]; exact k1 x i z) (fun i hi => by
      rcases Nat.lt_or_ge i j with z | z
      · rw [u2_o (by omega)]; exact k2 i z
      · have : i = j := by omega
        subst this
        rw [u2_s]; exact k1 156 i (by omega))
    rw [← nI_1] at ih
    refine Wf.gc tkX7_copy [3] ?_
    conv => whnf
    refine b2' (by show ¬ (25 : Int32) ≤ nI j; rw [show (25 : Int32) = nI 25 from rfl]; exact nI_ge hj (by decide)) ?_
    conv => whnf
    refine ⟨j, ⟨by show (0 + nI j : Int32) = nI j; exact Int32.zero_add _, by omega, show j < 25 by omega⟩, ?_⟩
    conv => whnf
    refine ⟨j, ⟨by show (0 + nI j : Int32) = nI j; exact Int32.zero_add _, by omega, show j < 25 by omega⟩, ?_⟩
    conv => whnf
    exact ih
set_option maxHeartbeats 2000000 in
set_option maxRecDepth 20000 in
theorem y_copy7 (h : ∀ K : Nat → Nat → Int32, (∀ x i, ¬ (x = 157 ∧ i < 25) → K x i = I x i) → (∀ i, i < 25 → K 157 i = I 156 i) → kr none (mk w p r K L)) : Ev l X uX7_copy d true 0 0 [.ref 156, .int 0, .ref 157, .int 0, .int 25] (mk w p r I L) kr := by
  refine Ev.of (by decide) (Nat.le_of_ble_eq_true rfl) ?_
  refine Wf.gc tkX7_copy [3] ?_
  conv => whnf
  have loop := down (fun j => ∀ K : Nat → Nat → Int32, (∀ x i, ¬ (x = 157 ∧ i < 25) → K x i = I x i) → (∀ i, i < j → K 157 i = I 156 i) → Wf l X uX7_copy d true (mC (mk w p r I L) + 0, mS (mk w p r I L) + 0) 3 [(0, .ref 156), (1, .int 0), (2, .ref 157), (3, .int 0), (4, .int 25), (5, .int (nI j))] [] (mk w p r K L) kr) 25 ?_ ?_ 0 (Nat.zero_le _)
  · exact loop I (fun _ _ _ => rfl) (fun i hi => absurd hi (Nat.not_lt_zero _))
  · intro K k1 k2
    refine Wf.gc tkX7_copy [] ?_
    conv => whnf
    refine b1' (by decide) ?_
    conv => whnf
    exact h K k1 k2
  · intro j hj ih K k1 k2
    have ih := ih (u2 K 157 j (K 156 j)) (fun x i z => by rw [u2_o (by omega)]; exact k1 x i z) (fun i hi => by
      rcases Nat.lt_or_ge i j with z | z
      · rw [u2_o (by omega)]; exact k2 i z
      · have : i = j := by omega
        subst this
        rw [u2_s]; exact k1 156 i (by omega))
    rw [← nI_1] at ih
    refine Wf.gc tkX7_copy [3] ?_
    conv => whnf
    refine b2' (by show ¬ (25 : Int32) ≤ nI j; rw [show (25 : Int32) = nI 25 from rfl]; exact nI_ge hj (by decide)) ?_
    conv => whnf
    refine ⟨j, ⟨by show (0 + nI j : Int32) = nI j; exact Int32.zero_add _, by omega, show j < 25 by omega⟩, ?_⟩
    conv => whnf
    refine ⟨j, ⟨by show (0 + nI j : Int32) = nI j; exact Int32.zero_add _, by omega, show j < 25 by omega⟩, ?_⟩
    conv => whnf
    exact ih
end RL8
