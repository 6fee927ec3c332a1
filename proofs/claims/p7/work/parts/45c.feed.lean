/-! the class's feed, with what is on the tape -/
section FDY
variable {l : Launch} {X : Nat × (Nat → Int32)} {d : Nat} {w : Nat × Nat} {p r : Nat} {I : Nat → Nat → Int32} {L : Nat → Nat → Int64} {kr : KR}
def w5 (x1 x2 x3 x4 x5 : Int32) : Nat → Int32
  | 0 => x1
  | 1 => x2
  | 2 => x3
  | 3 => x4
  | _ => x5
/-- byte k of five words -/
def b20 (x1 x2 x3 x4 x5 : Int32) (k : Nat) : Nat := by4 (w5 x1 x2 x3 x4 x5 (k / 4)) (k % 4)
set_option maxHeartbeats 2000000 in
set_option maxRecDepth 20000 in
theorem x_feed {t : Nat} {x1 x2 x3 x4 x5 : Int32} (ht : I 2 1 = nI t) (h9 : t ≤ 900) (h0 : 880 < t → kr (some (.int (-1))) (mk w p r I L)) (h1 : t ≤ 880 → ∀ I' : Nat → Nat → Int32, (∀ a i, ¬ (a = 2 ∧ i = 1) → ¬ (a = 3 ∧ t ≤ i ∧ i < t + 20) → I' a i = I a i) → I' 2 1 = nI (t + 20) → (∀ j, j < 20 → I' 3 (t + j) = sb (b20 x1 x2 x3 x4 x5 j)) → kr (some (.int (nI (t + 20)))) (mk w p r I' L)) : Ev l X uX6_feed (d + 1) true 0 0 [.ref 1, .int x1, .int x2, .int x3, .int x4, .int x5] (mk w p r I L) kr := by
  refine Ev.of (by decide) (Nat.le_of_ble_eq_true rfl) ?_
  refine Wf.gc tkX6_feed [] ?_
  conv => whnf
  have ev : (I 2 1 + 20 : Int32) = nI (t + 20) := by rw [ht, show (20 : Int32) = nI 20 from rfl, nI_add]
  by_cases c : t ≤ 880
  · refine b1' (by show I 2 1 + 20 ≤ (900 : Int32); rw [ev, show (900 : Int32) = nI 900 from rfl, nI_leI (by omega) (by decide)]; omega) ?_
    conv => whnf
    refine x_tape (I := I) (t := t) ht (by omega) (fun I1 h1a h1b h1c => ?_)
    have h1b : I1 2 1 = nI (t + 4) := h1b
    conv => whnf
    refine x_tape (I := I1) (t := t + 4) h1b (by omega) (fun I2 h2a h2b h2c => ?_)
    have h2b : I2 2 1 = nI (t + 8) := h2b
    conv => whnf
    refine x_tape (I := I2) (t := t + 8) h2b (by omega) (fun I3 h3a h3b h3c => ?_)
    have h3b : I3 2 1 = nI (t + 12) := h3b
    conv => whnf
    refine x_tape (I := I3) (t := t + 12) h3b (by omega) (fun I4 h4a h4b h4c => ?_)
    have h4b : I4 2 1 = nI (t + 16) := h4b
    conv => whnf
    refine x_tape (I := I4) (t := t + 16) h4b (by omega) (fun I5 h5a h5b h5c => ?_)
    have h5b : I5 2 1 = nI (t + 20) := h5b
    conv => whnf
    have fin := h1 c I5 (fun a i z1 z2 => by rw [h5a a i z1 (by omega), h4a a i z1 (by omega), h3a a i z1 (by omega), h2a a i z1 (by omega), h1a a i z1 (by omega)]) h5b (fun j hj => ?_)
    · rw [← h5b] at fin
      exact fin
    · unfold b20
      rcases (show j / 4 = 0 ∨ j / 4 = 1 ∨ j / 4 = 2 ∨ j / 4 = 3 ∨ j / 4 = 4 by omega) with z | z | z | z | z
      · rw [z, h5a 3 (t + j) (by omega) (by omega), h4a 3 (t + j) (by omega) (by omega), h3a 3 (t + j) (by omega) (by omega), h2a 3 (t + j) (by omega) (by omega), show t + j = t + j % 4 by omega]
        exact h1c (j % 4) (Nat.mod_lt _ (by decide))
      · rw [z, h5a 3 (t + j) (by omega) (by omega), h4a 3 (t + j) (by omega) (by omega), h3a 3 (t + j) (by omega) (by omega), show t + j = t + 4 + j % 4 by omega]
        exact h2c (j % 4) (Nat.mod_lt _ (by decide))
      · rw [z, h5a 3 (t + j) (by omega) (by omega), h4a 3 (t + j) (by omega) (by omega), show t + j = t + 8 + j % 4 by omega]
        exact h3c (j % 4) (Nat.mod_lt _ (by decide))
      · rw [z, h5a 3 (t + j) (by omega) (by omega), show t + j = t + 12 + j % 4 by omega]
        exact h4c (j % 4) (Nat.mod_lt _ (by decide))
      · rw [z, show t + j = t + 16 + j % 4 by omega]
        exact h5c (j % 4) (Nat.mod_lt _ (by decide))
  · refine b2' (by show ¬ I 2 1 + 20 ≤ (900 : Int32); rw [ev, show (900 : Int32) = nI 900 from rfl, nI_leI (by omega) (by decide)]; omega) ?_
    conv => whnf
    exact h0 (by omega)
end FDY
