/-! the class's moments: copies -/
section MOM
variable {l : Launch} {X : Nat × (Nat → Int32)} {d : Nat} {w : Nat × Nat} {p r : Nat} {I : Nat → Nat → Int32} {L : Nat → Nat → Int64} {kr : KR}
/-- the moment b becomes as a is -/
def cpO (a b : Nat) (I I' : Nat → Nat → Int32) : Prop := (∀ c i, ¬ (b ≤ c ∧ c ≤ b + 4) → I' c i = I c i) ∧ (∀ f, f < 6 → I' (b + 1) f = I (a + 1) f ∧ I' (b + 2) f = I (a + 2) f ∧ I' (b + 3) f = I (a + 3) f) ∧ (∀ c, c < 5 → I' (b + 4) c = I (a + 4) c) ∧ I' b 4 = I a 4 ∧ I' b 5 = I a 5
def cpM (I : Nat → Nat → Int32) (a b : Nat) : Nat → Nat → Int32 := u2 (u2 (u1 (u1 (u1 (u1 I (b + 1) (va_cpy (I (a + 1)) (I (b + 1)) 0 0 6)) (b + 2) (va_cpy (I (a + 2)) (I (b + 2)) 0 0 6)) (b + 3) (va_cpy (I (a + 3)) (I (b + 3)) 0 0 6)) (b + 4) (va_cpy (I (a + 4)) (I (b + 4)) 0 0 5)) b 4 (I a 4)) b 5 (I a 5)
theorem cpM_O {a b : Nat} : cpO a b I (cpM I a b) := by
  have e : ∀ (f g : Nat → Int32) (n i : Nat), i < n → va_cpy f g 0 0 n i = f i := fun f g n i h => (pk_cpy_in (Nat.zero_le _) (by omega)).trans (by rw [Nat.sub_zero, Nat.zero_add])
  unfold cpM
  refine ⟨fun c i h => ?_, fun f hf => ⟨?_, ?_, ?_⟩, fun c hc => ?_, ?_, ?_⟩
  · rw [u2_o (by omega), u2_o (by omega), u1_o (by omega), u1_o (by omega), u1_o (by omega), u1_o (by omega)]
  · rw [u2_o (by omega), u2_o (by omega), u1_o (by omega), u1_o (by omega), u1_o (by omega), u1_s]; exact e _ _ _ _ hf
  · rw [u2_o (by omega), u2_o (by omega), u1_o (by omega), u1_o (by omega), u1_s]; exact e _ _ _ _ hf
  · rw [u2_o (by omega), u2_o (by omega), u1_o (by omega), u1_s]; exact e _ _ _ _ hf
  · rw [u2_o (by omega), u2_o (by omega), u1_s]; exact e _ _ _ _ hc
  · rw [u2_o (by omega), u2_s]
  · rw [u2_s]
set_option maxHeartbeats 20000000 in
set_option maxRecDepth 20000 in
theorem x_cp1 {i : Nat} (hi : i < 19) (h : ∀ I', cpO 33 (55 + 5 * i) I I' → kr none (mk w p r I' L)) : Ev l X uX2_copy (d + 1) true 0 0 [.ref (55 + 5 * i), .ref 33] (mk w p r I L) kr := by
  have h := h _ cpM_O
  refine Ev.of (by decide) (Nat.le_of_ble_eq_true rfl) ?_
  refine Wf.gc tkX2_copy [] ?_
  rcases (show i = 0 ∨ i = 1 ∨ i = 2 ∨ i = 3 ∨ i = 4 ∨ i = 5 ∨ i = 6 ∨ i = 7 ∨ i = 8 ∨ i = 9 ∨ i = 10 ∨ i = 11 ∨ i = 12 ∨ i = 13 ∨ i = 14 ∨ i = 15 ∨ i = 16 ∨ i = 17 ∨ i = 18 by omega) with rfl | rfl | rfl | rfl | rfl | rfl | rfl | rfl | rfl | rfl | rfl | rfl | rfl | rfl | rfl | rfl | rfl | rfl | rfl
  all_goals
    conv => whnf
    refine ⟨0, 0, 6, ⟨rfl, rfl, rfl, by decide, by decide, by decide, Nat.le_refl 6, Nat.le_refl 6⟩, ?_⟩
    conv => whnf
    refine ⟨0, 0, 6, ⟨rfl, rfl, rfl, by decide, by decide, by decide, Nat.le_refl 6, Nat.le_refl 6⟩, ?_⟩
    conv => whnf
    refine ⟨0, 0, 6, ⟨rfl, rfl, rfl, by decide, by decide, by decide, Nat.le_refl 6, Nat.le_refl 6⟩, ?_⟩
    conv => whnf
    refine ⟨0, 0, 5, ⟨rfl, rfl, rfl, by decide, by decide, by decide, Nat.le_refl 5, Nat.le_refl 5⟩, ?_⟩
    conv => whnf
    exact h
set_option maxHeartbeats 20000000 in
set_option maxRecDepth 20000 in
theorem x_cp2 {i : Nat} (hi : i < 19) (h : ∀ I', cpO (55 + 5 * i) 33 I I' → kr none (mk w p r I' L)) : Ev l X uX2_copy (d + 1) true 0 0 [.ref 33, .ref (55 + 5 * i)] (mk w p r I L) kr := by
  have h := h _ cpM_O
  refine Ev.of (by decide) (Nat.le_of_ble_eq_true rfl) ?_
  refine Wf.gc tkX2_copy [] ?_
  rcases (show i = 0 ∨ i = 1 ∨ i = 2 ∨ i = 3 ∨ i = 4 ∨ i = 5 ∨ i = 6 ∨ i = 7 ∨ i = 8 ∨ i = 9 ∨ i = 10 ∨ i = 11 ∨ i = 12 ∨ i = 13 ∨ i = 14 ∨ i = 15 ∨ i = 16 ∨ i = 17 ∨ i = 18 by omega) with rfl | rfl | rfl | rfl | rfl | rfl | rfl | rfl | rfl | rfl | rfl | rfl | rfl | rfl | rfl | rfl | rfl | rfl | rfl
  all_goals
    conv => whnf
    refine ⟨0, 0, 6, ⟨rfl, rfl, rfl, by decide, by decide, by decide, Nat.le_refl 6, Nat.le_refl 6⟩, ?_⟩
    conv => whnf
    refine ⟨0, 0, 6, ⟨rfl, rfl, rfl, by decide, by decide, by decide, Nat.le_refl 6, Nat.le_refl 6⟩, ?_⟩
    conv => whnf
    refine ⟨0, 0, 6, ⟨rfl, rfl, rfl, by decide, by decide, by decide, Nat.le_refl 6, Nat.le_refl 6⟩, ?_⟩
    conv => whnf
    refine ⟨0, 0, 5, ⟨rfl, rfl, rfl, by decide, by decide, by decide, Nat.le_refl 5, Nat.le_refl 5⟩, ?_⟩
    conv => whnf
    exact h
end MOM
