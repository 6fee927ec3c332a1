/-! the class's tape, with what is on it -/
section FDX
variable {l : Launch} {X : Nat × (Nat → Int32)} {d : Nat} {w : Nat × Nat} {p r : Nat} {I : Nat → Nat → Int32} {L : Nat → Nat → Int64} {kr : KR}
def shf : Nat → Int32
  | 0 => 24
  | 1 => 16
  | 2 => 8
  | 3 => 0
  | _ => -8
theorem shf_4 : ∀ j, j < 4 → ¬ shf j < 0 ∧ shf j + (-8) = shf (j + 1) := by decide +kernel
/-- byte j of a word -/
def by4 (x : Int32) (j : Nat) : Nat := lb (x >>> (shf j &&& 31))
set_option maxHeartbeats 2000000 in
set_option maxRecDepth 20000 in
theorem x_tape {t : Nat} {x : Int32} (ht : I 2 1 = nI t) (h4 : t + 4 ≤ 900) (h : ∀ I' : Nat → Nat → Int32, (∀ a i, ¬ (a = 2 ∧ i = 1) → ¬ (a = 3 ∧ t ≤ i ∧ i < t + 4) → I' a i = I a i) → I' 2 1 = nI (t + 4) → (∀ j, j < 4 → I' 3 (t + j) = sb (by4 x j)) → kr none (mk w p r I' L)) : Ev l X uX4_tape d true 0 0 [.ref 2, .int x] (mk w p r I L) kr := by
  refine Ev.of (by decide) (Nat.le_of_ble_eq_true rfl) ?_
  refine Wf.gc tkX4_tape [3] ?_
  conv => whnf
  have loop := down (fun j => ∀ K : Nat → Nat → Int32, (∀ a i, ¬ (a = 2 ∧ i = 1) → ¬ (a = 3 ∧ t ≤ i ∧ i < t + 4) → K a i = I a i) → K 2 1 = nI (t + j) → (∀ i, i < j → K 3 (t + i) = sb (by4 x i)) → Wf l X uX4_tape d true (mC (mk w p r I L) + 0, mS (mk w p r I L) + 0) 3 [(0, .ref 2), (1, .int x), (2, .int (shf j))] [] (mk w p r K L) kr) 4 ?_ ?_ 0 (Nat.zero_le _)
  · exact loop I (fun _ _ _ _ => rfl) ht (fun i hi => absurd hi (Nat.not_lt_zero _))
  · intro K k1 k2 k3
    refine Wf.gc tkX4_tape [] ?_
    conv => whnf
    refine b1' (by decide) ?_
    conv => whnf
    exact h K k1 k2 k3
  · intro j hj ih K k1 k2 k3
    obtain ⟨s1, s2⟩ := shf_4 j hj
    have ih := ih (u2 (u2 K 3 (t + j) (x >>> (shf j &&& 31)).toInt8.toInt32.toInt8.toInt32) 2 1 (K 2 1 + 1)) (fun a i z1 z2 => by rw [u2_o (by omega), u2_o (by omega)]; exact k1 a i z1 z2) (by rw [u2_s, k2, nI_1]; rfl) (fun i hi => by
      rcases Nat.lt_or_ge i j with z | z
      · rw [u2_o (by omega), u2_o (by omega)]; exact k3 i z
      · have : i = j := by omega
        subst this
        rw [u2_o (by omega), u2_s]
        exact (sb_lb _).2)
    rw [← s2] at ih
    refine Wf.gc tkX4_tape [3] ?_
    conv => whnf
    refine b2' s1 ?_
    conv => whnf
    refine b2' (by show ¬ (900 : Int32) ≤ K 2 1; rw [k2, show (900 : Int32) = nI 900 from rfl]; exact nI_ge (by omega) (by decide)) ?_
    conv => whnf
    refine ⟨t + j, ⟨k2, by omega, show t + j < 900 by omega⟩, ?_⟩
    conv => whnf
    exact ih
end FDX
