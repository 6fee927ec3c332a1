/-! the class keeps how it is now -/
section KEE
variable {l : Launch} {X : Nat × (Nat → Int32)} {d : Nat} {w : Nat × Nat} {p r : Nat} {I : Nat → Nat → Int32} {L : Nat → Nat → Int64} {kr : KR} {x k : Nat}
theorem R38 (hx : x < 16) : R0 p r 38 x = 55 + 5 * x := by
  show cond (Nat.blt x 16) (55 + 5 * x) 0 = _
  rw [show Nat.blt x 16 = true from Nat.ble_eq_true_of_le hx]
  rfl
theorem R39 (hx : x < 3) : R0 p r 39 x = 55 + 5 * (16 + x) := by
  show cond (Nat.blt x 3) (135 + 5 * x) 0 = _
  rw [show Nat.blt x 3 = true from Nat.ble_eq_true_of_le hx]
  show 135 + 5 * x = _
  omega
theorem K0m : ∀ i, i < 19 → K0 (55 + 5 * i) = (2, 0) := by decide
theorem kkM {i : Nat} (hi : i < 19) : kk (mk w p r I L) (55 + 5 * i) 2 = true := by
  unfold kk
  show (Nat.blt 0 (55 + 5 * i) && (Nat.ble (55 + 5 * i) 167 && Nat.beq (K0 (55 + 5 * i)).1 2)) = true
  rw [K0m i hi, show Nat.blt 0 (55 + 5 * i) = true from Nat.ble_eq_true_of_le (by omega), Nat.ble_eq_true_of_le (by omega)]
  rfl
theorem ring_1 : ∀ x, x < 16 → (nI x + 1 - (nI x + 1) / 16 * 16 : Int32) = nI ((x + 1) % 16) := by decide
theorem min_16 : ∀ k, k < 17 → (if (16 : Int32) < nI k + 1 then (16 : Int32) else nI k + 1) = nI (if k < 16 then k + 1 else 16) := by decide
def keO (x k : Nat) (I I' : Nat → Nat → Int32) : Prop := (∀ c i, ¬ (55 + 5 * x ≤ c ∧ c ≤ 59 + 5 * x) → ¬ (c = 1 ∧ (i = 5 ∨ i = 6)) → I' c i = I c i) ∧ (∀ f, f < 6 → I' (55 + 5 * x + 1) f = I 34 f ∧ I' (55 + 5 * x + 2) f = I 35 f ∧ I' (55 + 5 * x + 3) f = I 36 f) ∧ (∀ c, c < 5 → I' (55 + 5 * x + 4) c = I 37 c) ∧ I' (55 + 5 * x) 4 = I 33 4 ∧ I' (55 + 5 * x) 5 = I 33 5 ∧ I' 1 5 = nI ((x + 1) % 16) ∧ I' 1 6 = nI (if k < 16 then k + 1 else 16)
set_option maxRecDepth 20000 in
theorem x_keep (hx : x < 16) (hk : k ≤ 16) (h5 : I 1 5 = nI x) (h6 : I 1 6 = nI k) (h : ∀ I', keO x k I I' → kr none (mk w p r I' L)) : Ev l X uX6_keep (d + 2) true 0 0 [.ref 1] (mk w p r I L) kr := by
  refine Ev.of (by decide) (Nat.le_of_ble_eq_true rfl) ?_
  refine Wf.gc tkX6_keep [] ?_
  conv => whnf
  refine ⟨x, ⟨h5, by omega, show x < 16 from hx⟩, ?_⟩
  conv => whnf
  rw [show mR (mk w p r I L) (mR (mk w p r I L) 1 4) x = 55 + 5 * x from R38 (p := p) (r := r) hx, kkM (i := x) (by omega)]
  conv => whnf
  refine x_cp1 (i := x) (by omega) (fun J hJ => ?_)
  obtain ⟨j1, j2, j3, j4, j5⟩ := hJ
  conv => whnf
  refine ⟨by decide, ?_⟩
  conv => whnf
  refine x_min ?_
  conv => whnf
  have e5 : J 1 5 = nI x := (j1 1 5 (by omega)).trans h5
  have e6 : J 1 6 = nI k := (j1 1 6 (by omega)).trans h6
  show kr none (mk w p r (u2 (u2 J 1 5 (J 1 5 + 1 - (J 1 5 + 1) / 16 * 16)) 1 6 (if (16 : Int32) < u2 J 1 5 (J 1 5 + 1 - (J 1 5 + 1) / 16 * 16) 1 6 + 1 then (16 : Int32) else u2 J 1 5 (J 1 5 + 1 - (J 1 5 + 1) / 16 * 16) 1 6 + 1)) L)
  rw [u2_o (b := 1) (j := 6) (by decide), e5, e6, ring_1 x hx, min_16 k (by omega)]
  refine h _ ⟨fun c i z1 z2 => ?_, fun f hf => ?_, fun c hc => ?_, ?_, ?_, ?_, ?_⟩
  · rw [u2_o (by omega), u2_o (by omega)]; exact j1 c i (by omega)
  · rw [u2_o (by omega), u2_o (by omega), u2_o (by omega), u2_o (by omega), u2_o (by omega), u2_o (by omega)]; exact j2 f hf
  · rw [u2_o (by omega), u2_o (by omega)]; exact j3 c hc
  · rw [u2_o (by omega), u2_o (by omega)]; exact j4
  · rw [u2_o (by omega), u2_o (by omega)]; exact j5
  · rw [u2_o (by decide), u2_s]
  · rw [u2_s]
end KEE
