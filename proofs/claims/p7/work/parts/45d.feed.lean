/-! the reference's feed, with what is on the tape -/
section FDZ
variable {l : Launch} {X : Nat × (Nat → Int32)} {d : Nat} {w : Nat × Nat} {p r : Nat} {I : Nat → Nat → Int32} {L : Nat → Nat → Int64} {kr : KR}
theorem shf_20 : ∀ k, k < 20 → (24 - 8 * (nI k - nI k / 4 * 4) : Int32) = shf (k % 4) := by decide +kernel
set_option maxHeartbeats 4000000 in
set_option maxRecDepth 20000 in
theorem y_feed {t : Nat} {x1 x2 x3 x4 x5 : Int32} (ht : I 150 2 = nI t) (h9 : t ≤ 900) (h0 : 880 < t → kr (some (.int (-1))) (mk w p r (u2 I 150 0 0) L)) (h1 : t ≤ 880 → ∀ I' : Nat → Nat → Int32, (∀ a i, ¬ (a = 150 ∧ (i = 0 ∨ i = 2)) → ¬ (a = 151 ∧ t ≤ i ∧ i < t + 20) → I' a i = I a i) → I' 150 0 = 0 → I' 150 2 = nI (t + 20) → (∀ j, j < 20 → I' 151 (t + j) = nI (b20 x1 x2 x3 x4 x5 j)) → kr (some (.int (nI (t + 20)))) (mk w p r I' L)) : Ev l X uX7_feed d true 0 0 [.ref 150, .int x1, .int x2, .int x3, .int x4, .int x5] (mk w p r I L) kr := by
  refine Ev.of (by decide) (Nat.le_of_ble_eq_true rfl) ?_
  refine Wf.gc tkX7_feed [23] ?_
  conv => whnf
  have ev : (u2 I 150 0 0 150 2 + 20 : Int32) = nI (t + 20) := by rw [u2_o (by decide), ht, show (20 : Int32) = nI 20 from rfl, nI_add]
  by_cases c : t ≤ 880
  · refine b1' (by show u2 I 150 0 0 150 2 + 20 ≤ (900 : Int32); rw [ev, show (900 : Int32) = nI 900 from rfl, nI_leI (by omega) (by decide)]; omega) ?_
    conv => whnf
    have loop := down (fun k => ∀ K : Nat → Nat → Int32, (∀ a i, ¬ (a = 150 ∧ (i = 0 ∨ i = 2)) → ¬ (a = 151 ∧ t ≤ i ∧ i < t + 20) → K a i = I a i) → K 150 0 = 0 → K 150 2 = nI (t + k) → (∀ i, i < k → K 151 (t + i) = nI (b20 x1 x2 x3 x4 x5 i)) → Wf l X uX7_feed d true (mC (mk w p r I L) + 0, mS (mk w p r I L) + 0) 23 [(0, .ref 150), (1, .int x1), (2, .int x2), (3, .int x3), (4, .int x4), (5, .int x5), (6, .int (nI k))] [] (mk w p r K L) kr) 20 ?_ ?_ 0 (Nat.zero_le _)
    · exact loop (u2 I 150 0 0) (fun a i z1 z2 => u2_o (by omega)) u2_s (by rw [u2_o (by decide)]; exact ht) (fun i hi => absurd hi (Nat.not_lt_zero _))
    · intro K k1 k0 k2 k3
      refine Wf.gc tkX7_feed [] ?_
      conv => whnf
      refine b1' (by decide) ?_
      conv => whnf
      have fin := h1 c K k1 k0 k2 k3
      rw [← k2] at fin
      exact fin
    · intro k hk ih K k1 k0 k2 k3
      have mid : ∀ z : Int32, z = w5 x1 x2 x3 x4 x5 (k / 4) → Wf l X uX7_feed d true (mC (mk w p r I L) + 0, mS (mk w p r I L) + 0) 78 [(0, .ref 150), (1, .int x1), (2, .int x2), (3, .int x3), (4, .int x4), (5, .int x5), (6, .int (nI k)), (7, .int z)] [] (mk w p r K L) kr := by
        intro z hz
        have ih := ih (u2 (u2 K 151 (t + k) ((z >>> ((24 - 8 * (nI k - nI k / 4 * 4)) &&& 31)) &&& 255)) 150 2 (K 150 2 + 1)) (fun a i z1 z2 => by rw [u2_o (by omega), u2_o (by omega)]; exact k1 a i z1 z2) (by rw [u2_o (by decide), u2_o (by omega)]; exact k0) (by rw [u2_s, k2, nI_1]; rfl) (fun i hi => by
          rcases Nat.lt_or_ge i k with q | q
          · rw [u2_o (by omega), u2_o (by omega)]; exact k3 i q
          · have : i = k := by omega
            subst this
            rw [u2_o (by omega), u2_s, shf_20 i hk, lb_nI, hz]
            rfl)
        rw [← nI_1] at ih
        refine Wf.gc tkX7_feed [23] ?_
        conv => whnf
        refine ⟨by decide, ?_⟩
        conv => whnf
        refine ⟨t + k, ⟨k2, by omega, show t + k < 900 by omega⟩, ?_⟩
        conv => whnf
        refine Wf.keep [0, 1, 2, 3, 4, 5, 6] ?_
        exact ih
      refine Wf.gc tkX7_feed [78] ?_
      conv => whnf
      refine b2' (by show ¬ (20 : Int32) ≤ nI k; rw [show (20 : Int32) = nI 20 from rfl]; exact nI_ge hk (by decide)) ?_
      conv => whnf
      rcases (show k / 4 = 0 ∨ k / 4 = 1 ∨ k / 4 = 2 ∨ k / 4 = 3 ∨ k / 4 = 4 by omega) with z | z | z | z | z
      · refine b2' (by show ¬ (4 : Int32) ≤ nI k; rw [show (4 : Int32) = nI 4 from rfl]; exact nI_ge (by omega) (by decide)) ?_
        conv => whnf
        exact mid _ (by rw [z]; rfl)
      · refine b1' (by show (4 : Int32) ≤ nI k; rw [show (4 : Int32) = nI 4 from rfl, nI_leI (by decide) (by omega)]; omega) ?_
        conv => whnf
        refine b2' (by show ¬ (8 : Int32) ≤ nI k; rw [show (8 : Int32) = nI 8 from rfl]; exact nI_ge (by omega) (by decide)) ?_
        conv => whnf
        exact mid _ (by rw [z]; rfl)
      · refine b1' (by show (4 : Int32) ≤ nI k; rw [show (4 : Int32) = nI 4 from rfl, nI_leI (by decide) (by omega)]; omega) ?_
        conv => whnf
        refine b1' (by show (8 : Int32) ≤ nI k; rw [show (8 : Int32) = nI 8 from rfl, nI_leI (by decide) (by omega)]; omega) ?_
        conv => whnf
        refine b2' (by show ¬ (12 : Int32) ≤ nI k; rw [show (12 : Int32) = nI 12 from rfl]; exact nI_ge (by omega) (by decide)) ?_
        conv => whnf
        exact mid _ (by rw [z]; rfl)
      · refine b1' (by show (4 : Int32) ≤ nI k; rw [show (4 : Int32) = nI 4 from rfl, nI_leI (by decide) (by omega)]; omega) ?_
        conv => whnf
        refine b1' (by show (8 : Int32) ≤ nI k; rw [show (8 : Int32) = nI 8 from rfl, nI_leI (by decide) (by omega)]; omega) ?_
        conv => whnf
        refine b1' (by show (12 : Int32) ≤ nI k; rw [show (12 : Int32) = nI 12 from rfl, nI_leI (by decide) (by omega)]; omega) ?_
        conv => whnf
        refine b2' (by show ¬ (16 : Int32) ≤ nI k; rw [show (16 : Int32) = nI 16 from rfl]; exact nI_ge (by omega) (by decide)) ?_
        conv => whnf
        exact mid _ (by rw [z]; rfl)
      · refine b1' (by show (4 : Int32) ≤ nI k; rw [show (4 : Int32) = nI 4 from rfl, nI_leI (by decide) (by omega)]; omega) ?_
        conv => whnf
        refine b1' (by show (8 : Int32) ≤ nI k; rw [show (8 : Int32) = nI 8 from rfl, nI_leI (by decide) (by omega)]; omega) ?_
        conv => whnf
        refine b1' (by show (12 : Int32) ≤ nI k; rw [show (12 : Int32) = nI 12 from rfl, nI_leI (by decide) (by omega)]; omega) ?_
        conv => whnf
        refine b1' (by show (16 : Int32) ≤ nI k; rw [show (16 : Int32) = nI 16 from rfl, nI_leI (by decide) (by omega)]; omega) ?_
        conv => whnf
        exact mid _ (by rw [z]; rfl)
  · refine b2' (by show ¬ u2 I 150 0 0 150 2 + 20 ≤ (900 : Int32); rw [ev, show (900 : Int32) = nI 900 from rfl, nI_leI (by omega) (by decide)]; omega) ?_
    conv => whnf
    exact h0 (by omega)
end FDZ
