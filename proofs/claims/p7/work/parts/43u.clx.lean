/-! the class's close: its answer, what it leaves -/
section CLY
variable {l : Launch} {X : Nat × (Nat → Int32)} {d : Nat} {w : Nat × Nat} {p r : Nat} {I : Nat → Nat → Int32} {L : Nat → Nat → Int64} {kr : KR} {b : Nat → Nat} {n t : Nat}
set_option maxHeartbeats 2000000 in
set_option maxRecDepth 20000 in
/-- n is too much, or below 0 -/
theorem x_close2 {m : Int32} (hp : p = 7 ∨ p = 20) (ht : I 2 1 = nI t) (ht9 : t ≤ 900) (hm : m < 0 ∨ nI t < m) (h : kr (some (.int (-1))) (mk w p r (u2 I 1 13 2) L)) : Ev l X uX6_close (d + 1) true 0 0 [.ref 1, .int m] (mk w p r I L) kr := by
  refine Ev.of (by decide) (Nat.le_of_ble_eq_true rfl) ?_
  have no : Wf l X uX6_close (d + 1) true (mC (mk w p r I L) + 0, mS (mk w p r I L) + 0) 15 [(0, .ref 1), (1, .int m)] [] (mk w p r I L) kr := by
    refine Wf.gc tkX6_close [] ?_
    conv => whnf
    refine sX6_refuse ?_
    conv => whnf
    exact h
  refine Wf.gc tkX6_close [15] ?_
  conv => whnf
  refine ⟨fun z => ?_, fun z => ?_⟩
  · conv => whnf
    exact no
  · have z : ¬ m < 0 := z
    conv => whnf
    refine b2' ?_ ?_
    · show ¬ m ≤ I 2 1
      rw [ht]
      rcases hm with q | q
      · exact absurd q z
      · exact Int32.not_le.mpr q
    conv => whnf
    exact no
set_option maxHeartbeats 4000000 in
set_option maxRecDepth 20000 in
theorem x_close (hp : p = 7 ∨ p = 20) (ht : I 2 1 = nI t) (ht9 : t ≤ 900) (hn : n ≤ t) (hb : ∀ i, i < t → b i < 256 ∧ I 3 i = sb (b i)) (hE : ∀ er, rdT b n (n + 1) P00 = .inl er → ∀ I' L', (∀ a i, ¬ (a = 1 ∧ i = 13) → ¬ (a = 2 ∧ 1 ≤ i) → a ≠ 5 → a ≠ 6 → ¬ (27 - p ≤ a ∧ a ≤ 27 - p + 12) → I' a i = I a i) → (∀ a i, a ≠ 2 → a ≠ 4 → L' a i = L a i) → I' 2 13 = nI er.1 → I' 2 14 = nI er.2 → I' 2 1 = 0 → I' 1 13 = 4 → kr (some (.int (-1))) (mk w p (27 - p) I' L')) (hO : ∀ P', rdT b n (n + 1) P00 = .inr P' → ∀ I' L', (∀ a i, ¬ (a = 1 ∧ (i = 6 ∨ i = 8 ∨ i = 13)) → ¬ (a = 2 ∧ 1 ≤ i) → a ≠ 5 → a ≠ 6 → ¬ (27 - p ≤ a ∧ a ≤ 27 - p + 12 ∨ 33 ≤ a ∧ a ≤ 37) → I' a i = I a i) → (∀ a i, a ≠ 2 → a ≠ 4 → L' a i = L a i) → I' 2 13 = 0 → I' 2 1 = 0 → PC (27 - p) P'.1 P'.2.1 I' → I' 1 13 = 0 → I' 1 6 = 0 → I' 1 8 = 0 → kr (some (.int (nI (P'.1 4)))) (mk w (27 - p) (27 - p) I' L')) : Ev l X uX6_close (d + 12) true 0 0 [.ref 1, .int (nI n)] (mk w p r I L) kr := by
  refine Ev.of (by decide) (Nat.le_of_ble_eq_true rfl) ?_
  rcases hp with rfl | rfl
  · have ok : ∀ P', rdT b n (n + 1) P00 = .inr P' → ∀ I' L', sR 20 (u2 I 2 1 0) I' L L' → SC b n 20 P' I' L' → Wf l X uX6_close (d + 12) true (mC (mk w 7 r I L) + 0, mS (mk w 7 r I L) + 0) 50 [(0, .ref 1), (1, .int (nI n))] [] (mk w 7 20 I' L') kr := by
      intro P' hP I' L' hs hS
      obtain ⟨tx, he, hc, nc, pc⟩ := id hS
      refine Wf.gc tkX6_close [68] ?_
      conv => whnf
      have rest : Wf l X uX6_close (d + 12) true (mC (mk w 7 r I L) + 0, mS (mk w 7 r I L) + 0) 68 [(0, .ref 1), (1, .int (nI n)), (2, .ref 7)] [] (mk w 20 20 I' L') kr := by
        refine Wf.gc tkX6_close [] ?_
        conv => whnf
        refine x_begin (q := 20) (d := d + 10) (Or.inr rfl) (fun J j1 j2 j3 j4 j5 => ?_)
        conv => whnf
        refine sX6_answer ?_
        conv => whnf
        show kr (some (.int (J 20 4))) (mk w 20 20 (u2 (u2 (u2 J 1 6 0) 1 8 0) 1 13 0) L')
        rw [j1 20 4 (by decide), show I' 20 4 = nI (P'.1 4) from pc.1.2.2.2.2.1]
        refine hO P' hP _ L' (fun a i z1 z2 z3 z4 z5 => ?_) (fun a i z1 z2 => hs.2 a i z1 z2) ?_ ?_ ?_ rfl rfl rfl
        · rw [u2_o (by omega), u2_o (by omega), u2_o (by omega), j1 a i (by omega), hs.1 a i (by omega) z3 z4 (by omega), u2_o (by omega)]
        · rw [u2_o (by decide), u2_o (by decide), u2_o (by decide), j1 2 13 (by decide)]; exact nc.1.2
        · rw [u2_o (by decide), u2_o (by decide), u2_o (by decide), j1 2 1 (by decide), hs.1 2 1 (by omega) (by decide) (by decide) (by omega)]; rfl
        · have pcJ : PC 20 P'.1 P'.2.1 (u2 (u2 (u2 J 1 6 0) 1 8 0) 1 13 0) := PC_eq pc (fun a i z1 z2 => by rw [u2_o (by omega), u2_o (by omega), u2_o (by omega)]; exact j1 a i (by omega))
          exact pcJ
      rw [← wR_sw (p := 7) (q := 20) rfl] at rest
      exact rest
    refine Wf.gc tkX6_close [50] ?_
    conv => whnf
    refine ⟨fun z => ?_, fun z => ?_⟩
    · have z : nI n < 0 := z
      exact absurd z (nI_pos (by omega))
    conv => whnf
    refine b1' (by show nI n ≤ I 2 1; rw [ht]; exact nI_le hn (by omega)) ?_
    conv => whnf
    show Ev l X uX4_reads (d + 11) true 0 0 [.ref 2, .int (nI n), .ref 20] (mk w 7 r (u2 I 2 1 0) L) _
    refine x_reads (d := d) (b := b) (Or.inr rfl) (by omega) (fun i hi => by rw [u2_o (by omega)]; exact hb i (by omega)) (fun er hr I' L' hs h1 h2 => ?_) (fun P' hr I' L' hs hS => ?_)
    · conv => whnf
      refine b2 (by decide) ?_
      conv => whnf
      refine sX6_refuse ?_
      conv => whnf
      refine hE er hr (u2 I' 1 13 4) L' (fun a i z1 z2 z3 z4 z5 => ?_) hs.2 ?_ ?_ ?_ rfl
      · rw [u2_o (by omega), hs.1 a i (by omega) z3 z4 (by omega), u2_o (by omega)]
      · rw [u2_o (by decide)]; exact h1
      · rw [u2_o (by decide)]; exact h2
      · rw [u2_o (by decide), hs.1 2 1 (by omega) (by decide) (by decide) (by omega)]; rfl
    · conv => whnf
      refine b1 (by decide) ?_
      conv => whnf
      exact ok P' hr I' L' hs hS
  · have ok : ∀ P', rdT b n (n + 1) P00 = .inr P' → ∀ I' L', sR 7 (u2 I 2 1 0) I' L L' → SC b n 7 P' I' L' → Wf l X uX6_close (d + 12) true (mC (mk w 20 r I L) + 0, mS (mk w 20 r I L) + 0) 50 [(0, .ref 1), (1, .int (nI n))] [] (mk w 20 7 I' L') kr := by
      intro P' hP I' L' hs hS
      obtain ⟨tx, he, hc, nc, pc⟩ := id hS
      refine Wf.gc tkX6_close [68] ?_
      conv => whnf
      have rest : Wf l X uX6_close (d + 12) true (mC (mk w 20 r I L) + 0, mS (mk w 20 r I L) + 0) 68 [(0, .ref 1), (1, .int (nI n)), (2, .ref 20)] [] (mk w 7 7 I' L') kr := by
        refine Wf.gc tkX6_close [] ?_
        conv => whnf
        refine x_begin (q := 7) (d := d + 10) (Or.inl rfl) (fun J j1 j2 j3 j4 j5 => ?_)
        conv => whnf
        refine sX6_answer ?_
        conv => whnf
        show kr (some (.int (J 7 4))) (mk w 7 7 (u2 (u2 (u2 J 1 6 0) 1 8 0) 1 13 0) L')
        rw [j1 7 4 (by decide), show I' 7 4 = nI (P'.1 4) from pc.1.2.2.2.2.1]
        refine hO P' hP _ L' (fun a i z1 z2 z3 z4 z5 => ?_) (fun a i z1 z2 => hs.2 a i z1 z2) ?_ ?_ ?_ rfl rfl rfl
        · rw [u2_o (by omega), u2_o (by omega), u2_o (by omega), j1 a i (by omega), hs.1 a i (by omega) z3 z4 (by omega), u2_o (by omega)]
        · rw [u2_o (by decide), u2_o (by decide), u2_o (by decide), j1 2 13 (by decide)]; exact nc.1.2
        · rw [u2_o (by decide), u2_o (by decide), u2_o (by decide), j1 2 1 (by decide), hs.1 2 1 (by omega) (by decide) (by decide) (by omega)]; rfl
        · have pcJ : PC 7 P'.1 P'.2.1 (u2 (u2 (u2 J 1 6 0) 1 8 0) 1 13 0) := PC_eq pc (fun a i z1 z2 => by rw [u2_o (by omega), u2_o (by omega), u2_o (by omega)]; exact j1 a i (by omega))
          exact pcJ
      rw [← wR_sw (p := 20) (q := 7) rfl] at rest
      exact rest
    refine Wf.gc tkX6_close [50] ?_
    conv => whnf
    refine ⟨fun z => ?_, fun z => ?_⟩
    · have z : nI n < 0 := z
      exact absurd z (nI_pos (by omega))
    conv => whnf
    refine b1' (by show nI n ≤ I 2 1; rw [ht]; exact nI_le hn (by omega)) ?_
    conv => whnf
    show Ev l X uX4_reads (d + 11) true 0 0 [.ref 2, .int (nI n), .ref 7] (mk w 20 r (u2 I 2 1 0) L) _
    refine x_reads (d := d) (b := b) (Or.inl rfl) (by omega) (fun i hi => by rw [u2_o (by omega)]; exact hb i (by omega)) (fun er hr I' L' hs h1 h2 => ?_) (fun P' hr I' L' hs hS => ?_)
    · conv => whnf
      refine b2 (by decide) ?_
      conv => whnf
      refine sX6_refuse ?_
      conv => whnf
      refine hE er hr (u2 I' 1 13 4) L' (fun a i z1 z2 z3 z4 z5 => ?_) hs.2 ?_ ?_ ?_ rfl
      · rw [u2_o (by omega), hs.1 a i (by omega) z3 z4 (by omega), u2_o (by omega)]
      · rw [u2_o (by decide)]; exact h1
      · rw [u2_o (by decide)]; exact h2
      · rw [u2_o (by decide), hs.1 2 1 (by omega) (by decide) (by decide) (by omega)]; rfl
    · conv => whnf
      refine b1 (by decide) ?_
      conv => whnf
      exact ok P' hr I' L' hs hS
end CLY
