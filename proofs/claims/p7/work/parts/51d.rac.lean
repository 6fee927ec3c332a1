section RAC3
variable {l : Launch} {X : Nat × (Nat → Int32)} {d : Nat} {w : Nat × Nat} {p r : Nat} {I I' : Nat → Nat → Int32} {L : Nat → Nat → Int64} {kr : KR} {A : Ast} {N : Nat}
set_option maxRecDepth 20000 in
theorem y_vex {f m : Int32} (hR : RA A) (hA0 : AS7 A I) (h : ∀ I', AS7 (aVex A f m).2 I' → kr (some (.int (aVex A f m).1)) (mk w p r I' L)) : Ev l X uX7_vex (d + 3) true 0 0 [.ref 150, .int f, .int m] (mk w p r I L) kr := by
  obtain ⟨hF, hC⟩ := ra_FC hR
  refine Ev.of (by decide) (Nat.le_of_ble_eq_true rfl) ?_
  refine Wf.gc tkX7_vex [20, 61] ?_
  conv => whnf
  refine y_good ?_
  have hA := AS7_g hA0
  generalize hH : u2 (u2 I 150 0 0) 150 11 0 = H at hA
  have eF : H 153 4 = nI (A.1.1 4) := hA.2.1.1 4 (by decide) (by decide)
  have h14 : H 150 14 = 1 := hA.1
  have no61 : ∀ v : Int32, ¬ v = 0 → aVex A f m = (-1, A) → Wf l X uX7_vex (d + 3) true (mC (mk w p r I L) + 0, mS (mk w p r I L) + 0) 61 [(0, .ref 150), (1, .int f), (2, .int m), (3, .int v)] [] (mk w p r H L) kr := by
    intro v hv e
    rw [e] at h
    refine Wf.gc tkX7_vex [] ?_
    conv => whnf
    refine b2' hv ?_
    conv => whnf
    refine y_no ?_
    conv => whnf
    exact h _ (AS7_11 hA v)
  have n20 : ∀ v : Int32, ¬ v = 0 → aVex A f m = (-1, A) → Wf l X uX7_vex (d + 3) true (mC (mk w p r I L) + 0, mS (mk w p r I L) + 0) 20 [(0, .ref 150), (1, .int f), (2, .int m)] [.int v] (mk w p r H L) kr := by
    intro v hv e
    refine Wf.gc tkX7_vex [61] ?_
    conv => whnf
    refine ⟨fun _ => ?_, fun z => absurd z hv⟩
    conv => whnf
    exact no61 v hv e
  have whf : ∀ b : Bool, aVex A f m = (-1, A) → Ev l X uX7_why (d + 2) true 0 0 [.ref 150, .int (bI false), .int (bI b)] (mk w p r H L) (fun r_1 M' => Wf l X uX7_vex (d + 3) true (mC (mk w p r I L) + 0, mS (mk w p r I L) + 0) 20 [(0, .ref 150), (1, .int f), (2, .int m)] (r_1.toList ++ []) M' kr) := by
    intro b e
    refine y_why ?_
    exact n20 1 (by decide) e
  conv => whnf
  refine y_isFace (d := d + 1) h14 eF (by omega) (fun g hg ef => ?_) (fun z => ?_)
  · have e0 : aVex A f m = if (1 ≤ m ∧ m ≤ 99) ∧ ¬ A.2.1 g = 0 ∧ A.2.1 (6 + g) + m ≤ 999 then (A.2.1 (6 + g) + m, (A.1, uR A.2.1 (6 + g) (A.2.1 (6 + g) + m), psh A.2.2.1 A.2.1, A.2.2.2)) else (-1, A) := by
      unfold aVex
      rw [show ixO (A.1.1 4) f = some g by rw [ef]; exact ixO_some hg (by omega)]
    have sg : H 157 g = A.2.1 g := hA.2.2.2.1 g (by omega)
    have sb' : H 157 (6 + g) = A.2.1 (6 + g) := hA.2.2.2.1 (6 + g) (by omega)
    conv => whnf
    refine y_in (fun c1 c2 => ?_) (fun c1 => ?_)
    · conv => whnf
      refine y_why (a := true) (b := true) ?_
      show Wf l X uX7_vex (d + 3) true (mC (mk w p r I L) + 0, mS (mk w p r I L) + 0) 20 [(0, .ref 150), (1, .int f), (2, .int m)] [.int 0] (mk w p r H L) kr
      refine Wf.gc tkX7_vex [60] ?_
      have s60 : ∀ v : Int32, (v = 0 → ¬ A.2.1 g = 0 ∧ A.2.1 (6 + g) + m ≤ 999) → (¬ v = 0 → aVex A f m = (-1, A)) → Wf l X uX7_vex (d + 3) true (mC (mk w p r I L) + 0, mS (mk w p r I L) + 0) 60 [(0, .ref 150), (1, .int f), (2, .int m), (3, .int 0)] [.int v] (mk w p r H L) kr := by
        intro v hv1 hv2
        refine Wf.gc tkX7_vex [61] ?_
        conv => whnf
        by_cases hv : v = 0
        · subst hv
          obtain ⟨y1, y2⟩ := hv1 rfl
          rw [e0, if_pos ⟨⟨c1, c2⟩, y1, y2⟩] at h
          refine Wf.gc tkX7_vex [] ?_
          conv => whnf
          refine b1' rfl ?_
          conv => whnf
          refine y_note (d := d + 1) hR hA (fun J jo hJ => ?_)
          have j6 : J 157 (6 + g) = A.2.1 (6 + g) := hJ.2.2.2.1 _ (by omega)
          conv => whnf
          rw [ef]
          refine ⟨6 + g, ⟨nI_add 6 g, by omega, show 6 + g < 25 by omega⟩, ?_⟩
          conv => whnf
          refine ⟨6 + g, ⟨nI_add 6 g, by omega, show 6 + g < 25 by omega⟩, ?_⟩
          conv => whnf
          refine ⟨6 + g, ⟨nI_add 6 g, by omega, show 6 + g < 25 by omega⟩, ?_⟩
          conv => whnf
          show kr (some (.int (u2 J 157 (6 + g) (J 157 (6 + g) + m) 157 (6 + g)))) (mk w p r (u2 J 157 (6 + g) (J 157 (6 + g) + m)) L)
          rw [u2_s, j6]
          refine h _ (AS7_st hJ (fun x i z => u2_o (by omega)) (fun i hi => ?_))
          by_cases e : i = 6 + g
          · subst e
            rw [u2_s, uR_s]
          · rw [u2_o (by omega), uR_o e]
            exact hJ.2.2.2.1 i hi
        · exact no61 v hv (hv2 hv)
      conv => whnf
      refine b2 (fun z => z rfl) ?_
      conv => whnf
      rw [ef]
      refine ⟨g, ⟨rfl, by omega, show g < 25 by omega⟩, ?_⟩
      conv => whnf
      refine ⟨fun y => ?_, fun y => ?_⟩
      · have y : ¬ H 157 g = 0 := y
        rw [sg] at y
        conv => whnf
        refine ⟨6 + g, ⟨nI_add 6 g, by omega, show 6 + g < 25 by omega⟩, ?_⟩
        conv => whnf
        refine ⟨fun y2 => ?_, fun y2 => ?_⟩
        · have y2 : H 157 (6 + g) + m ≤ 999 := y2
          rw [sb'] at y2
          conv => whnf
          have q := s60 0 (fun _ => ⟨y, y2⟩) (fun z => absurd rfl z)
          rw [ef] at q
          exact q
        · have y2 : ¬ H 157 (6 + g) + m ≤ 999 := y2
          rw [sb'] at y2
          conv => whnf
          have q := s60 3 (fun z => absurd z (by decide)) (fun _ => by rw [e0, if_neg (fun z => y2 z.2.2)])
          rw [ef] at q
          exact q
      · have y : H 157 g = 0 := y
        rw [sg] at y
        conv => whnf
        have q := s60 5 (fun z => absurd z (by decide)) (fun _ => by rw [e0, if_neg (fun z => z.2.1 y)])
        rw [ef] at q
        exact q
    · conv => whnf
      refine y_why (a := true) (b := false) ?_
      exact n20 2 (by decide) (by rw [e0, if_neg (fun z => c1 z.1)])
  · have e0 : aVex A f m = (-1, A) := by
      unfold aVex
      rw [show ixO (A.1.1 4) f = none from ixO_none (by omega) z]
    conv => whnf
    refine y_in (fun c1 c2 => ?_) (fun c1 => ?_)
    · conv => whnf
      exact whf true e0
    · conv => whnf
      exact whf false e0
end RAC3
