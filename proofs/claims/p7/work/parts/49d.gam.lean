section GAM4
variable {l : Launch} {X : Nat × (Nat → Int32)} {d : Nat} {w : Nat × Nat} {p r : Nat} {I : Nat → Nat → Int32} {L : Nat → Nat → Int64} {kr : KR} {M : Mm} {e : Int32}
def fRk (e : Int32) : Nat → Int32
  | 0 => -2
  | k + 1 => if cnP e k = 0 ∧ isP e k = true then nI (10 * (k / 2) + k % 2) else fRk e k
theorem fRk_4 (e : Int32) : fRk e 4 = (match fsP e with | none => -2 | some k => nI (10 * (k / 2) + k % 2)) := by
  have e4 : fsP e = (if isP e 0 = true then some 0 else if isP e 1 = true then some 1 else if isP e 2 = true then some 2 else if isP e 3 = true then some 3 else none) := rfl
  have c1 : cnP e 1 = 0 + cond (isP e 0) 1 0 := rfl
  have c2 : cnP e 2 = cnP e 1 + cond (isP e 1) 1 0 := rfl
  have c3 : cnP e 3 = cnP e 2 + cond (isP e 2) 1 0 := rfl
  rw [e4]
  show (if cnP e 3 = 0 ∧ isP e 3 = true then nI 11 else if cnP e 2 = 0 ∧ isP e 2 = true then nI 10 else if cnP e 1 = 0 ∧ isP e 1 = true then nI 1 else if cnP e 0 = 0 ∧ isP e 0 = true then nI 0 else -2) = _
  rw [c3, c2, c1, show cnP e 0 = 0 from rfl]
  cases isP e 0 <;> cases isP e 1 <;> cases isP e 2 <;> cases isP e 3 <;> rfl
theorem k4_s : ∀ k, k < 4 → (nI k ≤ (1 : Int32) ↔ ¬ k / 2 = 1) := by decide
theorem k4_u : ∀ k, k < 4 → ((nI k - nI k / 2 * 2 : Int32) = 1 ↔ k % 2 = 1) := by decide
theorem k4_f : ∀ k, k < 4 → ((10 : Int32) * (nI k / 2) + (nI k - nI k / 2 * 2)) = nI (10 * (k / 2) + k % 2) := by decide
theorem bI_z (b : Bool) : decide (¬ bI b = 0) = b := by cases b <;> rfl
set_option maxRecDepth 20000 in
theorem y_seekRests (h : kr (some (.int (nI (cnP e 4)))) (mk w p r (u2 I 150 39 (fRk e 4)) L)) : Ev l X uX7_seekRests (d + 1) true 0 0 [.ref 150, .int e] (mk w p r I L) kr := by
  refine Ev.of (by decide) (Nat.le_of_ble_eq_true rfl) ?_
  refine Wf.gc tkX7_seekRests [10] ?_
  conv => whnf
  refine down (fun k => Wf l X uX7_seekRests (d + 1) true (mC (mk w p r I L) + 0, mS (mk w p r I L) + 0) 10 [(0, .ref 150), (1, .int e), (2, .int (nI (cnP e k))), (3, .int (nI k))] [] (mk w p r (u2 I 150 39 (fRk e k)) L) kr) 4 ?_ ?_ 0 (Nat.zero_le _)
  · refine Wf.gc tkX7_seekRests [] ?_
    conv => whnf
    refine b1' (by decide) ?_
    conv => whnf
    exact h
  · intro k hk ih
    have fin : ∀ (c : Nat) (v : Int32), c = cnP e (k + 1) → v = fRk e (k + 1) → Wf l X uX7_seekRests (d + 1) true (mC (mk w p r I L) + 0, mS (mk w p r I L) + 0) 117 [(0, .ref 150), (1, .int e), (2, .int (nI c)), (3, .int (nI k)), (4, .int (bI (decide (k / 2 = 1)))), (5, .int (bI (decide (k % 2 = 1))))] [] (mk w p r (u2 I 150 39 v) L) kr := by
      intro c v hc hv
      refine Wf.gc tkX7_seekRests [10] ?_
      conv => whnf
      refine Wf.keep [0, 1, 2, 3] ?_
      show Wf l X uX7_seekRests (d + 1) true (mC (mk w p r I L) + 0, mS (mk w p r I L) + 0) 10 [(0, .ref 150), (1, .int e), (2, .int (nI c)), (3, .int (nI k + 1))] [] (mk w p r (u2 I 150 39 v) L) kr
      rw [nI_s, hc, hv]
      exact ih
    have no : isP e k = false → Wf l X uX7_seekRests (d + 1) true (mC (mk w p r I L) + 0, mS (mk w p r I L) + 0) 117 [(0, .ref 150), (1, .int e), (2, .int (nI (cnP e k))), (3, .int (nI k)), (4, .int (bI (decide (k / 2 = 1)))), (5, .int (bI (decide (k % 2 = 1))))] [] (mk w p r (u2 I 150 39 (fRk e k)) L) kr := by
      intro hq
      refine fin _ _ ?_ ?_
      · show cnP e k = cnP e k + cond (isP e k) 1 0
        rw [hq]
        rfl
      · show fRk e k = if cnP e k = 0 ∧ isP e k = true then _ else fRk e k
        rw [if_neg (fun z => by rw [hq] at z; cases z.2)]
    have m96 : isP e k = true → Wf l X uX7_seekRests (d + 1) true (mC (mk w p r I L) + 0, mS (mk w p r I L) + 0) 96 [(0, .ref 150), (1, .int e), (2, .int (nI (cnP e k))), (3, .int (nI k)), (4, .int (bI (decide (k / 2 = 1)))), (5, .int (bI (decide (k % 2 = 1))))] [] (mk w p r (u2 I 150 39 (fRk e k)) L) kr := by
      intro hq
      have hn : cnP e (k + 1) = cnP e k + 1 := by
        show cnP e k + cond (isP e k) 1 0 = _
        rw [hq]
        rfl
      have hb : ∀ j, cnP e j ≤ j := by
        intro j
        induction j with
        | zero => exact Nat.le_refl _
        | succ j ih =>
          show cnP e j + cond (isP e j) 1 0 ≤ j + 1
          cases isP e j
          · exact Nat.le_succ_of_le ih
          · exact Nat.succ_le_succ ih
      have hb := hb k
      refine Wf.gc tkX7_seekRests [117] ?_
      conv => whnf
      refine ⟨fun c => ?_, fun c => ?_⟩
      · have c : ¬ nI (cnP e k) = 0 := c
        have c0 : ¬ cnP e k = 0 := fun z => c (by rw [z]; rfl)
        conv => whnf
        show Wf l X uX7_seekRests (d + 1) true (mC (mk w p r I L) + 0, mS (mk w p r I L) + 0) 117 [(0, .ref 150), (1, .int e), (2, .int (nI (cnP e k) + 1)), (3, .int (nI k)), (4, .int (bI (decide (k / 2 = 1)))), (5, .int (bI (decide (k % 2 = 1))))] [] (mk w p r (u2 I 150 39 (fRk e k)) L) kr
        rw [nI_s]
        refine fin _ _ hn.symm ?_
        show fRk e k = if cnP e k = 0 ∧ isP e k = true then _ else fRk e k
        rw [if_neg (fun z => c0 z.1)]
      · have c : nI (cnP e k) = 0 := c
        have c0 : cnP e k = 0 := (nI_eq (by omega) (by decide)).mp (c.trans (show (0 : Int32) = nI 0 from rfl))
        conv => whnf
        refine ⟨by decide, ?_⟩
        conv => whnf
        refine ⟨by decide, ?_⟩
        conv => whnf
        show Wf l X uX7_seekRests (d + 1) true (mC (mk w p r I L) + 0, mS (mk w p r I L) + 0) 117 [(0, .ref 150), (1, .int e), (2, .int (nI (cnP e k) + 1)), (3, .int (nI k)), (4, .int (bI (decide (k / 2 = 1)))), (5, .int (bI (decide (k % 2 = 1))))] [] (mk w p r (u2 (u2 I 150 39 (fRk e k)) 150 39 ((10 : Int32) * (nI k / 2) + (nI k - nI k / 2 * 2))) L) kr
        rw [nI_s, u2_2, k4_f k hk]
        refine fin _ _ hn.symm ?_
        show _ = if cnP e k = 0 ∧ isP e k = true then nI (10 * (k / 2) + k % 2) else fRk e k
        rw [if_pos ⟨c0, hq⟩]
    have m80 : ∀ a : Bool, a = decide (k % 2 = 1) → ¬ shr e (decide (k / 2 = 1)) (decide (k % 2 = 1)) false < shr e (!decide (k / 2 = 1)) (decide (k % 2 = 1)) false → Wf l X uX7_seekRests (d + 1) true (mC (mk w p r I L) + 0, mS (mk w p r I L) + 0) 80 [(0, .ref 150), (1, .int e), (2, .int (nI (cnP e k))), (3, .int (nI k)), (4, .int (bI (decide (k / 2 = 1)))), (5, .int (bI (decide (k % 2 = 1))))] [.int (bI (!a)), .int (bI (decide (k / 2 = 1)))] (mk w p r (u2 I 150 39 (fRk e k)) L) kr := by
      intro a ha hs
      refine Wf.gc tkX7_seekRests [96, 117] ?_
      conv => whnf
      refine y_breadHas (e := e) ?_
      conv => whnf
      refine y_breadHas (e := e) ?_
      rw [bI_z, bI_z, bI_z, ha]
      conv => whnf
      refine ⟨fun c => ?_, fun c => ?_⟩
      · have c : shr e (decide (k / 2 = 1)) (!decide (k % 2 = 1)) true ≤ shr e (decide (k / 2 = 1)) (decide (k % 2 = 1)) true := c
        conv => whnf
        refine m96 ?_
        unfold isP isr
        rw [decide_eq_true hs, decide_eq_true (Int32.not_lt.mpr c)]
        rfl
      · have c : ¬ shr e (decide (k / 2 = 1)) (!decide (k % 2 = 1)) true ≤ shr e (decide (k / 2 = 1)) (decide (k % 2 = 1)) true := c
        conv => whnf
        refine no ?_
        unfold isP isr
        rw [decide_eq_false (p := ¬ shr e (decide (k / 2 = 1)) (decide (k % 2 = 1)) true < _) (fun z => z (Int32.not_le.mp c))]
        exact Bool.and_false _
    have m52 : ∀ a : Bool, a = decide (k / 2 = 1) → Wf l X uX7_seekRests (d + 1) true (mC (mk w p r I L) + 0, mS (mk w p r I L) + 0) 52 [(0, .ref 150), (1, .int e), (2, .int (nI (cnP e k))), (3, .int (nI k)), (4, .int (bI (decide (k / 2 = 1)))), (5, .int (bI (decide (k % 2 = 1))))] [.int (bI (!a)), .int e] (mk w p r (u2 I 150 39 (fRk e k)) L) kr := by
      intro a ha
      refine Wf.gc tkX7_seekRests [80, 117] ?_
      conv => whnf
      refine y_canonHas ?_
      conv => whnf
      refine y_canonHas ?_
      rw [bI_z, bI_z, bI_z, ha]
      conv => whnf
      refine ⟨fun c => ?_, fun c => ?_⟩
      · have c : shr e (decide (k / 2 = 1)) (decide (k % 2 = 1)) false < shr e (!decide (k / 2 = 1)) (decide (k % 2 = 1)) false := c
        conv => whnf
        refine no ?_
        unfold isP isr
        rw [decide_eq_false (p := ¬ shr e (decide (k / 2 = 1)) (decide (k % 2 = 1)) false < _) (fun z => z c)]
        rfl
      · have c : ¬ shr e (decide (k / 2 = 1)) (decide (k % 2 = 1)) false < shr e (!decide (k / 2 = 1)) (decide (k % 2 = 1)) false := c
        conv => whnf
        cases hu : decide (k % 2 = 1) with
        | true =>
          refine b1 (by decide) ?_
          conv => whnf
          have := m80 true hu.symm c
          rw [hu] at this
          exact this
        | false =>
          refine b2 (fun z => z rfl) ?_
          conv => whnf
          have := m80 false hu.symm c
          rw [hu] at this
          exact this
    have m39 : ∀ a : Bool, a = decide (k % 2 = 1) → ∀ z : Ls, Wf l X uX7_seekRests (d + 1) true (mC (mk w p r I L) + 0, mS (mk w p r I L) + 0) 39 [(0, .ref 150), (1, .int e), (2, .int (nI (cnP e k))), (3, .int (nI k)), (4, .int (bI (decide (k / 2 = 1))))] [.int (bI a)] (mk w p r (u2 I 150 39 (fRk e k)) L) kr := by
      intro a ha _
      rw [ha]
      refine Wf.gc tkX7_seekRests [52] ?_
      conv => whnf
      cases hs : decide (k / 2 = 1) with
      | true =>
        refine b1 (by decide) ?_
        conv => whnf
        have := m52 true hs.symm
        rw [hs] at this
        exact this
      | false =>
        refine b2 (fun z => z rfl) ?_
        conv => whnf
        have := m52 false hs.symm
        rw [hs] at this
        exact this
    have m25 : ∀ a : Bool, a = decide (k / 2 = 1) → Wf l X uX7_seekRests (d + 1) true (mC (mk w p r I L) + 0, mS (mk w p r I L) + 0) 25 [(0, .ref 150), (1, .int e), (2, .int (nI (cnP e k))), (3, .int (nI k))] [.int (bI a)] (mk w p r (u2 I 150 39 (fRk e k)) L) kr := by
      intro a ha
      rw [ha]
      refine Wf.gc tkX7_seekRests [39] ?_
      conv => whnf
      refine ⟨by decide, ?_⟩
      conv => whnf
      refine ⟨fun c => ?_, fun c => ?_⟩
      · have c : ¬ (nI k - nI k / 2 * 2 : Int32) = 1 := c
        rw [k4_u k hk] at c
        conv => whnf
        exact m39 false (decide_eq_false c).symm []
      · have c : (nI k - nI k / 2 * 2 : Int32) = 1 := c
        rw [k4_u k hk] at c
        conv => whnf
        exact m39 true (decide_eq_true c).symm []
    refine Wf.gc tkX7_seekRests [25] ?_
    conv => whnf
    refine b2' (by show ¬ (4 : Int32) ≤ nI k; rw [show (4 : Int32) = nI 4 from rfl, nI_leI (by decide) (by omega)]; omega) ?_
    conv => whnf
    refine ⟨fun c => ?_, fun c => ?_⟩
    · have c : nI k ≤ (1 : Int32) := c
      rw [k4_s k hk] at c
      conv => whnf
      exact m25 false (decide_eq_false c).symm
    · have c : ¬ nI k ≤ (1 : Int32) := c
      rw [k4_s k hk, Decidable.not_not] at c
      conv => whnf
      exact m25 true (decide_eq_true c).symm
set_option maxRecDepth 20000 in
theorem y_rests {hc : Bool} (h14 : I 150 14 = bI hc) (h : ∀ I', kr (some (.int (vRs hc e))) (mk w p r I' L)) : Ev l X uX7_rests (d + 2) true 0 0 [.ref 150, .int e] (mk w p r I L) kr := by
  refine Ev.of (by decide) (Nat.le_of_ble_eq_true rfl) ?_
  refine Wf.gc tkX7_rests [] ?_
  conv => whnf
  refine y_good ?_
  conv => whnf
  refine y_inG ?_
  conv => whnf
  show Ev l X uX7_why (d + 1) true 0 0 [.ref 150, .int (u2 (u2 I 150 0 0) 150 11 0 150 14), .int (bI (inG e))] (mk w p r (u2 (u2 I 150 0 0) 150 11 0) L) _
  rw [u2_o (by decide), u2_o (by decide), h14]
  refine y_why ?_
  conv => whnf
  refine ⟨fun c => ?_, fun c => ?_⟩
  · have c : (if hc = true then (if inG e = true then (0 : Int32) else 2) else 1) = 0 := c
    have g := (gOk_w hc e).mp c
    unfold vRs at h
    rw [g] at h
    conv => whnf
    refine y_seekRests ?_
    conv => whnf
    exact h _
  · have c : ¬ (if hc = true then (if inG e = true then (0 : Int32) else 2) else 1) = 0 := c
    have g : gOk hc e = false := by
      cases hq : gOk hc e with
      | false => rfl
      | true => exact absurd ((gOk_w hc e).mpr hq) c
    unfold vRs at h
    rw [g] at h
    conv => whnf
    refine y_no ?_
    conv => whnf
    exact h _
set_option maxRecDepth 20000 in
theorem y_rest {hc : Bool} (h14 : I 150 14 = bI hc) (h : ∀ I', kr (some (.int (vRt hc e))) (mk w p r I' L)) : Ev l X uX7_rest (d + 2) true 0 0 [.ref 150, .int e] (mk w p r I L) kr := by
  refine Ev.of (by decide) (Nat.le_of_ble_eq_true rfl) ?_
  refine Wf.gc tkX7_rest [] ?_
  conv => whnf
  refine y_good ?_
  conv => whnf
  refine y_inG ?_
  conv => whnf
  show Ev l X uX7_why (d + 1) true 0 0 [.ref 150, .int (u2 (u2 I 150 0 0) 150 11 0 150 14), .int (bI (inG e))] (mk w p r (u2 (u2 I 150 0 0) 150 11 0) L) _
  rw [u2_o (by decide), u2_o (by decide), h14]
  refine y_why ?_
  conv => whnf
  refine ⟨fun c => ?_, fun c => ?_⟩
  · have c : (if hc = true then (if inG e = true then (0 : Int32) else 2) else 1) = 0 := c
    have g := (gOk_w hc e).mp c
    unfold vRt at h
    rw [g] at h
    conv => whnf
    refine y_seekRests ?_
    conv => whnf
    show kr (some (.int (u2 (u2 (u2 I 150 0 0) 150 11 0) 150 39 (fRk e 4) 150 39))) _
    rw [u2_s, fRk_4]
    exact h _
  · have c : ¬ (if hc = true then (if inG e = true then (0 : Int32) else 2) else 1) = 0 := c
    have g : gOk hc e = false := by
      cases hq : gOk hc e with
      | false => rfl
      | true => exact absurd ((gOk_w hc e).mpr hq) c
    unfold vRt at h
    rw [g] at h
    conv => whnf
    refine y_no ?_
    conv => whnf
    exact h _
end GAM4
