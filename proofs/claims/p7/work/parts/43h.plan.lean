/-! the plan's own questions -/
section PLQ
variable {l : Launch} {X : Nat × (Nat → Int32)} {d : Nat} {w : Nat × Nat} {p r : Nat} {I : Nat → Nat → Int32} {L : Nat → Nat → Int64} {kr : KR} {F : Nat → Nat} {W : Int32}
theorem b1' {P A B : Prop} (hp : P) (a : A) : (P → A) ∧ (¬ P → B) := ⟨fun _ => a, fun z => absurd hp z⟩
theorem b2' {P A B : Prop} (hn : ¬ P) (b : B) : (P → A) ∧ (¬ P → B) := ⟨fun z => absurd z hn, fun _ => b⟩
set_option maxRecDepth 20000 in
theorem x_faceOver {q v : Nat} (hq : q = 7 ∨ q = 20) (hv : v < 1000) (hF : ∀ f, f < F 4 → F (14 + 4 * f) < 1000) (hN : F 4 ≤ 6) (hp : PC q F W I) (h : kr (some (.int (oI (fov F v)))) (mk w p r I L)) : Ev l X uX3_faceOver d true 0 0 [.ref q, .int (nI v)] (mk w p r I L) kr := by
  obtain ⟨⟨a0, a1, a2, a3, a4, a5, a6, a7⟩, b1, b2, b3, b4, b5⟩ := hp
  refine Ev.of (by decide) (Nat.le_of_ble_eq_true rfl) ?_
  rcases hq with rfl | rfl
  · refine Wf.gc tkX3_faceOver [2] ?_
    conv => whnf
    have loop := srch (e := F 4) (P := fun g => Nat.beq (F (14 + 4 * g)) v) (Wi := fun i => Wf l X uX3_faceOver d true (mC (mk w p r I L) + 0, mS (mk w p r I L) + 0) 2 [(0, .ref 7), (1, .int (nI v)), (2, .int (nI i))] [] (mk w p r I L) kr) (K := fun o => kr (some (.int (oI o))) (mk w p r I L)) ?_ ?_ 0 (Nat.zero_le _)
    · rw [Nat.sub_zero] at loop
      exact loop h
    · intro hK
      refine Wf.gc tkX3_faceOver [] ?_
      conv => whnf
      refine b1' (by show I 7 4 ≤ nI (F 4); rw [a4]; exact Int32.le_refl _) ?_
      conv => whnf
      exact hK
    · intro i hi
      have m3 : I 11 i = nI (F (14 + 4 * i)) := (b1 i hi).2.2.2
      have head : (F (14 + 4 * i) = v → kr (some (.int (nI i))) (mk w p r I L)) → (¬ F (14 + 4 * i) = v → Wf l X uX3_faceOver d true (mC (mk w p r I L) + 0, mS (mk w p r I L) + 0) 22 [(0, .ref 7), (1, .int (nI v)), (2, .int (nI i))] [] (mk w p r I L) kr) → Wf l X uX3_faceOver d true (mC (mk w p r I L) + 0, mS (mk w p r I L) + 0) 2 [(0, .ref 7), (1, .int (nI v)), (2, .int (nI i))] [] (mk w p r I L) kr := by
        intro j1 j2
        refine Wf.gc tkX3_faceOver [22] ?_
        conv => whnf
        refine b2' (by show ¬ I 7 4 ≤ nI i; rw [a4]; exact nI_ge hi (by omega)) ?_
        conv => whnf
        refine ⟨i, ix (N := 6) (by omega) (by decide), ?_⟩
        conv => whnf
        refine ⟨fun z => ?_, fun z => ?_⟩
        · have z : ¬ I 11 i = nI v := z
          rw [m3, nI_eq (by have := hF i hi; omega) (by omega)] at z
          conv => whnf
          exact j2 z
        · have z : I 11 i = nI v := z
          rw [m3, nI_eq (by have := hF i hi; omega) (by omega)] at z
          conv => whnf
          exact j1 z
      refine ⟨fun hP hK => ?_, fun hP hK => ?_⟩
      · exact head (fun _ => hK) (fun q => absurd (Nat.eq_of_beq_eq_true hP) q)
      · refine head (fun q => ?_) (fun _ => ?_)
        · have hP : Nat.beq (F (14 + 4 * i)) v = false := hP
          rw [q, Nat.beq_refl] at hP
          cases hP
        · refine Wf.gc tkX3_faceOver [2] ?_
          conv => whnf
          rw [← nI_1] at hK
          exact hK
  · refine Wf.gc tkX3_faceOver [2] ?_
    conv => whnf
    have loop := srch (e := F 4) (P := fun g => Nat.beq (F (14 + 4 * g)) v) (Wi := fun i => Wf l X uX3_faceOver d true (mC (mk w p r I L) + 0, mS (mk w p r I L) + 0) 2 [(0, .ref 20), (1, .int (nI v)), (2, .int (nI i))] [] (mk w p r I L) kr) (K := fun o => kr (some (.int (oI o))) (mk w p r I L)) ?_ ?_ 0 (Nat.zero_le _)
    · rw [Nat.sub_zero] at loop
      exact loop h
    · intro hK
      refine Wf.gc tkX3_faceOver [] ?_
      conv => whnf
      refine b1' (by show I 20 4 ≤ nI (F 4); rw [a4]; exact Int32.le_refl _) ?_
      conv => whnf
      exact hK
    · intro i hi
      have m3 : I 24 i = nI (F (14 + 4 * i)) := (b1 i hi).2.2.2
      have head : (F (14 + 4 * i) = v → kr (some (.int (nI i))) (mk w p r I L)) → (¬ F (14 + 4 * i) = v → Wf l X uX3_faceOver d true (mC (mk w p r I L) + 0, mS (mk w p r I L) + 0) 22 [(0, .ref 20), (1, .int (nI v)), (2, .int (nI i))] [] (mk w p r I L) kr) → Wf l X uX3_faceOver d true (mC (mk w p r I L) + 0, mS (mk w p r I L) + 0) 2 [(0, .ref 20), (1, .int (nI v)), (2, .int (nI i))] [] (mk w p r I L) kr := by
        intro j1 j2
        refine Wf.gc tkX3_faceOver [22] ?_
        conv => whnf
        refine b2' (by show ¬ I 20 4 ≤ nI i; rw [a4]; exact nI_ge hi (by omega)) ?_
        conv => whnf
        refine ⟨i, ix (N := 6) (by omega) (by decide), ?_⟩
        conv => whnf
        refine ⟨fun z => ?_, fun z => ?_⟩
        · have z : ¬ I 24 i = nI v := z
          rw [m3, nI_eq (by have := hF i hi; omega) (by omega)] at z
          conv => whnf
          exact j2 z
        · have z : I 24 i = nI v := z
          rw [m3, nI_eq (by have := hF i hi; omega) (by omega)] at z
          conv => whnf
          exact j1 z
      refine ⟨fun hP hK => ?_, fun hP hK => ?_⟩
      · exact head (fun _ => hK) (fun q => absurd (Nat.eq_of_beq_eq_true hP) q)
      · refine head (fun q => ?_) (fun _ => ?_)
        · have hP : Nat.beq (F (14 + 4 * i)) v = false := hP
          rw [q, Nat.beq_refl] at hP
          cases hP
        · refine Wf.gc tkX3_faceOver [2] ?_
          conv => whnf
          rw [← nI_1] at hK
          exact hK
set_option maxRecDepth 20000 in
theorem x_toldCanonOf {q v : Nat} (hq : q = 7 ∨ q = 20) (hv : v < 1000) (hF : ∀ f, f < F 5 → F (300 + f) < 1000) (hN : F 5 ≤ 5) (hp : PC q F W I) (h : kr (some (.int (oI (toc F v)))) (mk w p r I L)) : Ev l X uX3_toldCanonOf d true 0 0 [.ref q, .int (nI v)] (mk w p r I L) kr := by
  obtain ⟨⟨a0, a1, a2, a3, a4, a5, a6, a7⟩, b1, b2, b3, b4, b5⟩ := hp
  refine Ev.of (by decide) (Nat.le_of_ble_eq_true rfl) ?_
  rcases hq with rfl | rfl
  · refine Wf.gc tkX3_toldCanonOf [2] ?_
    conv => whnf
    have loop := srch (e := F 5) (P := fun g => Nat.beq (F (300 + g)) v) (Wi := fun i => Wf l X uX3_toldCanonOf d true (mC (mk w p r I L) + 0, mS (mk w p r I L) + 0) 2 [(0, .ref 7), (1, .int (nI v)), (2, .int (nI i))] [] (mk w p r I L) kr) (K := fun o => kr (some (.int (oI o))) (mk w p r I L)) ?_ ?_ 0 (Nat.zero_le _)
    · rw [Nat.sub_zero] at loop
      exact loop h
    · intro hK
      refine Wf.gc tkX3_toldCanonOf [] ?_
      conv => whnf
      refine b1' (by show I 7 10 ≤ nI (F 5); rw [a5]; exact Int32.le_refl _) ?_
      conv => whnf
      exact hK
    · intro i hi
      have m3 : I 13 i = nI (F (300 + i)) := (b3 i hi).1
      have head : (F (300 + i) = v → kr (some (.int (nI i))) (mk w p r I L)) → (¬ F (300 + i) = v → Wf l X uX3_toldCanonOf d true (mC (mk w p r I L) + 0, mS (mk w p r I L) + 0) 22 [(0, .ref 7), (1, .int (nI v)), (2, .int (nI i))] [] (mk w p r I L) kr) → Wf l X uX3_toldCanonOf d true (mC (mk w p r I L) + 0, mS (mk w p r I L) + 0) 2 [(0, .ref 7), (1, .int (nI v)), (2, .int (nI i))] [] (mk w p r I L) kr := by
        intro j1 j2
        refine Wf.gc tkX3_toldCanonOf [22] ?_
        conv => whnf
        refine b2' (by show ¬ I 7 10 ≤ nI i; rw [a5]; exact nI_ge hi (by omega)) ?_
        conv => whnf
        refine ⟨i, ix (N := 5) (by omega) (by decide), ?_⟩
        conv => whnf
        refine ⟨fun z => ?_, fun z => ?_⟩
        · have z : ¬ I 13 i = nI v := z
          rw [m3, nI_eq (by have := hF i hi; omega) (by omega)] at z
          conv => whnf
          exact j2 z
        · have z : I 13 i = nI v := z
          rw [m3, nI_eq (by have := hF i hi; omega) (by omega)] at z
          conv => whnf
          exact j1 z
      refine ⟨fun hP hK => ?_, fun hP hK => ?_⟩
      · exact head (fun _ => hK) (fun q => absurd (Nat.eq_of_beq_eq_true hP) q)
      · refine head (fun q => ?_) (fun _ => ?_)
        · have hP : Nat.beq (F (300 + i)) v = false := hP
          rw [q, Nat.beq_refl] at hP
          cases hP
        · refine Wf.gc tkX3_toldCanonOf [2] ?_
          conv => whnf
          rw [← nI_1] at hK
          exact hK
  · refine Wf.gc tkX3_toldCanonOf [2] ?_
    conv => whnf
    have loop := srch (e := F 5) (P := fun g => Nat.beq (F (300 + g)) v) (Wi := fun i => Wf l X uX3_toldCanonOf d true (mC (mk w p r I L) + 0, mS (mk w p r I L) + 0) 2 [(0, .ref 20), (1, .int (nI v)), (2, .int (nI i))] [] (mk w p r I L) kr) (K := fun o => kr (some (.int (oI o))) (mk w p r I L)) ?_ ?_ 0 (Nat.zero_le _)
    · rw [Nat.sub_zero] at loop
      exact loop h
    · intro hK
      refine Wf.gc tkX3_toldCanonOf [] ?_
      conv => whnf
      refine b1' (by show I 20 10 ≤ nI (F 5); rw [a5]; exact Int32.le_refl _) ?_
      conv => whnf
      exact hK
    · intro i hi
      have m3 : I 26 i = nI (F (300 + i)) := (b3 i hi).1
      have head : (F (300 + i) = v → kr (some (.int (nI i))) (mk w p r I L)) → (¬ F (300 + i) = v → Wf l X uX3_toldCanonOf d true (mC (mk w p r I L) + 0, mS (mk w p r I L) + 0) 22 [(0, .ref 20), (1, .int (nI v)), (2, .int (nI i))] [] (mk w p r I L) kr) → Wf l X uX3_toldCanonOf d true (mC (mk w p r I L) + 0, mS (mk w p r I L) + 0) 2 [(0, .ref 20), (1, .int (nI v)), (2, .int (nI i))] [] (mk w p r I L) kr := by
        intro j1 j2
        refine Wf.gc tkX3_toldCanonOf [22] ?_
        conv => whnf
        refine b2' (by show ¬ I 20 10 ≤ nI i; rw [a5]; exact nI_ge hi (by omega)) ?_
        conv => whnf
        refine ⟨i, ix (N := 5) (by omega) (by decide), ?_⟩
        conv => whnf
        refine ⟨fun z => ?_, fun z => ?_⟩
        · have z : ¬ I 26 i = nI v := z
          rw [m3, nI_eq (by have := hF i hi; omega) (by omega)] at z
          conv => whnf
          exact j2 z
        · have z : I 26 i = nI v := z
          rw [m3, nI_eq (by have := hF i hi; omega) (by omega)] at z
          conv => whnf
          exact j1 z
      refine ⟨fun hP hK => ?_, fun hP hK => ?_⟩
      · exact head (fun _ => hK) (fun q => absurd (Nat.eq_of_beq_eq_true hP) q)
      · refine head (fun q => ?_) (fun _ => ?_)
        · have hP : Nat.beq (F (300 + i)) v = false := hP
          rw [q, Nat.beq_refl] at hP
          cases hP
        · refine Wf.gc tkX3_toldCanonOf [2] ?_
          conv => whnf
          rw [← nI_1] at hK
          exact hK
set_option maxRecDepth 20000 in
theorem x_unsureOf {q v : Nat} (hq : q = 7 ∨ q = 20) (hv : v < 1000) (hF : ∀ f, f < F 7 → F (53 + 2 * f) < 1000) (hN : F 7 ≤ 4) (hp : PC q F W I) (h : kr (some (.int (oI (usd F v)))) (mk w p r I L)) : Ev l X uX3_unsureOf d true 0 0 [.ref q, .int (nI v)] (mk w p r I L) kr := by
  obtain ⟨⟨a0, a1, a2, a3, a4, a5, a6, a7⟩, b1, b2, b3, b4, b5⟩ := hp
  refine Ev.of (by decide) (Nat.le_of_ble_eq_true rfl) ?_
  rcases hq with rfl | rfl
  · refine Wf.gc tkX3_unsureOf [2] ?_
    conv => whnf
    have loop := srch (e := F 7) (P := fun g => Nat.beq (F (53 + 2 * g)) v) (Wi := fun i => Wf l X uX3_unsureOf d true (mC (mk w p r I L) + 0, mS (mk w p r I L) + 0) 2 [(0, .ref 7), (1, .int (nI v)), (2, .int (nI i))] [] (mk w p r I L) kr) (K := fun o => kr (some (.int (oI o))) (mk w p r I L)) ?_ ?_ 0 (Nat.zero_le _)
    · rw [Nat.sub_zero] at loop
      exact loop h
    · intro hK
      refine Wf.gc tkX3_unsureOf [] ?_
      conv => whnf
      refine b1' (by show I 7 17 ≤ nI (F 7); rw [a7]; exact Int32.le_refl _) ?_
      conv => whnf
      exact hK
    · intro i hi
      have m3 : I 18 i = nI (F (53 + 2 * i)) := (b5 i hi).1
      have head : (F (53 + 2 * i) = v → kr (some (.int (nI i))) (mk w p r I L)) → (¬ F (53 + 2 * i) = v → Wf l X uX3_unsureOf d true (mC (mk w p r I L) + 0, mS (mk w p r I L) + 0) 22 [(0, .ref 7), (1, .int (nI v)), (2, .int (nI i))] [] (mk w p r I L) kr) → Wf l X uX3_unsureOf d true (mC (mk w p r I L) + 0, mS (mk w p r I L) + 0) 2 [(0, .ref 7), (1, .int (nI v)), (2, .int (nI i))] [] (mk w p r I L) kr := by
        intro j1 j2
        refine Wf.gc tkX3_unsureOf [22] ?_
        conv => whnf
        refine b2' (by show ¬ I 7 17 ≤ nI i; rw [a7]; exact nI_ge hi (by omega)) ?_
        conv => whnf
        refine ⟨i, ix (N := 4) (by omega) (by decide), ?_⟩
        conv => whnf
        refine ⟨fun z => ?_, fun z => ?_⟩
        · have z : ¬ I 18 i = nI v := z
          rw [m3, nI_eq (by have := hF i hi; omega) (by omega)] at z
          conv => whnf
          exact j2 z
        · have z : I 18 i = nI v := z
          rw [m3, nI_eq (by have := hF i hi; omega) (by omega)] at z
          conv => whnf
          exact j1 z
      refine ⟨fun hP hK => ?_, fun hP hK => ?_⟩
      · exact head (fun _ => hK) (fun q => absurd (Nat.eq_of_beq_eq_true hP) q)
      · refine head (fun q => ?_) (fun _ => ?_)
        · have hP : Nat.beq (F (53 + 2 * i)) v = false := hP
          rw [q, Nat.beq_refl] at hP
          cases hP
        · refine Wf.gc tkX3_unsureOf [2] ?_
          conv => whnf
          rw [← nI_1] at hK
          exact hK
  · refine Wf.gc tkX3_unsureOf [2] ?_
    conv => whnf
    have loop := srch (e := F 7) (P := fun g => Nat.beq (F (53 + 2 * g)) v) (Wi := fun i => Wf l X uX3_unsureOf d true (mC (mk w p r I L) + 0, mS (mk w p r I L) + 0) 2 [(0, .ref 20), (1, .int (nI v)), (2, .int (nI i))] [] (mk w p r I L) kr) (K := fun o => kr (some (.int (oI o))) (mk w p r I L)) ?_ ?_ 0 (Nat.zero_le _)
    · rw [Nat.sub_zero] at loop
      exact loop h
    · intro hK
      refine Wf.gc tkX3_unsureOf [] ?_
      conv => whnf
      refine b1' (by show I 20 17 ≤ nI (F 7); rw [a7]; exact Int32.le_refl _) ?_
      conv => whnf
      exact hK
    · intro i hi
      have m3 : I 31 i = nI (F (53 + 2 * i)) := (b5 i hi).1
      have head : (F (53 + 2 * i) = v → kr (some (.int (nI i))) (mk w p r I L)) → (¬ F (53 + 2 * i) = v → Wf l X uX3_unsureOf d true (mC (mk w p r I L) + 0, mS (mk w p r I L) + 0) 22 [(0, .ref 20), (1, .int (nI v)), (2, .int (nI i))] [] (mk w p r I L) kr) → Wf l X uX3_unsureOf d true (mC (mk w p r I L) + 0, mS (mk w p r I L) + 0) 2 [(0, .ref 20), (1, .int (nI v)), (2, .int (nI i))] [] (mk w p r I L) kr := by
        intro j1 j2
        refine Wf.gc tkX3_unsureOf [22] ?_
        conv => whnf
        refine b2' (by show ¬ I 20 17 ≤ nI i; rw [a7]; exact nI_ge hi (by omega)) ?_
        conv => whnf
        refine ⟨i, ix (N := 4) (by omega) (by decide), ?_⟩
        conv => whnf
        refine ⟨fun z => ?_, fun z => ?_⟩
        · have z : ¬ I 31 i = nI v := z
          rw [m3, nI_eq (by have := hF i hi; omega) (by omega)] at z
          conv => whnf
          exact j2 z
        · have z : I 31 i = nI v := z
          rw [m3, nI_eq (by have := hF i hi; omega) (by omega)] at z
          conv => whnf
          exact j1 z
      refine ⟨fun hP hK => ?_, fun hP hK => ?_⟩
      · exact head (fun _ => hK) (fun q => absurd (Nat.eq_of_beq_eq_true hP) q)
      · refine head (fun q => ?_) (fun _ => ?_)
        · have hP : Nat.beq (F (53 + 2 * i)) v = false := hP
          rw [q, Nat.beq_refl] at hP
          cases hP
        · refine Wf.gc tkX3_unsureOf [2] ?_
          conv => whnf
          rw [← nI_1] at hK
          exact hK
theorem x_cells {q : Nat} (hq : q = 7 ∨ q = 20) (h0 : F 0 ≤ 5) (h1 : F 1 ≤ 4) (hp : PC q F W I) (h : kr (some (.int (nI (F 0 * F 1)))) (mk w p r I L)) : Ev l X uX3_cells d true 0 0 [.ref q] (mk w p r I L) kr := by
  obtain ⟨⟨a0, a1, a2, a3, a4, a5, a6, a7⟩, b1, b2, b3, b4, b5⟩ := hp
  refine Ev.of (by decide) (Nat.le_of_ble_eq_true rfl) ?_
  rw [← nI_mul, ← a0, ← a1] at h
  rcases hq with rfl | rfl
  all_goals
    refine Wf.gc tkX3_cells [] ?_
    conv => whnf
    exact h
theorem x_isWall {q k : Nat} (hq : q = 7 ∨ q = 20) (hp : PC q F W I) (h : kr (some (.int (bI (isWl W k)))) (mk w p r I L)) : Ev l X uX3_isWall d true 0 0 [.ref q, .int (nI k)] (mk w p r I L) kr := by
  obtain ⟨⟨a0, a1, a2, a3, a4, a5, a6, a7⟩, b1, b2, b3, b4, b5⟩ := hp
  refine Ev.of (by decide) (Nat.le_of_ble_eq_true rfl) ?_
  unfold isWl at h
  rw [← a3] at h
  rcases hq with rfl | rfl
  · refine Wf.gc tkX3_isWall [] ?_
    conv => whnf
    refine ⟨fun z => ?_, fun z => ?_⟩
    · have z : (I 7 3 >>> (nI k &&& 31)) &&& 1 = 0 := z
      rw [decide_eq_true z] at h
      conv => whnf
      exact ⟨Or.inl rfl, h⟩
    · have z : ¬ (I 7 3 >>> (nI k &&& 31)) &&& 1 = 0 := z
      rw [decide_eq_false z] at h
      conv => whnf
      exact ⟨Or.inr rfl, h⟩
  · refine Wf.gc tkX3_isWall [] ?_
    conv => whnf
    refine ⟨fun z => ?_, fun z => ?_⟩
    · have z : (I 20 3 >>> (nI k &&& 31)) &&& 1 = 0 := z
      rw [decide_eq_true z] at h
      conv => whnf
      exact ⟨Or.inl rfl, h⟩
    · have z : ¬ (I 20 3 >>> (nI k &&& 31)) &&& 1 = 0 := z
      rw [decide_eq_false z] at h
      conv => whnf
      exact ⟨Or.inr rfl, h⟩
/-- Integer.bitCount as it computes -/
def ush (x y : Int32) : Int32 := (x.toUInt32 >>> (y.toUInt32 &&& Int32.toUInt32 31)).toInt32
def pc1 (x : Int32) : Int32 := x - (ush x 1 &&& 1431655765)
def pc2 (x : Int32) : Int32 := (x &&& 858993459) + (ush x 2 &&& 858993459)
def pc3 (x : Int32) : Int32 := (x + ush x 4) &&& 252645135
def pc4 (x : Int32) : Int32 := x + ush x 8
def pc5 (x : Int32) : Int32 := x + ush x 16
def pcI (x : Int32) : Int32 := pc5 (pc4 (pc3 (pc2 (pc1 x)))) &&& 63
set_option maxRecDepth 20000 in
theorem x_bitCount {v : Int32} {M : Mm} (h : kr (some (.int (pcI v))) M) : Ev l X uJ6_bitCount_0f7a4 d true 0 0 [.int v] M kr := by
  refine Ev.ofF (by decide +kernel) (Nat.le_of_ble_eq_true rfl) ?_
  refine Wf.gc tkJ6_bitCount_0f7a4 [] ?_
  conv => whnf
  exact h
theorem x_wallCount {q : Nat} (hq : q = 7 ∨ q = 20) (hp : PC q F W I) (h : kr (some (.int (pcI W))) (mk w p r I L)) : Ev l X uX3_wallCount (d + 1) true 0 0 [.ref q] (mk w p r I L) kr := by
  obtain ⟨⟨a0, a1, a2, a3, a4, a5, a6, a7⟩, b1, b2, b3, b4, b5⟩ := hp
  refine Ev.of (by decide) (Nat.le_of_ble_eq_true rfl) ?_
  rw [← a3] at h
  rcases hq with rfl | rfl
  all_goals
    refine Wf.gc tkX3_wallCount [] ?_
    conv => whnf
    refine x_bitCount ?_
    conv => whnf
    exact h
end PLQ
