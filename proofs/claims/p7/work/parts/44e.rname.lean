/-! the reference's names -/
section RNA
variable {l : Launch} {X : Nat × (Nat → Int32)} {d : Nat} {w : Nat × Nat} {p r : Nat} {I : Nat → Nat → Int32} {L : Nat → Nat → Int64} {kr : KR} {b : Nat → Nat} {n e : Nat} {nm : List Nm}
/-- where the reference keeps a name -/
def sl (x : Nm) : Nat := (if x.2.2.1 = 1 then 0 else if x.2.2.1 = 2 then 6 else 11) + x.2.2.2
/-- sorts and numbers of names -/
def SI (nm : List Nm) : Prop := ∀ i, i < nm.length → ((nmD nm i).2.2.1 = 1 ∧ (nmD nm i).2.2.2 < 6) ∨ ((nmD nm i).2.2.1 = 2 ∧ (nmD nm i).2.2.2 < 5) ∨ ((nmD nm i).2.2.1 = 3 ∧ (nmD nm i).2.2.2 < 4)
/-- names are unlike, and kept apart -/
def UN (b : Nat → Nat) (nm : List Nm) : Prop := ∀ i j, i < nm.length → j < nm.length → (sl (nmD nm i) = sl (nmD nm j) ∨ sameW b (nmD nm i).1 (nmD nm i).2.1 (nmD nm j).1 (nmD nm j).2.1 = true) → i = j
def RN (b : Nat → Nat) (nm : List Nm) (I : Nat → Nat → Int32) : Prop := (∀ i, i < nm.length → I 154 (67 + sl (nmD nm i)) = nI (nmD nm i).2.1 ∧ (1 ≤ (nmD nm i).2.1 ∧ (nmD nm i).2.1 ≤ 8) ∧ ∀ j, j < (nmD nm i).2.1 → I 154 (82 + 8 * sl (nmD nm i) + j) = nI (b ((nmD nm i).1 + j)) ∧ b ((nmD nm i).1 + j) < 256) ∧ ∀ m, m < 15 → (∀ i, i < nm.length → sl (nmD nm i) ≠ m) → I 154 (67 + m) = 0
theorem sl_15 (h : SI nm) {i : Nat} (hi : i < nm.length) : sl (nmD nm i) < 15 := by
  unfold sl
  rcases h i hi with ⟨h1, h2⟩ | ⟨h1, h2⟩ | ⟨h1, h2⟩
  · rw [if_pos h1]; omega
  · rw [if_neg (by omega), if_pos h1]; omega
  · rw [if_neg (by omega), if_neg (by omega)]; omega
set_option maxHeartbeats 2000000 in
set_option maxRecDepth 20000 in
theorem y_mustName (hr : RX b n I) (he : e ≤ n) (hc : TR b n e I) (h0 : I 150 13 = 0) (h1 : tso b n e = 1 ∧ bgl b n e = false → kr none (mk w p r I L)) (h2 : ¬ (tso b n e = 1 ∧ bgl b n e = false) → kr none (mk w p r (flR I 1 (tst b n e)) L)) : Ev l X uX7_mustName (d + 6) true 0 0 [.ref 150] (mk w p r I L) kr := by
  have s4 := tso_5 (b := b) (n := n) (e := e)
  refine Ev.of (by decide) (Nat.le_of_ble_eq_true rfl) ?_
  have bad : ¬ (tso b n e = 1 ∧ bgl b n e = false) → Wf l X uX7_mustName (d + 6) true (mC (mk w p r I L) + 0, mS (mk w p r I L) + 0) 71 [(0, .ref 150)] [] (mk w p r I L) kr := by
    intro q
    refine Wf.gc tkX7_mustName [] ?_
    conv => whnf
    refine y_wrong0 h0 ?_
    conv => whnf
    have q := h2 q
    unfold flR at q
    rw [← hc.2.1] at q
    exact q
  refine Wf.gc tkX7_mustName [71] ?_
  conv => whnf
  refine ⟨fun z => ?_, fun z => ?_⟩
  · have z : ¬ I 150 6 = 2 := z
    conv => whnf
    exact bad (fun q => by rw [hc.1, q.1] at z; exact z rfl)
  have z : I 150 6 = 2 := z
  have t1 : tso b n e = 1 := by
    rw [hc.1] at z
    rcases (show tso b n e = 0 ∨ tso b n e = 1 ∨ tso b n e = 2 ∨ tso b n e = 3 ∨ tso b n e = 4 by omega) with q | q | q | q | q
    · rw [q] at z; exact absurd z (by decide)
    · exact q
    · rw [q] at z; exact absurd z (by decide)
    · rw [q] at z; exact absurd z (by decide)
    · rw [q] at z; exact absurd z (by decide)
  conv => whnf
  refine y_isWord (wd := 5021) (d := d) hr he hc h0 (by decide) ?_
  rw [show isW b n (5021 - 5000) e = isW b n 0 e from wd21 (wd := 5021) (i := 0) (by decide)]
  conv => whnf
  refine ⟨fun z => ?_, fun z => ?_⟩
  · have f0 := bI_t z
    conv => whnf
    exact bad (fun q => by have q := q.2; unfold bgl at q; rw [f0] at q; cases q)
  have g0 := bI_f z
  conv => whnf
  refine y_isWord (wd := 5022) (d := d) hr he hc h0 (by decide) ?_
  rw [show isW b n (5022 - 5000) e = isW b n 1 e from wd21 (wd := 5022) (i := 1) (by decide)]
  conv => whnf
  refine ⟨fun z => ?_, fun z => ?_⟩
  · have f1 := bI_t z
    conv => whnf
    exact bad (fun q => by have q := q.2; unfold bgl at q; rw [g0, f1] at q; cases q)
  have g1 := bI_f z
  conv => whnf
  refine y_isWord (wd := 5023) (d := d) hr he hc h0 (by decide) ?_
  rw [show isW b n (5023 - 5000) e = isW b n 2 e from wd21 (wd := 5023) (i := 2) (by decide)]
  conv => whnf
  refine ⟨fun z => ?_, fun z => ?_⟩
  · have f2 := bI_t z
    conv => whnf
    exact bad (fun q => by have q := q.2; unfold bgl at q; rw [g0, g1, f2] at q; cases q)
  have g2 := bI_f z
  conv => whnf
  refine y_isWord (wd := 5024) (d := d) hr he hc h0 (by decide) ?_
  rw [show isW b n (5024 - 5000) e = isW b n 3 e from wd21 (wd := 5024) (i := 3) (by decide)]
  conv => whnf
  refine ⟨fun z => ?_, fun z => ?_⟩
  · have f3 := bI_t z
    conv => whnf
    exact bad (fun q => by have q := q.2; unfold bgl at q; rw [g0, g1, g2, f3] at q; cases q)
  have g3 := bI_f z
  conv => whnf
  refine y_isWord (wd := 5025) (d := d) hr he hc h0 (by decide) ?_
  rw [show isW b n (5025 - 5000) e = isW b n 4 e from wd21 (wd := 5025) (i := 4) (by decide)]
  conv => whnf
  refine ⟨fun z => ?_, fun z => ?_⟩
  · have f4 := bI_t z
    conv => whnf
    exact bad (fun q => by have q := q.2; unfold bgl at q; rw [g0, g1, g2, g3, f4] at q; cases q)
  have g4 := bI_f z
  conv => whnf
  refine y_isWord (wd := 5026) (d := d) hr he hc h0 (by decide) ?_
  rw [show isW b n (5026 - 5000) e = isW b n 5 e from wd21 (wd := 5026) (i := 5) (by decide)]
  conv => whnf
  refine ⟨fun z => ?_, fun z => ?_⟩
  · have f5 := bI_t z
    conv => whnf
    exact bad (fun q => by have q := q.2; unfold bgl at q; rw [g0, g1, g2, g3, g4, f5] at q; cases q)
  have g5 := bI_f z
  conv => whnf
  refine y_isWord (wd := 5027) (d := d) hr he hc h0 (by decide) ?_
  rw [show isW b n (5027 - 5000) e = isW b n 6 e from wd21 (wd := 5027) (i := 6) (by decide)]
  conv => whnf
  refine ⟨fun z => ?_, fun z => ?_⟩
  · have g6 := bI_f z
    conv => whnf
    exact h1 ⟨t1, by unfold bgl; rw [g0, g1, g2, g3, g4, g5, g6]; rfl⟩
  · have f6 := bI_t z
    conv => whnf
    exact bad (fun q => by have q := q.2; unfold bgl at q; rw [g0, g1, g2, g3, g4, g5, f6] at q; cases q)
/-- the word at hand stands in slot m -/
def slP (b : Nat → Nat) (n : Nat) (nm : List Nm) (e m : Nat) : Bool := (ff (fun i => Nat.beq (sl (nmD nm i)) m && sameW b (nmD nm i).1 (nmD nm i).2.1 (tst b n e) (tsp b n e - tst b n e)) nm.length 0).isSome
theorem slP_t {m : Nat} : slP b n nm e m = true ↔ ∃ i, i < nm.length ∧ sl (nmD nm i) = m ∧ sameW b (nmD nm i).1 (nmD nm i).2.1 (tst b n e) (tsp b n e - tst b n e) = true := by
  unfold slP
  constructor
  · intro h
    cases hf : ff (fun i => Nat.beq (sl (nmD nm i)) m && sameW b (nmD nm i).1 (nmD nm i).2.1 (tst b n e) (tsp b n e - tst b n e)) nm.length 0 with
    | none => rw [hf] at h; cases h
    | some i =>
      obtain ⟨-, h2, h3⟩ := ff_lt hf
      obtain ⟨h3, h4⟩ := andT h3
      exact ⟨i, by omega, Nat.eq_of_beq_eq_true h3, h4⟩
  · rintro ⟨i, h1, h2, h3⟩
    cases hf : ff (fun i => Nat.beq (sl (nmD nm i)) m && sameW b (nmD nm i).1 (nmD nm i).2.1 (tst b n e) (tsp b n e - tst b n e)) nm.length 0 with
    | some _ => rfl
    | none =>
      have := ff_none hf i (Nat.zero_le _) (by omega)
      have this : (Nat.beq (sl (nmD nm i)) m && sameW b (nmD nm i).1 (nmD nm i).2.1 (tst b n e) (tsp b n e - tst b n e)) = false := this
      rw [h2, Nat.beq_refl, h3] at this
      cases this
theorem same_tr {s k t m u v : Nat} (h1 : sameW b s k u v = true) (h2 : sameW b t m u v = true) : sameW b s k t m = true := by
  rw [sameW_iff] at h1 h2 ⊢
  refine ⟨h1.1.trans h2.1.symm, fun j hj => (h1.2 j hj).trans (h2.2 j (by omega)).symm⟩
theorem fnd_eq (hs : SI nm) (hu : UN b nm) : ff (slP b n nm e) 15 0 = (nlk b n nm e).map (fun i => sl (nmD nm i)) := by
  cases hk : nlk b n nm e with
  | none =>
    have no : ∀ m, slP b n nm e m = false := fun m => by
      cases hq : slP b n nm e m with
      | false => rfl
      | true =>
        obtain ⟨i, h1, -, h3⟩ := slP_t.mp hq
        have := ff_none hk i (Nat.zero_le _) (by omega)
        have this : sameW b (nmD nm i).1 (nmD nm i).2.1 (tst b n e) (tsp b n e - tst b n e) = false := this
        rw [h3] at this
        cases this
    cases hf : ff (slP b n nm e) 15 0 with
    | none => rfl
    | some m =>
      have := (ff_lt hf).2.2
      rw [no m] at this
      cases this
  | some i =>
    obtain ⟨-, h2, h3⟩ := ff_lt hk
    have h2 : i < nm.length := by omega
    have hP : slP b n nm e (sl (nmD nm i)) = true := slP_t.mpr ⟨i, h2, rfl, h3⟩
    cases hf : ff (slP b n nm e) 15 0 with
    | none =>
      have := ff_none hf (sl (nmD nm i)) (Nat.zero_le _) (by have := sl_15 hs h2; omega)
      rw [hP] at this
      cases this
    | some m =>
      obtain ⟨j, q1, q2, q3⟩ := slP_t.mp (ff_lt hf).2.2
      have e1 := hu i j h2 q1 (Or.inr (same_tr h3 q3))
      subst e1
      rw [← q2]
      rfl
def oM : Option Nat → Int32
  | none => -1
  | some i => nI i
set_option maxHeartbeats 4000000 in
set_option maxRecDepth 20000 in
theorem y_find (hr : RX b n I) (he : e ≤ n) (hc : TR b n e I) (t1 : tso b n e = 1) (hs : SI nm) (hu : UN b nm) (hn : RN b nm I) (h : kr (some (.int (oM (ff (slP b n nm e) 15 0)))) (mk w p r I L)) : Ev l X uX7_find d true 0 0 [.ref 150] (mk w p r I L) kr := by
  obtain ⟨n8, l8⟩ := hc.2.2.2.2 t1
  obtain ⟨w8, w1, ws⟩ := word_b he t1
  have hsp := tsp_b (b := b) he
  refine Ev.of (by decide) (Nat.le_of_ble_eq_true rfl) ?_
  refine Wf.gc tkX7_find [2] ?_
  conv => whnf
  have loop := srch (e := 15) (P := slP b n nm e) (Wi := fun m => Wf l X uX7_find d true (mC (mk w p r I L) + 0, mS (mk w p r I L) + 0) 2 [(0, .ref 150), (1, .int (nI m))] [] (mk w p r I L) kr) (K := fun o => kr (some (.int (oM o))) (mk w p r I L)) ?_ ?_ 0 (Nat.zero_le _)
  · exact loop h
  · intro hK
    refine Wf.gc tkX7_find [] ?_
    conv => whnf
    refine b1' (by show (15 : Int32) ≤ nI 15; decide) ?_
    conv => whnf
    exact hK
  · intro m hm
    -- behind the letters
    have fin : ∀ (q : Bool) (v : Int32), (q = true → kr (some (.int (nI m))) (mk w p r I L)) → (q = false → Wf l X uX7_find d true (mC (mk w p r I L) + 0, mS (mk w p r I L) + 0) 2 [(0, .ref 150), (1, .int (nI (m + 1)))] [] (mk w p r I L) kr) → Wf l X uX7_find d true (mC (mk w p r I L) + 0, mS (mk w p r I L) + 0) 91 [(0, .ref 150), (1, .int (nI m)), (2, .int (bI q)), (3, .int v)] [] (mk w p r I L) kr := by
      intro q v j1 j2
      cases q with
      | true =>
        refine Wf.gc tkX7_find [2] ?_
        conv => whnf
        refine b2' (by decide) ?_
        conv => whnf
        exact j1 rfl
      | false =>
        have j2 := j2 rfl
        rw [← nI_1] at j2
        refine Wf.gc tkX7_find [2] ?_
        conv => whnf
        refine b1' rfl ?_
        conv => whnf
        refine Wf.keep [0, 1] ?_
        exact j2
    -- no letters are looked at
    have zero : (Wf l X uX7_find d true (mC (mk w p r I L) + 0, mS (mk w p r I L) + 0) 2 [(0, .ref 150), (1, .int (nI (m + 1)))] [] (mk w p r I L) kr) → Wf l X uX7_find d true (mC (mk w p r I L) + 0, mS (mk w p r I L) + 0) 40 [(0, .ref 150), (1, .int (nI m))] [] (mk w p r I L) kr := by
      intro j
      refine Wf.gc tkX7_find [91] ?_
      conv => whnf
      refine b2' (by show ¬ I 150 8 ≤ 0; rw [n8, show (0 : Int32) = nI 0 from rfl]; exact nI_ge (by omega) (by omega)) ?_
      conv => whnf
      refine b1' rfl ?_
      conv => whnf
      exact fin false 0 (fun q => by cases q) (fun _ => j)
    -- the head
    have head : (¬ (0 < I 154 (67 + m) ∧ I 154 (67 + m) = I 150 8) → Wf l X uX7_find d true (mC (mk w p r I L) + 0, mS (mk w p r I L) + 0) 40 [(0, .ref 150), (1, .int (nI m))] [] (mk w p r I L) kr) → ((0 < I 154 (67 + m) ∧ I 154 (67 + m) = I 150 8) → Wf l X uX7_find d true (mC (mk w p r I L) + 0, mS (mk w p r I L) + 0) 44 [(0, .ref 150), (1, .int (nI m)), (2, .int 1), (3, .int 0)] [] (mk w p r I L) kr) → Wf l X uX7_find d true (mC (mk w p r I L) + 0, mS (mk w p r I L) + 0) 2 [(0, .ref 150), (1, .int (nI m))] [] (mk w p r I L) kr := by
      intro j1 j2
      refine Wf.gc tkX7_find [40, 44] ?_
      conv => whnf
      refine b2' (by show ¬ (15 : Int32) ≤ nI m; rw [show (15 : Int32) = nI 15 from rfl]; exact nI_ge hm (by decide)) ?_
      conv => whnf
      refine ⟨67 + m, ⟨nI_add 67 m, by omega, show 67 + m < 202 by omega⟩, ?_⟩
      conv => whnf
      refine ⟨fun z => ?_, fun z => ?_⟩
      · have z : I 154 (67 + m) ≤ 0 := z
        conv => whnf
        exact j1 (fun q => Int32.not_lt.mpr z q.1)
      · have z : ¬ I 154 (67 + m) ≤ 0 := z
        conv => whnf
        refine ⟨67 + m, ⟨nI_add 67 m, by omega, show 67 + m < 202 by omega⟩, ?_⟩
        conv => whnf
        refine ⟨fun z2 => ?_, fun z2 => ?_⟩
        · have z2 : ¬ I 154 (67 + m) = I 150 8 := z2
          conv => whnf
          exact j1 (fun q => z2 q.2)
        · have z2 : I 154 (67 + m) = I 150 8 := z2
          conv => whnf
          exact j2 ⟨Int32.not_le.mp z, z2⟩
    -- is the slot used?
    by_cases hx : ∃ i, i < nm.length ∧ sl (nmD nm i) = m
    · obtain ⟨i, hi, rfl⟩ := hx
      obtain ⟨q1, ⟨q2, q3⟩, q4⟩ := hn.1 i hi
      have letters : (0 < I 154 (67 + sl (nmD nm i)) ∧ I 154 (67 + sl (nmD nm i)) = I 150 8) → (sameW b (nmD nm i).1 (nmD nm i).2.1 (tst b n e) (tsp b n e - tst b n e) = true → kr (some (.int (nI (sl (nmD nm i))))) (mk w p r I L)) → (sameW b (nmD nm i).1 (nmD nm i).2.1 (tst b n e) (tsp b n e - tst b n e) = false → Wf l X uX7_find d true (mC (mk w p r I L) + 0, mS (mk w p r I L) + 0) 2 [(0, .ref 150), (1, .int (nI (sl (nmD nm i) + 1)))] [] (mk w p r I L) kr) → Wf l X uX7_find d true (mC (mk w p r I L) + 0, mS (mk w p r I L) + 0) 44 [(0, .ref 150), (1, .int (nI (sl (nmD nm i)))), (2, .int 1), (3, .int 0)] [] (mk w p r I L) kr := by
        intro hk j1 j2
        have ek : (nmD nm i).2.1 = tsp b n e - tst b n e := by
          have := hk.2
          rw [q1, n8, nI_eq (by omega) (by omega)] at this
          exact this
        have es : ∀ o : Option Nat, o = ff (fun j => !(Nat.beq (b ((nmD nm i).1 + j)) (b (tst b n e + j)))) (nmD nm i).2.1 0 → sameW b (nmD nm i).1 (nmD nm i).2.1 (tst b n e) (tsp b n e - tst b n e) = o.isNone := fun o ho => by
          unfold sameW
          rw [← ek, Nat.beq_refl, Bool.true_and, ho]
        have lp := srch (e := (nmD nm i).2.1) (P := fun j => !(Nat.beq (b ((nmD nm i).1 + j)) (b (tst b n e + j)))) (Wi := fun j => Wf l X uX7_find d true (mC (mk w p r I L) + 0, mS (mk w p r I L) + 0) 44 [(0, .ref 150), (1, .int (nI (sl (nmD nm i)))), (2, .int 1), (3, .int (nI j))] [] (mk w p r I L) kr) (K := fun o => o = ff (fun j => !(Nat.beq (b ((nmD nm i).1 + j)) (b (tst b n e + j)))) (nmD nm i).2.1 0) ?_ ?_ 0 (Nat.zero_le _)
        · exact lp rfl
        · intro ho
          refine Wf.gc tkX7_find [91] ?_
          conv => whnf
          refine b1' (by show I 150 8 ≤ nI (nmD nm i).2.1; rw [n8, ek]; exact Int32.le_refl _) ?_
          conv => whnf
          exact fin true _ (fun _ => j1 (es none ho)) (fun q => by cases q)
        · intro j hj
          obtain ⟨c1, c2⟩ := q4 j hj
          have c3 := l8 j (by omega)
          have c4 := (hr.2.2 (tst b n e + j) (by omega)).1
          have hd2 : (b ((nmD nm i).1 + j) = b (tst b n e + j) → Wf l X uX7_find d true (mC (mk w p r I L) + 0, mS (mk w p r I L) + 0) 44 [(0, .ref 150), (1, .int (nI (sl (nmD nm i)))), (2, .int 1), (3, .int (nI (j + 1)))] [] (mk w p r I L) kr) → (¬ b ((nmD nm i).1 + j) = b (tst b n e + j) → sameW b (nmD nm i).1 (nmD nm i).2.1 (tst b n e) (tsp b n e - tst b n e) = false) → Wf l X uX7_find d true (mC (mk w p r I L) + 0, mS (mk w p r I L) + 0) 44 [(0, .ref 150), (1, .int (nI (sl (nmD nm i)))), (2, .int 1), (3, .int (nI j))] [] (mk w p r I L) kr := by
            intro g1 g2
            have s15 := sl_15 hs hi
            refine Wf.gc tkX7_find [44] ?_
            conv => whnf
            refine b2' (by show ¬ I 150 8 ≤ nI j; rw [n8]; exact nI_ge (by omega) (by omega)) ?_
            conv => whnf
            refine b2' (by decide) ?_
            conv => whnf
            refine ⟨82 + 8 * sl (nmD nm i) + j, ⟨by show (82 + 8 * nI (sl (nmD nm i)) + nI j : Int32) = _; rw [show (8 : Int32) = nI 8 from rfl, nI_mul, show (82 : Int32) = nI 82 from rfl, nI_add, nI_add], by omega, show _ < 202 by omega⟩, ?_⟩
            conv => whnf
            refine ⟨j, ix (N := 8) (by omega) (by decide), ?_⟩
            conv => whnf
            refine ⟨fun z => ?_, fun z => ?_⟩
            · have z : ¬ I 154 (82 + 8 * sl (nmD nm i) + j) = I 152 j := z
              rw [c1, c3, nI_eq (by omega) (by omega)] at z
              conv => whnf
              show Wf l X uX7_find d true (mC (mk w p r I L) + 0, mS (mk w p r I L) + 0) 44 [(0, .ref 150), (1, .int (nI (sl (nmD nm i)))), (2, .int 0), (3, .int (nI j + 1))] [] (mk w p r I L) kr
              refine Wf.gc tkX7_find [91] ?_
              conv => whnf
              refine ⟨fun z2 => ?_, fun z2 => ?_⟩
              · conv => whnf
                exact fin false _ (fun q => by cases q) (fun _ => j2 (g2 z))
              · conv => whnf
                refine b1' rfl ?_
                conv => whnf
                exact fin false _ (fun q => by cases q) (fun _ => j2 (g2 z))
            · have z : I 154 (82 + 8 * sl (nmD nm i) + j) = I 152 j := z
              rw [c1, c3, nI_eq (by omega) (by omega)] at z
              conv => whnf
              have g1 := g1 z
              rw [← nI_1] at g1
              exact g1
          refine ⟨fun hP ho => ?_, fun hP hW => ?_⟩
          · refine hd2 (fun q => ?_) (fun _ => es (some j) ho)
            have hP : (!(Nat.beq (b ((nmD nm i).1 + j)) (b (tst b n e + j)))) = true := hP
            rw [q, Nat.beq_refl] at hP
            cases hP
          · refine hd2 (fun _ => hW) (fun q => ?_)
            have hP : (!(Nat.beq (b ((nmD nm i).1 + j)) (b (tst b n e + j)))) = false := hP
            cases hq : Nat.beq (b ((nmD nm i).1 + j)) (b (tst b n e + j)) with
            | true => exact absurd (Nat.eq_of_beq_eq_true hq) q
            | false => rw [hq] at hP; cases hP
      have SLI : slP b n nm e (sl (nmD nm i)) = sameW b (nmD nm i).1 (nmD nm i).2.1 (tst b n e) (tsp b n e - tst b n e) → (slP b n nm e (sl (nmD nm i)) = true → kr (some (.int (nI (sl (nmD nm i))))) (mk w p r I L)) → (slP b n nm e (sl (nmD nm i)) = false → Wf l X uX7_find d true (mC (mk w p r I L) + 0, mS (mk w p r I L) + 0) 2 [(0, .ref 150), (1, .int (nI (sl (nmD nm i) + 1)))] [] (mk w p r I L) kr) → Wf l X uX7_find d true (mC (mk w p r I L) + 0, mS (mk w p r I L) + 0) 2 [(0, .ref 150), (1, .int (nI (sl (nmD nm i))))] [] (mk w p r I L) kr := by
        intro e0 j1 j2
        rw [e0] at j1 j2
        refine head (fun q => zero (j2 ?_)) (fun q => letters q j1 j2)
        cases hq : sameW b (nmD nm i).1 (nmD nm i).2.1 (tst b n e) (tsp b n e - tst b n e) with
        | false => rfl
        | true =>
          have ek := (sameW_iff.mp hq).1
          exact absurd ⟨by rw [q1, show (0 : Int32) = nI 0 from rfl, nI_ltI (by decide) (by omega)]; omega, by rw [q1, n8, ek]⟩ q
      have e0 : UN b nm → slP b n nm e (sl (nmD nm i)) = sameW b (nmD nm i).1 (nmD nm i).2.1 (tst b n e) (tsp b n e - tst b n e) := fun hu => by
        cases hq : sameW b (nmD nm i).1 (nmD nm i).2.1 (tst b n e) (tsp b n e - tst b n e) with
        | true => exact slP_t.mpr ⟨i, hi, rfl, hq⟩
        | false =>
          cases hz : slP b n nm e (sl (nmD nm i)) with
          | false => rfl
          | true =>
            obtain ⟨j, a1, a2, a3⟩ := slP_t.mp hz
            have := hu i j hi a1 (Or.inl a2.symm)
            subst this
            rw [a3] at hq
            cases hq
      exact ⟨fun hP hK => SLI (e0 hu) (fun _ => hK) (fun q => by rw [q] at hP; cases hP), fun hP hW => SLI (e0 hu) (fun q => by rw [q] at hP; cases hP) (fun _ => hW)⟩
    · have h0 : I 154 (67 + m) = 0 := hn.2 m hm (fun i hi q => hx ⟨i, hi, q⟩)
      have hP0 : slP b n nm e m = false := by
        cases hq : slP b n nm e m with
        | false => rfl
        | true =>
          obtain ⟨i, a1, a2, -⟩ := slP_t.mp hq
          exact absurd ⟨i, a1, a2⟩ hx
      refine ⟨fun hP _ => ?_, fun _ hW => ?_⟩
      · rw [hP0] at hP
        cases hP
      · exact head (fun _ => zero hW) (fun q => by rw [h0] at q; exact absurd q.1 (by decide))
end RNA
