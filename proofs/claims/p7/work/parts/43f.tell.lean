/-! names told, names used; kinds -/
section TEL
variable {l : Launch} {X : Nat × (Nat → Int32)} {d : Nat} {w : Nat × Nat} {p r : Nat} {I : Nat → Nat → Int32} {L : Nat → Nat → Int64} {kr : KR} {b : Nat → Nat} {n e : Nat} {nm : List Nm}
/-- a new name here: 0, or the fault -/
def tel (b : Nat → Nat) (n : Nat) (nm : List Nm) (e : Nat) : Nat := if tso b n e = 1 ∧ bgl b n e = false then (match nlk b n nm e with
  | none => 0
  | some _ => 3) else 1
/-- a name of a sort here: 0, or the fault; its number -/
def nam (b : Nat → Nat) (n : Nat) (nm : List Nm) (so e : Nat) : Nat × Nat := if tso b n e = 1 ∧ bgl b n e = false then (match nlk b n nm e with
  | none => (2, 0)
  | some i => if (nmD nm i).2.2.1 = so then (0, (nmD nm i).2.2.2) else (2, 0)) else (1, 0)
/-- what a line may change -/
def sL (q : Nat) (I I' : Nat → Nat → Int32) (L L' : Nat → Nat → Int64) : Prop := (∀ a i, ¬ (a = 2 ∧ 4 ≤ i) → a ≠ 5 → a ≠ 6 → ¬ (q ≤ a ∧ a ≤ q + 12) → I' a i = I a i) ∧ ∀ a i, a ≠ 2 → a ≠ 4 → L' a i = L a i
theorem sL.rf {q : Nat} : sL q I I L L := ⟨fun _ _ _ _ _ _ => rfl, fun _ _ _ _ => rfl⟩
theorem sL.tr {q : Nat} {I' I'' : Nat → Nat → Int32} {L' L'' : Nat → Nat → Int64} (h : sL q I I' L L') (h2 : sL q I' I'' L' L'') : sL q I I'' L L'' := ⟨fun a i z1 z2 z3 z4 => (h2.1 a i z1 z2 z3 z4).trans (h.1 a i z1 z2 z3 z4), fun a i z1 z2 => (h2.2 a i z1 z2).trans (h.2 a i z1 z2)⟩
theorem sT.sL {q : Nat} {I' : Nat → Nat → Int32} {L' : Nat → Nat → Int64} (h : sT I I' L L') : sL q I I' L L' := ⟨fun a i z1 _ _ _ => h.1 a i (by omega), fun a i z1 _ => h.2 a i (by omega)⟩
theorem sL_fl {q k s : Nat} : sL q I (fl I k s) L L := ⟨fun a i z1 _ _ _ => by unfold fl; rw [u2_o (by omega), u2_o (by omega)], fun _ _ _ _ => rfl⟩
theorem TX_sL {q : Nat} {I' : Nat → Nat → Int32} {L' : Nat → Nat → Int64} (hq : q = 7 ∨ q = 20) (ht : TX b n I) (hs : sL q I I' L L') : TX b n I' := ⟨ht.1, by rw [hs.1 2 2 (by omega) (by decide) (by decide) (by omega)]; exact ht.2.1, fun i hi => ⟨(ht.2.2 i hi).1, by rw [hs.1 3 i (by omega) (by decide) (by decide) (by omega)]; exact (ht.2.2 i hi).2⟩⟩
theorem NC_sT {I' : Nat → Nat → Int32} {L' : Nat → Nat → Int64} (hn : NC b nm I L) (hs : sT I I' L L') : NC b nm I' L' := ⟨⟨by rw [hs.1 2 12 (by omega)]; exact hn.1.1, by rw [hs.1 2 13 (by omega)]; exact hn.1.2⟩, hn.2.1, fun i hi => by
  obtain ⟨h1, h2, h3, h4⟩ := hn.2.2 i hi
  exact ⟨h1, by rw [hs.2 4 i (by omega)]; exact h2, by rw [hs.1 5 i (by omega)]; exact h3, by rw [hs.1 6 i (by omega)]; exact h4⟩⟩
theorem nmD_a {x : Nm} : nmD (nm ++ [x]) nm.length = x := by
  unfold nmD
  rw [List.getD_eq_getElem?_getD, List.getElem?_append_right (Nat.le_refl _), Nat.sub_self]
  rfl
theorem nmD_o {x : Nm} {i : Nat} (h : i < nm.length) : nmD (nm ++ [x]) i = nmD nm i := by
  unfold nmD
  rw [List.getD_eq_getElem?_getD, List.getElem?_append_left h, List.getD_eq_getElem?_getD]
set_option maxRecDepth 20000 in
theorem x_tells {so k : Nat} (ht : TX b n I) (he : e ≤ n) (hc : TC b n e I L) (hn : NC b nm I L) (h15 : nm.length < 15) (h0 : tel b n nm e = 0 → ∀ I' L', sL 7 I I' L L' → (∀ a i, a ≠ 2 → a ≠ 5 → a ≠ 6 → I' a i = I a i) → NC b (nm ++ [(tst b n e, tsp b n e - tst b n e, so, k)]) I' L' → TC b n (tsp b n e) I' L' → kr (some (.int 1)) (mk w p r I' L')) (h1 : tel b n nm e ≠ 0 → kr (some (.int 0)) (mk w p r (fl I (tel b n nm e) (tst b n e)) L)) : Ev l X uX4_tells (d + 7) true 0 0 [.ref 2, .int (nI so), .int (nI k)] (mk w p r I L) kr := by
  obtain ⟨⟨n1, n0⟩, n2, n3⟩ := id hn
  have s4 := tso_5 (b := b) (n := n) (e := e)
  refine Ev.of (by decide) (Nat.le_of_ble_eq_true rfl) ?_
  unfold tel at h0 h1
  have form : ¬ (tso b n e = 1 ∧ bgl b n e = false) → Wf l X uX4_tells (d + 7) true (mC (mk w p r I L) + 0, mS (mk w p r I L) + 0) 24 [(0, .ref 2), (1, .int (nI so)), (2, .int (nI k))] [] (mk w p r I L) kr := by
    intro q
    rw [if_neg q] at h1
    refine Wf.gc tkX4_tells [] ?_
    conv => whnf
    refine x_fails hc ?_
    conv => whnf
    exact ⟨Or.inl rfl, h1 (by decide)⟩
  refine Wf.gc tkX4_tells [24] ?_
  conv => whnf
  refine ⟨fun z => ?_, fun z => ?_⟩
  · have z : ¬ I 2 4 = 1 := z
    rw [hc.1, show (1 : Int32) = nI 1 from rfl, nI_eq (by omega) (by decide)] at z
    conv => whnf
    exact form (fun q => z q.1)
  have z : I 2 4 = 1 := z
  rw [hc.1, show (1 : Int32) = nI 1 from rfl, nI_eq (by omega) (by decide)] at z
  conv => whnf
  refine x_beginsLine (d := d) ht he hc ?_
  conv => whnf
  refine ⟨fun z2 => ?_, fun z2 => ?_⟩
  · have z2 := bI_t z2
    conv => whnf
    exact form (fun q => by rw [z2] at q; cases q.2)
  have z2 := bI_f z2
  rw [if_pos ⟨z, z2⟩] at h0 h1
  conv => whnf
  refine b1 ?_ ?_
  · show ¬ ¬ I 2 12 < 15
    intro q
    apply q
    rw [n1]
    exact nI_lt h15 (by decide)
  conv => whnf
  refine x_nameAt he hc hn z ?_
  conv => whnf
  cases hk : nlk b n nm e with
  | some i =>
    rw [hk] at h1
    have hi := ff_lt hk
    refine b2 ?_ ?_
    · show ¬ nI i = -2
      intro q
      have q : (nI i).toInt = (-2 : Int32).toInt := by rw [q]
      rw [nI_toInt (by omega)] at q
      have : (-2 : Int32).toInt = -2 := rfl
      omega
    conv => whnf
    refine x_fails hc ?_
    conv => whnf
    exact ⟨Or.inl rfl, h1 (show (3 : Nat) ≠ 0 by decide)⟩
  | none =>
    rw [hk] at h0
    refine b1 (fun z => z rfl) ?_
    conv => whnf
    refine ⟨nm.length, ⟨n1, by omega, show _ < 15 by omega⟩, ?_⟩
    conv => whnf
    refine ⟨nm.length, ⟨n1, by omega, show _ < 15 by omega⟩, ?_⟩
    conv => whnf
    refine ⟨nm.length, ⟨n1, by omega, show _ < 15 by omega⟩, ?_⟩
    conv => whnf
    have hsp := tsp_b (b := b) he
    show Ev l X uX4_take (d + 6) true 0 0 [.ref 2] (mk w p r (u2 (u2 (u2 I 5 nm.length (nI so)) 6 nm.length (nI k)) 2 12 (I 2 12 + 1)) (u2 L 4 nm.length (L 2 8))) _
    have tx : TX b n (u2 (u2 (u2 I 5 nm.length (nI so)) 6 nm.length (nI k)) 2 12 (I 2 12 + 1)) := ⟨ht.1, ht.2.1, fun i hi => ⟨(ht.2.2 i hi).1, by rw [u2_o (by omega), u2_o (by omega), u2_o (by omega)]; exact (ht.2.2 i hi).2⟩⟩
    refine x_take (d := d + 5) tx hsp.2 (by rw [u2_o (by omega), u2_o (by omega), u2_o (by omega)]; exact hc.2.2.1) (fun I' L' hs hc' => ?_)
    conv => whnf
    refine ⟨Or.inr rfl, h0 rfl I' L' ⟨fun a i z1 z2 z3 z4 => ?_, fun a i z1 z2 => ?_⟩ (fun a i z1 z2 z3 => ?_) ⟨⟨?_, by rw [hs.1 2 13 (by omega), u2_o (by omega), u2_o (by omega), u2_o (by omega)]; exact n0⟩, ?_, fun i hi => ?_⟩ hc'⟩
    · rw [hs.1 a i (by omega), u2_o (by omega), u2_o (by omega), u2_o (by omega)]
    · rw [hs.2 a i (by omega), u2_o (by omega)]
    · rw [hs.1 a i (by omega), u2_o (by omega), u2_o (by omega), u2_o (by omega)]
    · rw [hs.1 2 12 (by omega), u2_s, n1, nI_1, List.length_append]
      rfl
    · rw [List.length_append]
      show nm.length + 1 ≤ 15
      omega
    · rw [List.length_append] at hi
      have hi : i < nm.length + 1 := hi
      rcases Nat.lt_or_ge i nm.length with z5 | z5
      · obtain ⟨m1, m2, m3, m4⟩ := n3 i z5
        rw [nmD_o z5]
        refine ⟨m1, ?_, ?_, ?_⟩
        · rw [hs.2 4 i (by omega), u2_o (by omega)]; exact m2
        · rw [hs.1 5 i (by omega), u2_o (by omega), u2_o (by omega), u2_o (by omega)]; exact m3
        · rw [hs.1 6 i (by omega), u2_o (by omega), u2_o (by omega), u2_o (by omega)]; exact m4
      · have e5 : i = nm.length := by omega
        subst e5
        rw [nmD_a]
        refine ⟨wordS he z, ?_, ?_, ?_⟩
        · rw [hs.2 4 nm.length (by omega), u2_s]; exact hc.2.2.2.2 z
        · rw [hs.1 5 nm.length (by omega), u2_o (by omega), u2_o (by omega), u2_s]
        · rw [hs.1 6 nm.length (by omega), u2_o (by omega), u2_s]
set_option maxRecDepth 20000 in
theorem x_named {so : Nat} (hso : so < 10) (hsr : ∀ i, i < nm.length → (nmD nm i).2.2.1 < 10) (ht : TX b n I) (he : e ≤ n) (hc : TC b n e I L) (hn : NC b nm I L) (h0 : (nam b n nm so e).1 = 0 → kr (some (.int (nI (nam b n nm so e).2))) (mk w p r I L)) (h1 : (nam b n nm so e).1 ≠ 0 → kr (some (.int (-2))) (mk w p r (fl I (nam b n nm so e).1 (tst b n e)) L)) : Ev l X uX4_named (d + 7) true 0 0 [.ref 2, .int (nI so)] (mk w p r I L) kr := by
  obtain ⟨⟨n1, n0⟩, n2, n3⟩ := id hn
  have s4 := tso_5 (b := b) (n := n) (e := e)
  refine Ev.of (by decide) (Nat.le_of_ble_eq_true rfl) ?_
  unfold nam at h0 h1
  have form : ¬ (tso b n e = 1 ∧ bgl b n e = false) → Wf l X uX4_named (d + 7) true (mC (mk w p r I L) + 0, mS (mk w p r I L) + 0) 15 [(0, .ref 2), (1, .int (nI so))] [] (mk w p r I L) kr := by
    intro q
    rw [if_neg q] at h1
    refine Wf.gc tkX4_named [] ?_
    conv => whnf
    refine x_fails hc ?_
    conv => whnf
    exact h1 (show (1 : Nat) ≠ 0 by decide)
  refine Wf.gc tkX4_named [15, 24] ?_
  conv => whnf
  refine ⟨fun z => ?_, fun z => ?_⟩
  · have z : ¬ I 2 4 = 1 := z
    rw [hc.1, show (1 : Int32) = nI 1 from rfl, nI_eq (by omega) (by decide)] at z
    conv => whnf
    exact form (fun q => z q.1)
  have z : I 2 4 = 1 := z
  rw [hc.1, show (1 : Int32) = nI 1 from rfl, nI_eq (by omega) (by decide)] at z
  conv => whnf
  refine x_beginsLine (d := d) ht he hc ?_
  conv => whnf
  have go : bgl b n e = false → Wf l X uX4_named (d + 7) true (mC (mk w p r I L) + 0, mS (mk w p r I L) + 0) 24 [(0, .ref 2), (1, .int (nI so))] [] (mk w p r I L) kr := by
    intro z2
    rw [if_pos ⟨z, z2⟩] at h0 h1
    refine Wf.gc tkX4_named [45] ?_
    conv => whnf
    refine x_nameAt he hc hn z ?_
    conv => whnf
    have no : ∀ v : Int32, ((match nlk b n nm e with
      | none => (2, 0)
      | some i => if (nmD nm i).2.2.1 = so then (0, (nmD nm i).2.2.2) else (2, 0)) : Nat × Nat) = (2, 0) → Wf l X uX4_named (d + 7) true (mC (mk w p r I L) + 0, mS (mk w p r I L) + 0) 45 [(0, .ref 2), (1, .int (nI so)), (2, .int v)] [] (mk w p r I L) kr := by
      intro v q
      rw [q] at h1
      refine Wf.gc tkX4_named [] ?_
      conv => whnf
      refine x_fails hc ?_
      conv => whnf
      exact h1 (show (2 : Nat) ≠ 0 by decide)
    cases hk : nlk b n nm e with
    | none =>
      rw [hk] at no
      refine b1 (fun z => z rfl) ?_
      conv => whnf
      exact no _ rfl
    | some i =>
      rw [hk] at no h0
      have hi := ff_lt hk
      obtain ⟨m1, m2, m3, m4⟩ := n3 i (by omega)
      refine b2 ?_ ?_
      · show ¬ nI i = -2
        intro q
        have q : (nI i).toInt = (-2 : Int32).toInt := by rw [q]
        rw [nI_toInt (by omega)] at q
        have : (-2 : Int32).toInt = -2 := rfl
        omega
      conv => whnf
      refine ⟨i, ix (N := 15) (by omega) (by decide), ?_⟩
      conv => whnf
      have hs10 := hsr i (by omega)
      refine ⟨fun z3 => ?_, fun z3 => ?_⟩
      · have z3 : I 5 i = nI so := z3
        rw [m3, nI_eq (by omega) (by omega)] at z3
        have h0 := h0 (by show (if (nmD nm i).2.2.1 = so then ((0, (nmD nm i).2.2.2) : Nat × Nat) else (2, 0)).1 = 0; rw [if_pos z3])
        have h0 : kr (some (.int (nI (if (nmD nm i).2.2.1 = so then ((0, (nmD nm i).2.2.2) : Nat × Nat) else (2, 0)).2))) (mk w p r I L) := h0
        rw [if_pos z3, ← m4] at h0
        conv => whnf
        refine ⟨i, ix (N := 15) (by omega) (by decide), ?_⟩
        conv => whnf
        exact h0
      · have z3 : ¬ I 5 i = nI so := z3
        rw [m3, nI_eq (by omega) (by omega)] at z3
        conv => whnf
        exact no _ (if_neg z3)
  refine ⟨fun z2 => ?_, fun z2 => ?_⟩
  · conv => whnf
    exact go (bI_f z2)
  · have z2 := bI_t z2
    conv => whnf
    exact form (fun q => by rw [z2] at q; cases q.2)
/-- the kind of a face here -/
def kin (b : Nat → Nat) (n e : Nat) : Option Nat := if isW b n 13 e = true then some 0 else if isW b n 14 e = true then some 1 else if isW b n 15 e = true then some 2 else none
set_option maxRecDepth 20000 in
theorem x_kindHere (ht : TX b n I) (he : e ≤ n) (hc : TC b n e I L) (h : kr (some (.int (oI (kin b n e)))) (mk w p r I L)) : Ev l X uX4_kindHere (d + 6) true 0 0 [.ref 2] (mk w p r I L) kr := by
  refine Ev.of (by decide) (Nat.le_of_ble_eq_true rfl) ?_
  unfold kin at h
  refine Wf.gc tkX4_kindHere [] ?_
  conv => whnf
  refine x_isWord (wd := 5013) (d := d) ht he hc (by decide) ?_
  conv => whnf
  refine ⟨fun z => ?_, fun z => ?_⟩
  · rw [if_neg (by rw [show isW b n 13 e = false from bI_f z]; decide)] at h
    conv => whnf
    refine x_isWord (wd := 5014) (d := d) ht he hc (by decide) ?_
    conv => whnf
    refine ⟨fun z => ?_, fun z => ?_⟩
    · rw [if_neg (by rw [show isW b n 14 e = false from bI_f z]; decide)] at h
      conv => whnf
      refine x_isWord (wd := 5015) (d := d) ht he hc (by decide) ?_
      conv => whnf
      refine ⟨fun z => ?_, fun z => ?_⟩
      · rw [if_neg (by rw [show isW b n 15 e = false from bI_f z]; decide)] at h
        conv => whnf
        exact h
      · rw [if_pos (show isW b n 15 e = true from bI_t z)] at h
        conv => whnf
        exact h
    · rw [if_pos (show isW b n 14 e = true from bI_t z)] at h
      conv => whnf
      exact h
  · rw [if_pos (show isW b n 13 e = true from bI_t z)] at h
    conv => whnf
    exact h
end TEL
