/-! the reference's new names, and names used -/
section RNN
variable {l : Launch} {X : Nat × (Nat → Int32)} {d : Nat} {w : Nat × Nat} {p r : Nat} {I : Nat → Nat → Int32} {L : Nat → Nat → Int64} {kr : KR} {b : Nat → Nat} {n e : Nat} {nm : List Nm}
/-- what a new name changes -/
def sM (I I' : Nat → Nat → Int32) : Prop := ∀ a i, ¬ (a = 150 ∧ 4 ≤ i ∧ i ≤ 8) → a ≠ 152 → ¬ (a = 154 ∧ 67 ≤ i) → I' a i = I a i
theorem y_newName_f {v : Int32} (hf : ¬ I 150 13 = 0) (h : kr none (mk w p r I L)) : Ev l X uX7_newName (d + 7) true 0 0 [.ref 150, .int v] (mk w p r I L) kr := by
  refine Ev.of (by decide) (Nat.le_of_ble_eq_true rfl) ?_
  refine Wf.gc tkX7_newName [] ?_
  conv => whnf
  refine b2' hf ?_
  conv => whnf
  exact h
theorem y_named_f {v u : Int32} (hf : ¬ I 150 13 = 0) (h : kr (some (.int 0)) (mk w p r I L)) : Ev l X uX7_named (d + 7) true 0 0 [.ref 150, .int v, .int u] (mk w p r I L) kr := by
  refine Ev.of (by decide) (Nat.le_of_ble_eq_true rfl) ?_
  refine Wf.gc tkX7_named [] ?_
  conv => whnf
  refine b2' hf ?_
  conv => whnf
  exact h
theorem nI_n0 {k : Nat} (h : k < 1000) : ¬ nI k < 0 := by
  rw [show (0 : Int32) = nI 0 from rfl, nI_ltI (by omega) (by decide)]
  omega
set_option maxHeartbeats 4000000 in
set_option maxRecDepth 20000 in
theorem y_newName {m so k : Nat} (hm : m < 15) (hsl : sl (nw b n e so k) = m) (hfr : ∀ i, i < nm.length → sl (nmD nm i) ≠ m) (hr : RX b n I) (he : e ≤ n) (hc : TR b n e I) (h0 : I 150 13 = 0) (hs : SI nm) (hu : UN b nm) (hn : RN b nm I) (h1 : tel b n nm e = 0 → ∀ I', sM I I' → TR b n (tsp b n e) I' → RN b (nm ++ [nw b n e so k]) I' → kr none (mk w p r I' L)) (h2 : tel b n nm e ≠ 0 → kr none (mk w p r (flR I (tel b n nm e) (tst b n e)) L)) : Ev l X uX7_newName (d + 7) true 0 0 [.ref 150, .int (nI m)] (mk w p r I L) kr := by
  unfold tel at h1 h2
  have hsp := tsp_b (b := b) he
  refine Ev.of (by decide) (Nat.le_of_ble_eq_true rfl) ?_
  have bad : ∀ (k : Nat) (J : Nat → Nat → Int32), J = flR I k (tst b n e) → kr none (mk w p r (flR I k (tst b n e)) L) → Wf l X uX7_newName (d + 7) true (mC (mk w p r I L) + 0, mS (mk w p r I L) + 0) 35 [(0, .ref 150), (1, .int (nI m))] [] (mk w p r J L) kr := by
    intro k J hJ q
    subst hJ
    refine Wf.gc tkX7_newName [] ?_
    conv => whnf
    refine b2' (flR_n (I := I) (k := k) (s := tst b n e)) ?_
    conv => whnf
    exact q
  refine Wf.gc tkX7_newName [35] ?_
  conv => whnf
  refine b1' h0 ?_
  conv => whnf
  refine y_mustName (d := d) hr he hc h0 (fun q => ?_) (fun q => ?_)
  · rw [if_pos q] at h1 h2
    obtain ⟨n8, l8⟩ := hc.2.2.2.2 q.1
    obtain ⟨w8, w1, ws⟩ := word_b he q.1
    conv => whnf
    refine b2 (fun z => z h0) ?_
    conv => whnf
    refine y_find (d := d + 6) hr he hc q.1 hs hu hn ?_
    rw [fnd_eq hs hu]
    cases hk : nlk b n nm e with
    | some i =>
      rw [hk] at h2
      obtain ⟨-, hi, -⟩ := ff_lt hk
      have hi : i < nm.length := by omega
      have s15 := sl_15 hs hi
      conv => whnf
      refine b2' (show ¬ nI (sl (nmD nm i)) < 0 from nI_n0 (by omega)) ?_
      conv => whnf
      refine y_wrong0 h0 ?_
      conv => whnf
      exact bad 3 _ (by unfold flR; rw [← hc.2.1]; rfl) (h2 (show (3 : Nat) ≠ 0 by decide))
    | none =>
      rw [hk] at h1
      conv => whnf
      refine b1' (show (-1 : Int32) < 0 by decide) ?_
      conv => whnf
      show Wf l X uX7_newName (d + 7) true (mC (mk w p r I L) + 0, mS (mk w p r I L) + 0) 35 [(0, .ref 150), (1, .int (nI m))] [] (mk w p r I L) kr
      refine Wf.gc tkX7_newName [45] ?_
      conv => whnf
      refine b1' h0 ?_
      conv => whnf
      have loop := down (fun j => ∀ K : Nat → Nat → Int32, (∀ a i, ¬ (a = 154 ∧ 82 + 8 * m ≤ i ∧ i < 90 + 8 * m) → K a i = I a i) → (∀ i, i < j → K 154 (82 + 8 * m + i) = nI (b (tst b n e + i))) → Wf l X uX7_newName (d + 7) true (mC (mk w p r I L) + 0, mS (mk w p r I L) + 0) 45 [(0, .ref 150), (1, .int (nI m)), (2, .int (nI j))] [] (mk w p r K L) kr) (tsp b n e - tst b n e) ?_ ?_ 0 (Nat.zero_le _)
      · exact loop I (fun _ _ _ => rfl) (fun i hi => absurd hi (Nat.not_lt_zero _))
      · intro K k1 k2
        have k8 : K 150 8 = nI (tsp b n e - tst b n e) := (k1 150 8 (by omega)).trans n8
        refine Wf.gc tkX7_newName [] ?_
        conv => whnf
        refine b1' (by show K 150 8 ≤ nI (tsp b n e - tst b n e); rw [k8]; exact Int32.le_refl _) ?_
        conv => whnf
        refine ⟨67 + m, ⟨nI_add 67 m, by omega, show 67 + m < 202 by omega⟩, ?_⟩
        conv => whnf
        have rx : RX b n (u2 K 154 (67 + m) (K 150 8)) := ⟨hr.1, by rw [u2_o (by omega), k1 150 3 (by omega)]; exact hr.2.1, fun j hj => ⟨(hr.2.2 j hj).1, by rw [u2_o (by omega), k1 151 j (by omega)]; exact (hr.2.2 j hj).2⟩⟩
        have q5 : u2 K 154 (67 + m) (K 150 8) 150 5 = nI (tsp b n e) := by rw [u2_o (by omega), k1 150 5 (by omega)]; exact hc.2.2.1
        refine y_next (d := d + 4) (e := tsp b n e) rx hsp.2 q5 (fun I' hs' hc' => ?_)
        conv => whnf
        have hs' : sN (u2 K 154 (67 + m) (K 150 8)) I' := hs'
        have o1 : ∀ a i, ¬ (a = 150 ∧ 4 ≤ i ∧ i ≤ 8) → a ≠ 152 → ¬ (a = 154 ∧ i = 67 + m) → ¬ (a = 154 ∧ 82 + 8 * m ≤ i ∧ i < 90 + 8 * m) → I' a i = I a i := fun a i z1 z2 z3 z4 => by rw [hs' a i z1 z2, u2_o z3, k1 a i z4]
        refine h1 rfl I' (fun a i z1 z2 z3 => o1 a i z1 z2 (by omega) (by omega)) hc' ⟨fun i hi => ?_, fun m' hm' hx => ?_⟩
        · rw [List.length_append] at hi
          have hi : i < nm.length + 1 := hi
          rcases Nat.lt_or_ge i nm.length with z5 | z5
          · obtain ⟨q1, q2, q4⟩ := hn.1 i z5
            have sn := hfr i z5
            have s15 := sl_15 hs z5
            rw [nmD_o z5]
            refine ⟨by rw [o1 154 _ (by omega) (by decide) (by omega) (by omega)]; exact q1, q2, fun j hj => ⟨?_, (q4 j hj).2⟩⟩
            rw [o1 154 _ (by omega) (by decide) (by omega) (by omega)]
            exact (q4 j hj).1
          · have e5 : i = nm.length := by omega
            subst e5
            rw [nmD_a, hsl]
            refine ⟨by rw [hs' 154 _ (by omega) (by decide), u2_s]; exact k8, ⟨w1, w8⟩, fun j hj => ?_⟩
            have hj : j < tsp b n e - tst b n e := hj
            refine ⟨?_, (hr.2.2 (tst b n e + j) (by omega)).1⟩
            rw [hs' 154 _ (by omega) (by decide), u2_o (by omega)]
            exact k2 j hj
        · have nm1 : m' ≠ m := fun q => by
            have := hx nm.length (by rw [List.length_append]; exact Nat.lt_succ_self _)
            rw [nmD_a, hsl] at this
            exact this q.symm
          rw [o1 154 _ (by omega) (by decide) (by omega) (by omega)]
          refine hn.2 m' hm' (fun i hi => ?_)
          have := hx i (by rw [List.length_append]; exact Nat.lt_succ_of_lt hi)
          rw [nmD_o hi] at this
          exact this
      · intro j hj ih K k1 k2
        have k8 : K 150 8 = nI (tsp b n e - tst b n e) := (k1 150 8 (by omega)).trans n8
        have ih := ih (u2 K 154 (82 + 8 * m + j) (K 152 j)) (fun a i z => by rw [u2_o (by omega)]; exact k1 a i z) (fun i hi => by
          rcases Nat.lt_or_ge i j with z | z
          · rw [u2_o (by omega)]; exact k2 i z
          · have : i = j := by omega
            subst this
            rw [u2_s, k1 152 i (by omega)]
            exact l8 i hj)
        rw [← nI_1] at ih
        refine Wf.gc tkX7_newName [45] ?_
        conv => whnf
        refine b2' (by show ¬ K 150 8 ≤ nI j; rw [k8]; exact nI_ge hj (by omega)) ?_
        conv => whnf
        refine ⟨j, ix (N := 8) (by omega) (by decide), ?_⟩
        conv => whnf
        refine ⟨82 + 8 * m + j, ⟨by show (82 + 8 * nI m + nI j : Int32) = _; rw [show (8 : Int32) = nI 8 from rfl, nI_mul, show (82 : Int32) = nI 82 from rfl, nI_add, nI_add], by omega, show _ < 202 by omega⟩, ?_⟩
        conv => whnf
        exact ih
  · rw [if_neg q] at h2
    conv => whnf
    refine b1 (flR_n (I := I) (k := 1) (s := tst b n e)) ?_
    conv => whnf
    exact bad 1 _ rfl (h2 (by decide))
theorem sl_so {so lo hi i : Nat} (hl : (so = 1 ∧ lo = 0 ∧ hi = 5) ∨ (so = 2 ∧ lo = 6 ∧ hi = 10)) (hs : SI nm) (hi' : i < nm.length) : ((lo ≤ sl (nmD nm i) ∧ sl (nmD nm i) ≤ hi) ↔ (nmD nm i).2.2.1 = so) ∧ ((nmD nm i).2.2.1 = so → sl (nmD nm i) - lo = (nmD nm i).2.2.2) := by
  unfold sl
  rcases hs i hi' with ⟨h1, h2⟩ | ⟨h1, h2⟩ | ⟨h1, h2⟩
  · rw [if_pos h1, h1]; omega
  · rw [if_neg (by omega), if_pos h1, h1]; omega
  · rw [if_neg (by omega), if_neg (by omega), h1]; omega
set_option maxHeartbeats 4000000 in
set_option maxRecDepth 20000 in
theorem y_named {so lo hi : Nat} (hl : (so = 1 ∧ lo = 0 ∧ hi = 5) ∨ (so = 2 ∧ lo = 6 ∧ hi = 10)) (hr : RX b n I) (he : e ≤ n) (hc : TR b n e I) (h0 : I 150 13 = 0) (hs : SI nm) (hu : UN b nm) (hn : RN b nm I) (h1 : (nam b n nm so e).1 = 0 → kr (some (.int (nI (nam b n nm so e).2))) (mk w p r I L)) (h2 : (nam b n nm so e).1 ≠ 0 → kr (some (.int 0)) (mk w p r (flR I (nam b n nm so e).1 (tst b n e)) L)) : Ev l X uX7_named (d + 7) true 0 0 [.ref 150, .int (nI lo), .int (nI hi)] (mk w p r I L) kr := by
  unfold nam at h1 h2
  refine Ev.of (by decide) (Nat.le_of_ble_eq_true rfl) ?_
  have bad : ∀ (k : Nat) (x : Int32) (J : Nat → Nat → Int32), J = flR I k (tst b n e) → kr (some (.int 0)) (mk w p r (flR I k (tst b n e)) L) → Wf l X uX7_named (d + 7) true (mC (mk w p r I L) + 0, mS (mk w p r I L) + 0) 45 [(0, .ref 150), (1, .int (nI lo)), (2, .int (nI hi)), (3, .int x)] [] (mk w p r J L) kr := by
    intro k x J hJ q
    subst hJ
    refine Wf.gc tkX7_named [] ?_
    conv => whnf
    refine b2' (flR_n (I := I) (k := k) (s := tst b n e)) ?_
    conv => whnf
    exact q
  refine Wf.gc tkX7_named [45] ?_
  conv => whnf
  refine b1' h0 ?_
  conv => whnf
  refine y_mustName (d := d) hr he hc h0 (fun q => ?_) (fun q => ?_)
  · rw [if_pos q] at h1 h2
    conv => whnf
    refine b1' h0 ?_
    conv => whnf
    refine y_find (d := d + 6) hr he hc q.1 hs hu hn ?_
    rw [fnd_eq hs hu]
    cases hk : nlk b n nm e with
    | some i =>
      rw [hk] at h1 h2
      obtain ⟨-, hi, -⟩ := ff_lt hk
      have hi : i < nm.length := by omega
      have s15 := sl_15 hs hi
      obtain ⟨g1, g2⟩ := sl_so hl hs hi
      conv => whnf
      refine y_in (fun z1 z2 => ?_) (fun z => ?_)
      · have z1 : nI lo ≤ nI (sl (nmD nm i)) := z1
        have z2 : nI (sl (nmD nm i)) ≤ nI _ := z2
        rw [nI_leI (by omega) (by omega)] at z1 z2
        have g := g1.mp ⟨z1, z2⟩
        have h1 : (if (nmD nm i).2.2.1 = so then (0, (nmD nm i).2.2.2) else ((2, 0) : Nat × Nat)).1 = 0 → kr (some (.int (nI (if (nmD nm i).2.2.1 = so then (0, (nmD nm i).2.2.2) else ((2, 0) : Nat × Nat)).2))) (mk w p r I L) := h1
        rw [if_pos g, ← g2 g, ← nI_sub z1] at h1
        conv => whnf
        refine b1 (by decide) ?_
        conv => whnf
        show Wf l X uX7_named (d + 7) true (mC (mk w p r I L) + 0, mS (mk w p r I L) + 0) 45 [(0, .ref 150), (1, .int (nI lo)), (2, .int (nI _)), (3, .int (nI (sl (nmD nm i))))] [] (mk w p r I L) kr
        refine Wf.gc tkX7_named [] ?_
        conv => whnf
        refine b1' h0 ?_
        conv => whnf
        exact h1 rfl
      · have z : ¬ (nI lo ≤ nI (sl (nmD nm i)) ∧ nI (sl (nmD nm i)) ≤ nI _) := z
        rw [nI_leI (by omega) (by omega), nI_leI (by omega) (by omega)] at z
        have g : ¬ (nmD nm i).2.2.1 = so := fun q => z (g1.mpr q)
        have h2 : (if (nmD nm i).2.2.1 = so then (0, (nmD nm i).2.2.2) else ((2, 0) : Nat × Nat)).1 ≠ 0 → kr (some (.int 0)) (mk w p r (flR I (if (nmD nm i).2.2.1 = so then (0, (nmD nm i).2.2.2) else ((2, 0) : Nat × Nat)).1 (tst b n e)) L) := h2
        rw [if_neg g] at h2
        conv => whnf
        refine b2 (by decide) ?_
        conv => whnf
        refine y_wrong0 h0 ?_
        conv => whnf
        exact bad 2 _ _ (by unfold flR; rw [← hc.2.1]; rfl) (h2 (show (2 : Nat) ≠ 0 by decide))
    | none =>
      rw [hk] at h2
      conv => whnf
      refine y_in (fun z1 z2 => ?_) (fun z => ?_)
      · have z1 : nI lo ≤ (-1 : Int32) := z1
        refine absurd z1 (Int32.not_le.mpr ?_)
        rcases hl with ⟨-, h, -⟩ | ⟨-, h, -⟩
        · subst h; decide
        · subst h; decide
      · conv => whnf
        refine b2 (by decide) ?_
        conv => whnf
        refine y_wrong0 h0 ?_
        conv => whnf
        exact bad 2 _ _ (by unfold flR; rw [← hc.2.1]; rfl) (h2 (show (2 : Nat) ≠ 0 by decide))
  · rw [if_neg q] at h2
    conv => whnf
    refine b2' (flR_n (I := I) (k := 1) (s := tst b n e)) ?_
    conv => whnf
    exact h2 (show (1 : Nat) ≠ 0 by decide)
/-- the kept rules with one name more -/
theorem SI_a {x : Nm} (hs : SI nm) (hx : (x.2.2.1 = 1 ∧ x.2.2.2 < 6) ∨ (x.2.2.1 = 2 ∧ x.2.2.2 < 5) ∨ (x.2.2.1 = 3 ∧ x.2.2.2 < 4)) : SI (nm ++ [x]) := by
  intro i hi
  rw [List.length_append] at hi
  have hi : i < nm.length + 1 := hi
  rcases Nat.lt_or_ge i nm.length with z5 | z5
  · rw [nmD_o z5]; exact hs i z5
  · have e5 : i = nm.length := by omega
    subst e5
    rw [nmD_a]; exact hx
theorem same_sy {s k t m : Nat} (h : sameW b s k t m = true) : sameW b t m s k = true := by
  rw [sameW_iff] at h ⊢
  exact ⟨h.1.symm, fun j hj => (h.2 j (by omega)).symm⟩
theorem UN_a {so k : Nat} (hu : UN b nm) (ht : tel b n nm e = 0) (hfr : ∀ i, i < nm.length → sl (nmD nm i) ≠ sl (nw b n e so k)) : UN b (nm ++ [nw b n e so k]) := by
  have no : ∀ i, i < nm.length → sameW b (nmD nm i).1 (nmD nm i).2.1 (tst b n e) (tsp b n e - tst b n e) = false := fun i hi => by
    unfold tel at ht
    by_cases q : tso b n e = 1 ∧ bgl b n e = false
    · rw [if_pos q] at ht
      cases hk : nlk b n nm e with
      | none => exact ff_none hk i (Nat.zero_le _) (by omega)
      | some j => rw [hk] at ht; cases ht
    · rw [if_neg q] at ht; cases ht
  intro i j hi hj h
  rw [List.length_append] at hi hj
  have hi : i < nm.length + 1 := hi
  have hj : j < nm.length + 1 := hj
  rcases Nat.lt_or_ge i nm.length with z5 | z5
  · rcases Nat.lt_or_ge j nm.length with z6 | z6
    · rw [nmD_o z5, nmD_o z6] at h
      exact hu i j z5 z6 h
    · have e6 : j = nm.length := by omega
      subst e6
      rw [nmD_o z5, nmD_a] at h
      rcases h with h | h
      · exact absurd h (hfr i z5)
      · exact absurd ((no i z5).symm.trans h) (by decide)
  · have e5 : i = nm.length := by omega
    rcases Nat.lt_or_ge j nm.length with z6 | z6
    · subst e5
      rw [nmD_a, nmD_o z6] at h
      rcases h with h | h
      · exact absurd h.symm (hfr j z6)
      · exact absurd ((no j z6).symm.trans (same_sy h)) (by decide)
    · omega
end RNN
