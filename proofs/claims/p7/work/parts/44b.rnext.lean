section RNX
variable {l : Launch} {X : Nat × (Nat → Int32)} {d : Nat} {w : Nat × Nat} {p r : Nat} {I : Nat → Nat → Int32} {L : Nat → Nat → Int64} {kr : KR} {b : Nat → Nat} {n e s : Nat}
def m3 (k : Nat) : Nat := if k ≤ 3 then k else 3
set_option maxHeartbeats 4000000 in
set_option maxRecDepth 20000 in
/-- the whole's loop -/
theorem y_ndig {J : Nat → Nat → Int32} {MM : Mm} {c : Int32} (hr : RX b n J) (hs : s ≤ n) (h : ∀ K : Nat → Nat → Int32, (∀ a j, ¬ (a = 150 ∧ j = 7) → K a j = J a j) → K 150 7 = nI (dv b s (m3 (den b n s - s))) → Wf l X uX7_next (d + 2) true (mC MM + 0, mS MM + 0) 197 [(0, .ref 150), (1, .int (nI (den b n s))), (2, .int c), (3, .int (nI (den b n s - s)))] [] (mk w p r K L) kr) : ∀ i, i ≤ n → s ≤ i → (fst (fun j => !(isD (b j))) n i = den b n s) → ∀ K : Nat → Nat → Int32, (∀ a j, ¬ (a = 150 ∧ j = 7) → K a j = J a j) → K 150 7 = nI (dv b s (m3 (i - s))) → Wf l X uX7_next (d + 2) true (mC MM + 0, mS MM + 0) 152 [(0, .ref 150), (1, .int (nI i)), (2, .int c), (3, .int (nI (i - s)))] [] (mk w p r K L) kr := by
  have key := srch (e := n) (P := fun j => !(isD (b j))) (Wi := fun i => s ≤ i → ∀ K : Nat → Nat → Int32, (∀ a j, ¬ (a = 150 ∧ j = 7) → K a j = J a j) → K 150 7 = nI (dv b s (m3 (i - s))) → Wf l X uX7_next (d + 2) true (mC MM + 0, mS MM + 0) 152 [(0, .ref 150), (1, .int (nI i)), (2, .int c), (3, .int (nI (i - s)))] [] (mk w p r K L) kr) (K := fun o => o.getD n = den b n s) ?_ ?_
  · intro i hi hsi hf
    exact key i hi hf hsi
  · intro hK hsi K k1 k2
    have hK : n = den b n s := hK
    have rx : RX b n K := ⟨hr.1, by rw [k1 150 3 (by omega)]; exact hr.2.1, fun j hj => ⟨(hr.2.2 j hj).1, by rw [k1 151 j (by omega)]; exact (hr.2.2 j hj).2⟩⟩
    refine Wf.gc tkX7_next [197] ?_
    conv => whnf
    refine y_see (by have := hr.1; omega) rx (fun _ => ?_) (fun z => absurd z (Nat.lt_irrefl _))
    conv => whnf
    refine y_isDg1 ?_
    conv => whnf
    refine b1' rfl ?_
    conv => whnf
    rw [hK] at k2 ⊢
    exact h K k1 k2
  · intro i hi
    have hbi := (hr.2.2 i hi).1
    refine ⟨fun hP hK hsi K k1 k2 => ?_, fun hP ih hsi K k1 k2 => ?_⟩
    · have hK : i = den b n s := hK
      have hP : (!(isD (b i))) = true := hP
      have hS : isD (b i) = false := by
        cases hq : isD (b i) with
        | false => rfl
        | true => rw [hq] at hP; cases hP
      have rx : RX b n K := ⟨hr.1, by rw [k1 150 3 (by omega)]; exact hr.2.1, fun j hj => ⟨(hr.2.2 j hj).1, by rw [k1 151 j (by omega)]; exact (hr.2.2 j hj).2⟩⟩
      refine Wf.gc tkX7_next [197] ?_
      conv => whnf
      refine y_see (by have := hr.1; omega) rx (fun z => absurd hi (by omega)) (fun _ => ?_)
      conv => whnf
      refine y_isDigit hbi ?_
      conv => whnf
      rw [hS]
      refine b1' rfl ?_
      conv => whnf
      rw [hK] at k2 ⊢
      exact h K k1 k2
    · have hP : (!(isD (b i))) = false := hP
      have hS : isD (b i) = true := by
        cases hq : isD (b i) with
        | true => rfl
        | false => rw [hq] at hP; cases hP
      have hd := isD_b hS
      have rx : RX b n K := ⟨hr.1, by rw [k1 150 3 (by omega)]; exact hr.2.1, fun j hj => ⟨(hr.2.2 j hj).1, by rw [k1 151 j (by omega)]; exact (hr.2.2 j hj).2⟩⟩
      have n9 := hr.1
      have e1 : i + 1 - s = i - s + 1 := by omega
      have ih := ih (by omega)
      rw [e1] at ih
      have tl : ∀ K2 : Nat → Nat → Int32, (∀ a j, ¬ (a = 150 ∧ j = 7) → K2 a j = J a j) → K2 150 7 = nI (dv b s (m3 (i - s + 1))) → Wf l X uX7_next (d + 2) true (mC MM + 0, mS MM + 0) 188 [(0, .ref 150), (1, .int (nI i)), (2, .int c), (3, .int (nI (i - s)))] [] (mk w p r K2 L) kr := by
        intro K2 q1 q2
        refine Wf.gc tkX7_next [152] ?_
        conv => whnf
        have q := ih K2 q1 q2
        rw [← nI_1, ← nI_1] at q
        exact q
      refine Wf.gc tkX7_next [188] ?_
      conv => whnf
      refine y_see (by omega) rx (fun z => absurd hi (by omega)) (fun _ => ?_)
      conv => whnf
      refine y_isDigit hbi ?_
      conv => whnf
      rw [hS]
      refine b2' (by decide) ?_
      conv => whnf
      refine ⟨fun z => ?_, fun z => ?_⟩
      · have z : (3 : Int32) ≤ nI (i - s) := z
        rw [show (3 : Int32) = nI 3 from rfl, nI_leI (by decide) (by omega)] at z
        conv => whnf
        refine tl K k1 ?_
        rw [k2]
        unfold m3
        by_cases e3 : i - s = 3
        · rw [e3]; rfl
        · rw [if_neg (by omega), if_neg (by omega)]
      · have z : ¬ (3 : Int32) ≤ nI (i - s) := z
        rw [show (3 : Int32) = nI 3 from rfl, nI_leI (by decide) (by omega)] at z
        conv => whnf
        refine y_see (by omega) rx (fun z => absurd hi (by omega)) (fun _ => ?_)
        conv => whnf
        refine tl (u2 K 150 7 (10 * K 150 7 + nI (b i) - 48)) (fun a j z1 => by rw [u2_o z1]; exact k1 a j z1) ?_
        rw [u2_s, k2]
        have em : m3 (i - s + 1) = m3 (i - s) + 1 := by unfold m3; rw [if_pos (by omega), if_pos (by omega)]
        have em2 : m3 (i - s) = i - s := if_pos (by omega)
        rw [em, em2]
        show (10 * nI (dv b s (i - s)) + nI (b i) - 48 : Int32) = nI (dv b s (i - s) * 10 + (b (s + (i - s)) - 48))
        rw [show s + (i - s) = i by omega, show (10 : Int32) = nI 10 from rfl, nI_mul, nI_add, show (48 : Int32) = nI 48 from rfl, nI_sub (by omega)]
        congr 1
        omega
set_option maxHeartbeats 8000000 in
set_option maxRecDepth 20000 in
theorem y_next (hr : RX b n I) (he : e ≤ n) (h5 : I 150 5 = nI e) (h : ∀ I', sN I I' → TR b n e I' → kr none (mk w p r I' L)) : Ev l X uX7_next (d + 2) true 0 0 [.ref 150] (mk w p r I L) kr := by
  have n9 := hr.1
  have hs := tst_b (b := b) he
  refine Ev.of (by decide) (Nat.le_of_ble_eq_true rfl) ?_
  have main : ∀ s, s = tst b n e → Wf l X uX7_next (d + 2) true (mC (mk w p r I L) + 0, mS (mk w p r I L) + 0) 21 [(0, .ref 150), (1, .int (nI s))] [] (mk w p r I L) kr := by
    intro s es
    have hsn : s ≤ n := by rw [es]; exact hs.2
    have rx1 : RX b n (u2 I 150 4 (nI s)) := ⟨hr.1, by rw [u2_o (by decide)]; exact hr.2.1, fun j hj => ⟨(hr.2.2 j hj).1, by rw [u2_o (by omega)]; exact (hr.2.2 j hj).2⟩⟩
    obtain ⟨J, hJ⟩ : ∃ J, J = u2 (u2 (u2 I 150 4 (nI s)) 150 8 0) 150 7 0 := ⟨_, rfl⟩
    have rxJ : RX b n J := ⟨hr.1, by rw [hJ, u2_o (by decide), u2_o (by decide), u2_o (by decide)]; exact hr.2.1, fun j hj => ⟨(hr.2.2 j hj).1, by rw [hJ, u2_o (by omega), u2_o (by omega), u2_o (by omega)]; exact (hr.2.2 j hj).2⟩⟩
    have sJ : ∀ a i, ¬ (a = 150 ∧ 4 ≤ i ∧ i ≤ 8) → J a i = I a i := fun a i z => by rw [hJ, u2_o (by omega), u2_o (by omega), u2_o (by omega)]
    have j4 : J 150 4 = nI s := by rw [hJ]; rfl
    have j8 : J 150 8 = 0 := by rw [hJ]; rfl
    have j7 : J 150 7 = 0 := by rw [hJ]; rfl
    have go : ∀ c : Int32, (n ≤ s → c = -1) → (s < n → c = nI (b s)) → Wf l X uX7_next (d + 2) true (mC (mk w p r I L) + 0, mS (mk w p r I L) + 0) 42 [(0, .ref 150), (1, .int (nI s)), (2, .int c)] [] (mk w p r J L) kr := by
      intro c c1 c2
      rcases Nat.lt_or_ge s n with z | z
      · obtain rfl := c2 z
        have hbs := (hr.2.2 s z).1
        have nz : ¬ n ≤ s := by omega
        have oth : isS (b s) = false → Wf l X uX7_next (d + 2) true (mC (mk w p r I L) + 0, mS (mk w p r I L) + 0) 143 [(0, .ref 150), (1, .int (nI s)), (2, .int (nI (b s)))] [] (mk w p r J L) kr := by
          intro hS
          have hS' : ¬ isS (b s) = true := by rw [hS]; decide
          refine Wf.gc tkX7_next [152, 219] ?_
          conv => whnf
          refine y_isDigit hbs ?_
          conv => whnf
          cases hD : isD (b s) with
          | true =>
            refine b2' (by decide) ?_
            conv => whnf
            have q := y_ndig (l := l) (X := X) (d := d) (w := w) (p := p) (r := r) (L := L) (kr := kr) (J := J) (MM := mk w p r I L) (c := nI (b s)) rxJ hsn (fun K k1 k2 => ?_) s hsn (Nat.le_refl _) rfl J (fun _ _ _ => rfl) (by rw [j7, Nat.sub_self]; rfl)
            · rw [Nat.sub_self] at q
              exact q
            have hge : s ≤ den b n s := (fst_ge (P := fun j => !(isD (b j))) hsn).1
            have hle : den b n s ≤ n := (fst_ge (P := fun j => !(isD (b j))) hsn).2
            have e3 : tsp b n e = den b n s := by unfold tsp ksp; rw [← es, if_neg nz, if_neg hS', if_pos hD]
            have fin : ∀ t : Nat, t = rc (tso b n e) → kr none (mk w p r (u2 (u2 K 150 5 (nI (den b n s))) 150 6 (nI t)) L) := by
              intro t et
              refine h _ (fun a i z1 z2 => ?_) ⟨?_, ?_, ?_, fun q => ?_, fun q => ?_⟩
              · rw [u2_o (by omega), u2_o (by omega), k1 a i (by omega)]; exact sJ a i z1
              · rw [u2_s, et]
              · rw [u2_o (by decide), u2_o (by decide), k1 150 4 (by decide), j4, es]
              · rw [u2_o (by decide), u2_s, e3]
              · rw [u2_o (by decide), u2_o (by decide), k2]
                obtain ⟨q1, -⟩ := whole_b he q
                rw [e3, ← es] at q1
                unfold tvl
                rw [e3, ← es, show m3 (den b n s - s) = den b n s - s from if_pos q1]
              · unfold tso kso at q
                rw [← es, if_neg nz, if_neg hS', if_pos hD] at q
                split at q <;> cases q
            refine Wf.gc tkX7_next [] ?_
            conv => whnf
            refine ⟨fun z2 => ?_, fun z2 => ?_⟩
            · have z2 : nI (den b n s - s) ≤ 3 := z2
              rw [show (3 : Int32) = nI 3 from rfl, nI_leI (by omega) (by decide)] at z2
              conv => whnf
              exact fin 3 (by unfold tso kso; rw [← es, if_neg nz, if_neg hS', if_pos hD, if_pos z2]; rfl)
            · have z2 : ¬ nI (den b n s - s) ≤ 3 := z2
              rw [show (3 : Int32) = nI 3 from rfl, nI_leI (by omega) (by decide)] at z2
              conv => whnf
              exact fin 1 (by unfold tso kso; rw [← es, if_neg nz, if_neg hS', if_pos hD, if_neg z2]; rfl)
          | false =>
            have hD' : ¬ isD (b s) = true := by rw [hD]; decide
            refine b1' rfl ?_
            conv => whnf
            have e3 : tsp b n e = s + 1 := by unfold tsp ksp; rw [← es, if_neg nz, if_neg hS', if_neg hD']
            have fin : ∀ t : Nat, t = rc (tso b n e) → kr none (mk w p r (u2 (u2 J 150 5 (nI s + 1)) 150 6 (nI t)) L) := by
              intro t et
              refine h _ (fun a i z1 z2 => ?_) ⟨?_, ?_, ?_, fun q => ?_, fun q => ?_⟩
              · rw [u2_o (by omega), u2_o (by omega)]; exact sJ a i z1
              · rw [u2_s, et]
              · rw [u2_o (by decide), u2_o (by decide), j4, es]
              · rw [u2_o (by decide), u2_s, e3, nI_1]
              · unfold tso kso at q
                rw [← es, if_neg nz, if_neg hS', if_neg hD'] at q
                split at q <;> cases q
              · unfold tso kso at q
                rw [← es, if_neg nz, if_neg hS', if_neg hD'] at q
                split at q <;> cases q
            refine Wf.gc tkX7_next [] ?_
            conv => whnf
            refine ⟨fun z2 => ?_, fun z2 => ?_⟩
            · have z2 : ¬ nI (b s) = 59 := z2
              rw [n59 (b s) hbs] at z2
              conv => whnf
              exact fin 1 (by unfold tso kso; rw [← es, if_neg nz, if_neg hS', if_neg hD', if_neg z2]; rfl)
            · have z2 : nI (b s) = 59 := z2
              have z3 := (n59 (b s) hbs).mp z2
              conv => whnf
              have q := fin 59 (by unfold tso kso; rw [← es, if_neg nz, if_neg hS', if_neg hD', if_pos z3]; rfl)
              rw [show nI 59 = nI (b s) from z2.symm] at q
              exact q
        refine Wf.gc tkX7_next [67, 143] ?_
        conv => whnf
        refine b1 (nI_m1 (k := b s) (by omega)) ?_
        conv => whnf
        refine y_isSmall hbs ?_
        conv => whnf
        cases hS : isS (b s) with
        | false =>
          refine b1' rfl ?_
          conv => whnf
          exact oth hS
        | true =>
          refine b2' (by decide) ?_
          conv => whnf
          refine y_nword (J := J) (MM := mk w p r I L) (c := nI (b s)) rxJ hsn (fun K k1 k2 k3 => ?_) s hsn (Nat.le_refl _) rfl J (fun _ _ _ _ => rfl) (by rw [j8, Nat.sub_self]; rfl) (fun j hj => absurd hj (by omega))
          have hge : s ≤ wen b n s := (fst_ge (P := fun j => !(isS (b j))) hsn).1
          have hle : wen b n s ≤ n := (fst_ge (P := fun j => !(isS (b j))) hsn).2
          have e3 : tsp b n e = wen b n s := by unfold tsp ksp; rw [← es, if_neg nz, if_pos hS]
          have fin : ∀ t : Nat, t = rc (tso b n e) → kr none (mk w p r (u2 (u2 K 150 5 (nI (wen b n s))) 150 6 (nI t)) L) := by
            intro t et
            refine h _ (fun a i z1 z2 => ?_) ⟨?_, ?_, ?_, fun q => ?_, fun q => ?_⟩
            · rw [u2_o (by omega), u2_o (by omega), k1 a i (by omega) z2]; exact sJ a i z1
            · rw [u2_s, et]
            · rw [u2_o (by decide), u2_o (by decide), k1 150 4 (by decide) (by decide), j4, es]
            · rw [u2_o (by decide), u2_s, e3]
            · unfold tso kso at q
              rw [← es, if_neg nz, if_pos hS] at q
              split at q <;> cases q
            · obtain ⟨q1, -, -⟩ := word_b he q
              rw [e3, ← es] at q1 ⊢
              refine ⟨by rw [u2_o (by decide), u2_o (by decide)]; exact k2, fun k hk => ?_⟩
              rw [u2_o (by omega), u2_o (by omega)]
              exact k3 k hk (by omega)
          refine Wf.gc tkX7_next [] ?_
          conv => whnf
          refine ⟨fun z2 => ?_, fun z2 => ?_⟩
          · have z2 : K 150 8 ≤ 8 := z2
            rw [k2, show (8 : Int32) = nI 8 from rfl, nI_leI (by omega) (by decide)] at z2
            conv => whnf
            exact fin 2 (by unfold tso kso; rw [← es, if_neg nz, if_pos hS, if_pos z2]; rfl)
          · have z2 : ¬ K 150 8 ≤ 8 := z2
            rw [k2, show (8 : Int32) = nI 8 from rfl, nI_leI (by omega) (by decide)] at z2
            conv => whnf
            exact fin 1 (by unfold tso kso; rw [← es, if_neg nz, if_pos hS, if_neg z2]; rfl)
      · obtain rfl := c1 z
        refine Wf.gc tkX7_next [] ?_
        conv => whnf
        refine b2 (fun q => q rfl) ?_
        conv => whnf
        show kr none (mk w p r (u2 (u2 J 150 6 0) 150 5 (nI s)) L)
        have h0 : tso b n e = 0 := by unfold tso kso; rw [← es, if_pos z]
        refine h _ (fun a i z1 z2 => ?_) ⟨?_, ?_, ?_, fun q => ?_, fun q => ?_⟩
        · rw [u2_o (by omega), u2_o (by omega)]; exact sJ a i z1
        · rw [h0]; rfl
        · rw [u2_o (by decide), u2_o (by decide), j4, es]
        · rw [u2_s]; unfold tsp ksp; rw [← es, if_pos z]
        · omega
        · omega
    refine Wf.gc tkX7_next [42] ?_
    conv => whnf
    show Ev l X uX7_see (d + 1) true 0 0 [.ref 150, .int (nI s)] (mk w p r (u2 I 150 4 (nI s)) L) _
    refine y_see (by omega) rx1 (fun z => ?_) (fun z => ?_)
    · conv => whnf
      have q := go (-1) (fun _ => rfl) (fun z2 => absurd z (by omega))
      rw [hJ] at q
      exact q
    · conv => whnf
      have q := go (nI (b s)) (fun z2 => absurd z (by omega)) (fun _ => rfl)
      rw [hJ] at q
      exact q
  have loop : ∀ i, i ≤ n → fst (fun j => !(Nat.beq (b j) 32)) n i = tst b n e → Wf l X uX7_next (d + 2) true (mC (mk w p r I L) + 0, mS (mk w p r I L) + 0) 5 [(0, .ref 150), (1, .int (nI i))] [] (mk w p r I L) kr := by
    refine srch (e := n) (P := fun j => !(Nat.beq (b j) 32)) (Wi := fun i => Wf l X uX7_next (d + 2) true (mC (mk w p r I L) + 0, mS (mk w p r I L) + 0) 5 [(0, .ref 150), (1, .int (nI i))] [] (mk w p r I L) kr) (K := fun o => o.getD n = tst b n e) ?_ ?_
    · intro hK
      have hK : n = tst b n e := hK
      refine Wf.gc tkX7_next [21] ?_
      conv => whnf
      refine y_see (by omega) hr (fun _ => ?_) (fun z => absurd z (Nat.lt_irrefl _))
      conv => whnf
      refine b1 (show ¬ (-1 : Int32) = 32 by decide) ?_
      conv => whnf
      exact main n hK
    · intro i hi
      have hbi := (hr.2.2 i hi).1
      refine ⟨fun hP hK => ?_, fun hP hK => ?_⟩
      · have hK : i = tst b n e := hK
        have hP : (!(Nat.beq (b i) 32)) = true := hP
        refine Wf.gc tkX7_next [21] ?_
        conv => whnf
        refine y_see (by omega) hr (fun z => absurd hi (by omega)) (fun _ => ?_)
        conv => whnf
        refine b1 ?_ ?_
        · show ¬ nI (b i) = 32
          rw [show (32 : Int32) = nI 32 from rfl, nI_eq (by omega) (by decide)]
          intro q
          rw [q] at hP
          cases hP
        conv => whnf
        exact main i hK
      · have hP : (!(Nat.beq (b i) 32)) = false := hP
        have hB : b i = 32 := by
          cases hq : Nat.beq (b i) 32 with
          | true => exact Nat.eq_of_beq_eq_true hq
          | false => rw [hq] at hP; cases hP
        refine Wf.gc tkX7_next [5] ?_
        conv => whnf
        refine y_see (by omega) hr (fun z => absurd hi (by omega)) (fun _ => ?_)
        conv => whnf
        refine b2 (fun q => q (by show nI (b i) = 32; rw [hB]; rfl)) ?_
        conv => whnf
        rw [← nI_1] at hK
        exact hK
  refine Wf.gc tkX7_next [5] ?_
  conv => whnf
  have q := loop e he rfl
  rw [← h5] at q
  exact q
end RNX
