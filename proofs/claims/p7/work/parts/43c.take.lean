section TKW
variable {l : Launch} {X : Nat × (Nat → Int32)} {d : Nat} {w : Nat × Nat} {p r : Nat} {I : Nat → Nat → Int32} {L : Nat → Nat → Int64} {kr : KR} {b : Nat → Nat} {n e s : Nat}
set_option maxRecDepth 20000 in
theorem x_takeWhole (ht : TX b n I) (hs : s ≤ n) (h5 : I 2 5 = nI s) (h6 : I 2 6 = nI s) (h : kr none (mk w p r (u2 (u2 (u2 I 2 7 (dvI b s (den b n s - s))) 2 6 (nI (den b n s))) 2 4 (if den b n s - s ≤ 3 then 2 else 4)) L)) : Ev l X uX4_takeWhole d true 0 0 [.ref 2] (mk w p r I L) kr := by
  obtain ⟨h9, h2, hb⟩ := ht
  refine Ev.of (by decide) (Nat.le_of_ble_eq_true rfl) ?_
  have fin : ∀ i, i ≤ n → i = den b n s → Wf l X uX4_takeWhole d true (mC (mk w p r I L) + 0, mS (mk w p r I L) + 0) 81 [(0, .ref 2)] [] (mk w p r (u2 (u2 I 2 7 (dvI b s (i - s))) 2 6 (nI i)) L) kr := by
    intro i hi ei
    have hw := (fst_ge (P := fun j => !(isD (b j))) hs).1
    have hw : s ≤ den b n s := hw
    subst ei
    refine Wf.gc tkX4_takeWhole [] ?_
    conv => whnf
    have e1 : (nI (den b n s) - nI s : Int32) = nI (den b n s - s) := by
      have z : nI (den b n s) = nI (den b n s - s) + nI s := by rw [nI_add, Nat.sub_add_cancel hw]
      rw [z]
      exact Int32.add_sub_cancel _ _
    have e2 : (nI (den b n s) - I 2 5 : Int32) = nI (den b n s - s) := by rw [h5]; exact e1
    refine ⟨fun z => ?_, fun z => ?_⟩
    · have z : (3 : Int32) < nI (den b n s) - I 2 5 := z
      rw [e2, show (3 : Int32) = nI 3 from rfl, nI_ltI (by decide) (by omega)] at z
      rw [if_neg (by omega)] at h
      conv => whnf
      exact h
    · have z : ¬ (3 : Int32) < nI (den b n s) - I 2 5 := z
      rw [e2, show (3 : Int32) = nI 3 from rfl, nI_ltI (by decide) (by omega)] at z
      rw [if_pos (by omega)] at h
      conv => whnf
      exact h
  have loop : ∀ i, i ≤ n → s ≤ i → Wf l X uX4_takeWhole d true (mC (mk w p r I L) + 0, mS (mk w p r I L) + 0) 81 [(0, .ref 2)] [] (mk w p r (u2 (u2 I 2 7 (dvI b s ((fst (fun j => !(isD (b j))) n i) - s))) 2 6 (nI (fst (fun j => !(isD (b j))) n i))) L) kr → Wf l X uX4_takeWhole d true (mC (mk w p r I L) + 0, mS (mk w p r I L) + 0) 5 [(0, .ref 2)] [] (mk w p r (u2 (u2 I 2 7 (dvI b s (i - s))) 2 6 (nI i)) L) kr := by
    refine srch (e := n) (P := fun j => !(isD (b j))) (Wi := fun i => s ≤ i → Wf l X uX4_takeWhole d true (mC (mk w p r I L) + 0, mS (mk w p r I L) + 0) 5 [(0, .ref 2)] [] (mk w p r (u2 (u2 I 2 7 (dvI b s (i - s))) 2 6 (nI i)) L) kr) (K := fun o => Wf l X uX4_takeWhole d true (mC (mk w p r I L) + 0, mS (mk w p r I L) + 0) 81 [(0, .ref 2)] [] (mk w p r (u2 (u2 I 2 7 (dvI b s (o.getD n - s))) 2 6 (nI (o.getD n))) L) kr) ?_ ?_ |> fun q i h1 h2 h3 => q i h1 h3 h2
    · intro hK hsi
      refine Wf.gc tkX4_takeWhole [81] ?_
      conv => whnf
      refine b1 (fun z => z ?_) ?_
      · show I 2 2 ≤ nI n
        rw [h2]
        exact Int32.le_refl _
      conv => whnf
      exact hK
    · intro i hi
      obtain ⟨hb1, hb2⟩ := hb i hi
      have head : (¬ (¬ sb (b i) < 48 ∧ ¬ 57 < sb (b i)) → Wf l X uX4_takeWhole d true (mC (mk w p r I L) + 0, mS (mk w p r I L) + 0) 81 [(0, .ref 2)] [] (mk w p r (u2 (u2 I 2 7 (dvI b s (i - s))) 2 6 (nI i)) L) kr) → ((¬ sb (b i) < 48 ∧ ¬ 57 < sb (b i)) → Wf l X uX4_takeWhole d true (mC (mk w p r I L) + 0, mS (mk w p r I L) + 0) 44 [(0, .ref 2)] [] (mk w p r (u2 (u2 I 2 7 (dvI b s (i - s))) 2 6 (nI i)) L) kr) → Wf l X uX4_takeWhole d true (mC (mk w p r I L) + 0, mS (mk w p r I L) + 0) 5 [(0, .ref 2)] [] (mk w p r (u2 (u2 I 2 7 (dvI b s (i - s))) 2 6 (nI i)) L) kr := by
        intro j1 j2
        refine Wf.gc tkX4_takeWhole [81, 44] ?_
        conv => whnf
        refine b2 ?_ ?_
        · show ¬ I 2 2 ≤ nI i
          rw [h2]
          exact nI_ge hi (by omega)
        conv => whnf
        refine ⟨i, ix (N := 900) (by omega) (by decide), ?_⟩
        conv => whnf
        refine ⟨fun z => ?_, fun z => ?_⟩
        · have z : I 3 i < 48 := z
          rw [hb2] at z
          conv => whnf
          exact j1 (fun q => q.1 z)
        · have z : ¬ I 3 i < 48 := z
          rw [hb2] at z
          conv => whnf
          refine ⟨i, ix (N := 900) (by omega) (by decide), ?_⟩
          conv => whnf
          refine ⟨fun z2 => ?_, fun z2 => ?_⟩
          · have z2 : 57 < I 3 i := z2
            rw [hb2] at z2
            conv => whnf
            exact j1 (fun q => q.2 z2)
          · have z2 : ¬ 57 < I 3 i := z2
            rw [hb2] at z2
            conv => whnf
            exact j2 ⟨z, z2⟩
      refine ⟨fun hP hK hsi => ?_, fun hP hK hsi => ?_⟩
      · have hP : (!(isD (b i))) = true := hP
        refine head (fun _ => hK) (fun q => ?_)
        rw [(sbD (b i) hb1).mpr q] at hP
        cases hP
      · have hP : (!(isD (b i))) = false := hP
        have hS : isD (b i) = true := by
          cases hq : isD (b i) with
          | true => rfl
          | false => rw [hq] at hP; cases hP
        refine head (fun q => absurd ((sbD (b i) hb1).mp hS) q) (fun _ => ?_)
        refine Wf.gc tkX4_takeWhole [5] ?_
        conv => whnf
        refine ⟨i, ix (N := 900) (by omega) (by decide), ?_⟩
        conv => whnf
        have hK := hK (by omega)
        have e1 : i + 1 - s = (i - s) + 1 := by omega
        rw [e1] at hK
        have e2 : dvI b s (i - s + 1) = dvI b s (i - s) * 10 + (sb (b i) - 48) := by
          show dvI b s (i - s) * 10 + (sb (b (s + (i - s))) - 48) = _
          rw [show s + (i - s) = i by omega]
        rw [e2, ← nI_1, ← hb2] at hK
        have e3 : u2 (u2 (u2 (u2 I 2 7 (dvI b s (i - s))) 2 6 (nI i)) 2 7 (dvI b s (i - s) * 10 + (I 3 i - 48))) 2 6 (nI i + 1) = u2 (u2 I 2 7 (dvI b s (i - s) * 10 + (I 3 i - 48))) 2 6 (nI i + 1) := by
          rw [u2_c (a := 2) (i := 6) (c := 2) (j := 7) (by decide), u2_2, u2_2]
        rw [← e3] at hK
        exact hK
  refine Wf.gc tkX4_takeWhole [5] ?_
  conv => whnf
  have q := loop s hs (Nat.le_refl _) (fin _ (fst_ge hs).2 rfl)
  have e0 : u2 (u2 I 2 7 0) 2 6 (nI s) = u2 I 2 7 0 := by
    funext x y
    show (if x = 2 ∧ y = 6 then nI s else u2 I 2 7 0 x y) = u2 I 2 7 0 x y
    split
    · rename_i z
      rw [z.1, z.2, u2_o (by decide), h6]
    · rfl
  rw [Nat.sub_self] at q
  have q : Wf l X uX4_takeWhole d true (mC (mk w p r I L) + 0, mS (mk w p r I L) + 0) 5 [(0, .ref 2)] [] (mk w p r (u2 (u2 I 2 7 0) 2 6 (nI s)) L) kr := q
  rw [e0] at q
  exact q
/-- where a token is, in I and L -/
theorem TC_of (he : e ≤ n) {I' : Nat → Nat → Int32} {L' : Nat → Nat → Int64} (h4 : I' 2 4 = nI (tso b n e)) (h5 : I' 2 5 = nI (tst b n e)) (h6 : I' 2 6 = nI (tsp b n e)) (h7 : tso b n e = 2 → I' 2 7 = dvI b (tst b n e) (tsp b n e - tst b n e)) (h8 : tso b n e = 1 → L' 2 8 = enc b (tst b n e) (tsp b n e - tst b n e)) : TC b n e I' L' :=
  ⟨h4, h5, h6, fun z => (h7 z).trans (tvl_b he z).2, h8⟩
theorem u2_ne {α : Type} {I : Nat → Nat → α} {a i c j : Nat} {v : α} (h : ¬ (c = a ∧ j = i)) : u2 I a i v c j = I c j := u2_o h
set_option maxRecDepth 20000 in
theorem x_take (ht : TX b n I) (he : e ≤ n) (h6 : I 2 6 = nI e) (h : ∀ I' L', sT I I' L L' → TC b n e I' L' → kr none (mk w p r I' L')) : Ev l X uX4_take (d + 1) true 0 0 [.ref 2] (mk w p r I L) kr := by
  obtain ⟨h9, h2, hb⟩ := id ht
  have hs := tst_b (b := b) he
  refine Ev.of (by decide) (Nat.le_of_ble_eq_true rfl) ?_
  -- from the token's first byte on
  have main : ∀ s, s = tst b n e → Wf l X uX4_take (d + 1) true (mC (mk w p r I L) + 0, mS (mk w p r I L) + 0) 46 [(0, .ref 2)] [] (mk w p r (u2 I 2 5 (nI s)) L) kr := by
    intro s es
    have hsn : s ≤ n := by rw [es]; exact hs.2
    have e5 : u2 (u2 I 2 5 (nI s)) 2 6 (nI s) 2 5 = nI s := rfl
    have tx : TX b n (u2 (u2 I 2 5 (nI s)) 2 6 (nI s)) := ⟨h9, h2, hb⟩
    refine Wf.gc tkX4_take [73] ?_
    conv => whnf
    refine ⟨fun z => ?_, fun z => ?_⟩
    · have z : nI s < I 2 2 := z
      rw [h2, nI_ltI (by omega) (by omega)] at z
      obtain ⟨b1, b2⟩ := hb s z
      have nz : ¬ n ≤ s := by omega
      -- a word, a whole, another byte
      have cW : (¬ sb (b s) < 97 ∧ ¬ 122 < sb (b s)) → Wf l X uX4_take (d + 1) true (mC (mk w p r I L) + 0, mS (mk w p r I L) + 0) 101 [(0, .ref 2)] [] (mk w p r (u2 (u2 I 2 5 (nI s)) 2 6 (nI s)) L) kr := by
        intro q
        have hS := (sbS (b s) b1).mpr q
        refine Wf.gc tkX4_take [] ?_
        conv => whnf
        refine x_takeWord (s := s) tx hsn rfl rfl ?_
        conv => whnf
        refine h _ _ ⟨fun a i hn => ?_, fun a i hn => u2_o hn⟩ (TC_of he ?_ ?_ ?_ ?_ ?_)
        · rw [u2_o (by omega), u2_o (by omega), u2_o (by omega), u2_o (by omega)]
        · show (if wen b n s - s ≤ 8 then (1 : Int32) else 4) = nI (tso b n e)
          unfold tso kso
          rw [← es, if_neg nz, if_pos hS]
          split <;> rfl
        · show nI s = _
          rw [es]
        · show nI (wen b n s) = nI (tsp b n e)
          unfold tsp ksp
          rw [← es, if_neg nz, if_pos hS]
        · intro q2
          unfold tso kso at q2
          rw [← es, if_neg nz, if_pos hS] at q2
          split at q2 <;> omega
        · intro _
          show enc b s (wen b n s - s) = _
          unfold tsp ksp
          rw [← es, if_neg nz, if_pos hS]
      have cX : ¬ (¬ sb (b s) < 97 ∧ ¬ 122 < sb (b s)) → Wf l X uX4_take (d + 1) true (mC (mk w p r I L) + 0, mS (mk w p r I L) + 0) 108 [(0, .ref 2)] [] (mk w p r (u2 (u2 I 2 5 (nI s)) 2 6 (nI s)) L) kr := by
        intro q
        have hS : ¬ isS (b s) = true := fun z => q ((sbS (b s) b1).mp z)
        have cD : (¬ sb (b s) < 48 ∧ ¬ 57 < sb (b s)) → Wf l X uX4_take (d + 1) true (mC (mk w p r I L) + 0, mS (mk w p r I L) + 0) 136 [(0, .ref 2)] [] (mk w p r (u2 (u2 I 2 5 (nI s)) 2 6 (nI s)) L) kr := by
          intro q
          have hD := (sbD (b s) b1).mpr q
          refine Wf.gc tkX4_take [] ?_
          conv => whnf
          refine x_takeWhole (s := s) tx hsn rfl rfl ?_
          conv => whnf
          refine h _ _ ⟨fun a i hn => ?_, fun a i hn => rfl⟩ (TC_of he ?_ ?_ ?_ ?_ ?_)
          · rw [u2_o (by omega), u2_o (by omega), u2_o (by omega), u2_o (by omega), u2_o (by omega)]
          · show (if den b n s - s ≤ 3 then (2 : Int32) else 4) = nI (tso b n e)
            unfold tso kso
            rw [← es, if_neg nz, if_neg hS, if_pos hD]
            split <;> rfl
          · show nI s = _
            rw [es]
          · show nI (den b n s) = nI (tsp b n e)
            unfold tsp ksp
            rw [← es, if_neg nz, if_neg hS, if_pos hD]
          · intro _
            show dvI b s (den b n s - s) = _
            unfold tsp ksp
            rw [← es, if_neg nz, if_neg hS, if_pos hD]
          · intro q2
            unfold tso kso at q2
            rw [← es, if_neg nz, if_neg hS, if_pos hD] at q2
            split at q2 <;> omega
        have cO : ¬ (¬ sb (b s) < 48 ∧ ¬ 57 < sb (b s)) → Wf l X uX4_take (d + 1) true (mC (mk w p r I L) + 0, mS (mk w p r I L) + 0) 143 [(0, .ref 2)] [] (mk w p r (u2 (u2 I 2 5 (nI s)) 2 6 (nI s)) L) kr := by
          intro q
          have hD : ¬ isD (b s) = true := fun z => q ((sbD (b s) b1).mp z)
          have fin : ∀ (k : Nat), k = tso b n e → kr none (mk w p r (u2 (u2 (u2 (u2 I 2 5 (nI s)) 2 6 (nI s)) 2 6 (nI s + 1)) 2 4 (nI k)) L) := by
            intro k hk
            refine h _ _ ⟨fun a i hn => ?_, fun a i hn => rfl⟩ (TC_of he ?_ ?_ ?_ ?_ ?_)
            · rw [u2_o (by omega), u2_o (by omega), u2_o (by omega), u2_o (by omega)]
            · show nI k = _
              rw [hk]
            · show nI s = _
              rw [es]
            · show nI s + 1 = nI (tsp b n e)
              unfold tsp ksp
              rw [← es, if_neg nz, if_neg hS, if_neg hD, nI_1]
            · intro q2
              unfold tso kso at q2
              rw [← es, if_neg nz, if_neg hS, if_neg hD] at q2
              split at q2 <;> omega
            · intro q2
              unfold tso kso at q2
              rw [← es, if_neg nz, if_neg hS, if_neg hD] at q2
              split at q2 <;> omega
          refine Wf.gc tkX4_take [] ?_
          conv => whnf
          refine ⟨s, ix (N := 900) (by omega) (by decide), ?_⟩
          conv => whnf
          refine ⟨fun z => ?_, fun z => ?_⟩
          · have z : ¬ I 3 s = 59 := z
            rw [b2, sb59 (b s) b1] at z
            conv => whnf
            exact fin 4 (by unfold tso kso; rw [← es, if_neg nz, if_neg hS, if_neg hD, if_neg z])
          · have z : I 3 s = 59 := z
            rw [b2, sb59 (b s) b1] at z
            conv => whnf
            exact fin 3 (by unfold tso kso; rw [← es, if_neg nz, if_neg hS, if_neg hD, if_pos z])
        refine Wf.gc tkX4_take [136, 143] ?_
        conv => whnf
        refine ⟨s, ix (N := 900) (by omega) (by decide), ?_⟩
        conv => whnf
        refine ⟨fun z => ?_, fun z => ?_⟩
        · have z : I 3 s < 48 := z
          rw [b2] at z
          conv => whnf
          exact cO (fun q => q.1 z)
        · have z : ¬ I 3 s < 48 := z
          rw [b2] at z
          conv => whnf
          refine ⟨s, ix (N := 900) (by omega) (by decide), ?_⟩
          conv => whnf
          refine ⟨fun z2 => ?_, fun z2 => ?_⟩
          · have z2 : 57 < I 3 s := z2
            rw [b2] at z2
            conv => whnf
            exact cO (fun q => q.2 z2)
          · have z2 : ¬ 57 < I 3 s := z2
            rw [b2] at z2
            conv => whnf
            exact cD ⟨z, z2⟩
      conv => whnf
      show Wf l X uX4_take (d + 1) true (mC (mk w p r I L) + 0, mS (mk w p r I L) + 0) 73 [(0, .ref 2)] [] (mk w p r (u2 (u2 I 2 5 (nI s)) 2 6 (nI s)) L) kr
      refine Wf.gc tkX4_take [101, 108] ?_
      conv => whnf
      refine ⟨s, ix (N := 900) (by omega) (by decide), ?_⟩
      conv => whnf
      refine ⟨fun z => ?_, fun z => ?_⟩
      · have z : I 3 s < 97 := z
        rw [b2] at z
        conv => whnf
        exact cX (fun q => q.1 z)
      · have z : ¬ I 3 s < 97 := z
        rw [b2] at z
        conv => whnf
        refine ⟨s, ix (N := 900) (by omega) (by decide), ?_⟩
        conv => whnf
        refine ⟨fun z2 => ?_, fun z2 => ?_⟩
        · have z2 : 122 < I 3 s := z2
          rw [b2] at z2
          conv => whnf
          exact cX (fun q => q.2 z2)
        · have z2 : ¬ 122 < I 3 s := z2
          rw [b2] at z2
          conv => whnf
          exact cW ⟨z, z2⟩
    · have z : ¬ nI s < I 2 2 := z
      rw [h2, nI_ltI (by omega) (by omega)] at z
      have nz : n ≤ s := by omega
      conv => whnf
      have h0 : tso b n e = 0 := by unfold tso kso; rw [← es, if_pos nz]
      show kr none (mk w p r (u2 (u2 (u2 I 2 5 (nI s)) 2 6 (nI s)) 2 4 0) L)
      refine h _ _ ⟨fun a i hn => ?_, fun a i hn => rfl⟩ (TC_of he ?_ ?_ ?_ ?_ ?_)
      · rw [u2_o (by omega), u2_o (by omega), u2_o (by omega)]
      · rw [h0]; rfl
      · show nI s = _
        rw [es]
      · show nI s = nI (tsp b n e)
        unfold tsp ksp
        rw [← es, if_pos nz]
      · intro q; omega
      · intro q; omega
  have loop : ∀ i, i ≤ n → Wf l X uX4_take (d + 1) true (mC (mk w p r I L) + 0, mS (mk w p r I L) + 0) 46 [(0, .ref 2)] [] (mk w p r (u2 I 2 5 (nI (fst (fun j => !(Nat.beq (b j) 32)) n i))) L) kr → Wf l X uX4_take (d + 1) true (mC (mk w p r I L) + 0, mS (mk w p r I L) + 0) 8 [(0, .ref 2)] [] (mk w p r (u2 I 2 5 (nI i)) L) kr := by
    refine srch (e := n) (P := fun j => !(Nat.beq (b j) 32)) (Wi := fun i => Wf l X uX4_take (d + 1) true (mC (mk w p r I L) + 0, mS (mk w p r I L) + 0) 8 [(0, .ref 2)] [] (mk w p r (u2 I 2 5 (nI i)) L) kr) (K := fun o => Wf l X uX4_take (d + 1) true (mC (mk w p r I L) + 0, mS (mk w p r I L) + 0) 46 [(0, .ref 2)] [] (mk w p r (u2 I 2 5 (nI (o.getD n))) L) kr) ?_ ?_
    · intro hK
      refine Wf.gc tkX4_take [46] ?_
      conv => whnf
      refine b1 (fun z => z ?_) ?_
      · show I 2 2 ≤ nI n
        rw [h2]
        exact Int32.le_refl _
      conv => whnf
      exact hK
    · intro i hi
      obtain ⟨hb1, hb2⟩ := hb i hi
      have head : (¬ sb (b i) = 32 → Wf l X uX4_take (d + 1) true (mC (mk w p r I L) + 0, mS (mk w p r I L) + 0) 46 [(0, .ref 2)] [] (mk w p r (u2 I 2 5 (nI i)) L) kr) → (sb (b i) = 32 → Wf l X uX4_take (d + 1) true (mC (mk w p r I L) + 0, mS (mk w p r I L) + 0) 33 [(0, .ref 2)] [] (mk w p r (u2 I 2 5 (nI i)) L) kr) → Wf l X uX4_take (d + 1) true (mC (mk w p r I L) + 0, mS (mk w p r I L) + 0) 8 [(0, .ref 2)] [] (mk w p r (u2 I 2 5 (nI i)) L) kr := by
        intro j1 j2
        refine Wf.gc tkX4_take [46, 33] ?_
        conv => whnf
        refine b2 ?_ ?_
        · show ¬ I 2 2 ≤ nI i
          rw [h2]
          exact nI_ge hi (by omega)
        conv => whnf
        refine ⟨i, ix (N := 900) (by omega) (by decide), ?_⟩
        conv => whnf
        refine ⟨fun z => ?_, fun z => ?_⟩
        · have z : ¬ I 3 i = 32 := z
          rw [hb2] at z
          conv => whnf
          exact j1 z
        · have z : I 3 i = 32 := z
          rw [hb2] at z
          conv => whnf
          exact j2 z
      refine ⟨fun hP hK => ?_, fun hP hK => ?_⟩
      · have hP : (!(Nat.beq (b i) 32)) = true := hP
        refine head (fun _ => hK) (fun q => ?_)
        rw [(sb32 (b i) hb1).mp q] at hP
        cases hP
      · have hP : (!(Nat.beq (b i) 32)) = false := hP
        have hS : Nat.beq (b i) 32 = true := by
          cases hq : Nat.beq (b i) 32 with
          | true => rfl
          | false => rw [hq] at hP; cases hP
        refine head (fun q => absurd ((sb32 (b i) hb1).mpr hS) q) (fun _ => ?_)
        refine Wf.gc tkX4_take [8] ?_
        conv => whnf
        rw [← nI_1] at hK
        have e3 : u2 I 2 5 (nI i + 1) = u2 (u2 I 2 5 (nI i)) 2 5 (nI i + 1) := u2_2.symm
        rw [e3] at hK
        exact hK
  refine Wf.gc tkX4_take [8] ?_
  conv => whnf
  have q := loop e he (main _ rfl)
  rw [← h6] at q
  exact q
end TKW
