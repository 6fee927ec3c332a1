/-! the class's tokens -/
section TKC
variable {l : Launch} {X : Nat × (Nat → Int32)} {d : Nat} {w : Nat × Nat} {p r : Nat} {I : Nat → Nat → Int32} {L : Nat → Nat → Int64} {kr : KR} {b : Nat → Nat} {n e s : Nat}
/-- the text at hand -/
def TX (b : Nat → Nat) (n : Nat) (I : Nat → Nat → Int32) : Prop := n ≤ 900 ∧ I 2 2 = nI n ∧ ∀ i, i < n → b i < 256 ∧ I 3 i = sb (b i)
/-- the token at hand -/
def TC (b : Nat → Nat) (n e : Nat) (I : Nat → Nat → Int32) (L : Nat → Nat → Int64) : Prop := I 2 4 = nI (tso b n e) ∧ I 2 5 = nI (tst b n e) ∧ I 2 6 = nI (tsp b n e) ∧ (tso b n e = 2 → I 2 7 = nI (tvl b n e)) ∧ (tso b n e = 1 → L 2 8 = ten b n e)
/-- nothing but the token has changed -/
def sT (I I' : Nat → Nat → Int32) (L L' : Nat → Nat → Int64) : Prop := (∀ a i, ¬ (a = 2 ∧ 4 ≤ i ∧ i ≤ 7) → I' a i = I a i) ∧ ∀ a i, ¬ (a = 2 ∧ i = 8) → L' a i = L a i
theorem sb32 : ∀ c, c < 256 → (sb c = 32 ↔ Nat.beq c 32 = true) := by decide +kernel
theorem sb59 : ∀ c, c < 256 → (sb c = 59 ↔ c = 59) := by decide +kernel
theorem sbS : ∀ c, c < 256 → (isS c = true ↔ (¬ sb c < 97 ∧ ¬ 122 < sb c)) := by decide +kernel
theorem sbD : ∀ c, c < 256 → (isD c = true ↔ (¬ sb c < 48 ∧ ¬ 57 < sb c)) := by decide +kernel
theorem u2_2 {α : Type} {I : Nat → Nat → α} {a i : Nat} {u v : α} : u2 (u2 I a i u) a i v = u2 I a i v := by
  funext c j
  unfold u2
  split <;> rfl
theorem u2_c {α : Type} {I : Nat → Nat → α} {a i c j : Nat} {u v : α} (h : ¬ (a = c ∧ i = j)) : u2 (u2 I a i u) c j v = u2 (u2 I c j v) a i u := by
  funext x y
  unfold u2
  by_cases h1 : x = c ∧ y = j
  · rw [if_pos h1, if_neg (fun z => h ⟨z.1.symm.trans h1.1, z.2.symm.trans h1.2⟩), if_pos h1]
  · rw [if_neg h1]
    by_cases h2 : x = a ∧ y = i
    · rw [if_pos h2, if_pos h2]
    · rw [if_neg h2, if_neg h2, if_neg h1]
set_option maxRecDepth 20000 in
theorem x_takeWord (ht : TX b n I) (hs : s ≤ n) (h5 : I 2 5 = nI s) (h6 : I 2 6 = nI s) (h : kr none (mk w p r (u2 (u2 I 2 6 (nI (wen b n s))) 2 4 (if wen b n s - s ≤ 8 then 1 else 4)) (u2 L 2 8 (enc b s (wen b n s - s))))) : Ev l X uX4_takeWord d true 0 0 [.ref 2] (mk w p r I L) kr := by
  obtain ⟨h9, h2, hb⟩ := ht
  refine Ev.of (by decide) (Nat.le_of_ble_eq_true rfl) ?_
  have fin : ∀ i, i ≤ n → i = wen b n s → Wf l X uX4_takeWord d true (mC (mk w p r I L) + 0, mS (mk w p r I L) + 0) 85 [(0, .ref 2)] [] (mk w p r (u2 I 2 6 (nI i)) (u2 L 2 8 (enc b s (i - s)))) kr := by
    intro i hi ei
    have hw := (fst_ge (P := fun j => !(isS (b j))) hs).1
    have hw : s ≤ wen b n s := hw
    subst ei
    refine Wf.gc tkX4_takeWord [] ?_
    conv => whnf
    have e1 : (nI (wen b n s) - nI s : Int32) = nI (wen b n s - s) := by
      have z : nI (wen b n s) = nI (wen b n s - s) + nI s := by rw [nI_add, Nat.sub_add_cancel hw]
      rw [z]
      exact Int32.add_sub_cancel _ _
    have e2 : (nI (wen b n s) - I 2 5 : Int32) = nI (wen b n s - s) := by rw [h5]; exact e1
    refine ⟨fun z => ?_, fun z => ?_⟩
    · have z : (8 : Int32) < nI (wen b n s) - I 2 5 := z
      rw [e2, show (8 : Int32) = nI 8 from rfl, nI_ltI (by decide) (by omega)] at z
      rw [if_neg (by omega)] at h
      conv => whnf
      exact h
    · have z : ¬ (8 : Int32) < nI (wen b n s) - I 2 5 := z
      rw [e2, show (8 : Int32) = nI 8 from rfl, nI_ltI (by decide) (by omega)] at z
      rw [if_pos (by omega)] at h
      conv => whnf
      exact h
  have loop : ∀ i, i ≤ n → s ≤ i → Wf l X uX4_takeWord d true (mC (mk w p r I L) + 0, mS (mk w p r I L) + 0) 85 [(0, .ref 2)] [] (mk w p r (u2 I 2 6 (nI (fst (fun j => !(isS (b j))) n i))) (u2 L 2 8 (enc b s (fst (fun j => !(isS (b j))) n i - s)))) kr → Wf l X uX4_takeWord d true (mC (mk w p r I L) + 0, mS (mk w p r I L) + 0) 5 [(0, .ref 2)] [] (mk w p r (u2 I 2 6 (nI i)) (u2 L 2 8 (enc b s (i - s)))) kr := by
    refine srch (e := n) (P := fun j => !(isS (b j))) (Wi := fun i => s ≤ i → Wf l X uX4_takeWord d true (mC (mk w p r I L) + 0, mS (mk w p r I L) + 0) 5 [(0, .ref 2)] [] (mk w p r (u2 I 2 6 (nI i)) (u2 L 2 8 (enc b s (i - s)))) kr) (K := fun o => Wf l X uX4_takeWord d true (mC (mk w p r I L) + 0, mS (mk w p r I L) + 0) 85 [(0, .ref 2)] [] (mk w p r (u2 I 2 6 (nI (o.getD n))) (u2 L 2 8 (enc b s (o.getD n - s)))) kr) ?_ ?_ |> fun q i h1 h2 h3 => q i h1 h3 h2
    · intro hK hsi
      refine Wf.gc tkX4_takeWord [85] ?_
      conv => whnf
      refine b1 (fun z => z ?_) ?_
      · show I 2 2 ≤ nI n
        rw [h2]
        exact Int32.le_refl _
      conv => whnf
      exact hK
    · intro i hi
      obtain ⟨hb1, hb2⟩ := hb i hi
      have head : (¬ (¬ sb (b i) < 97 ∧ ¬ 122 < sb (b i)) → Wf l X uX4_takeWord d true (mC (mk w p r I L) + 0, mS (mk w p r I L) + 0) 85 [(0, .ref 2)] [] (mk w p r (u2 I 2 6 (nI i)) (u2 L 2 8 (enc b s (i - s)))) kr) → ((¬ sb (b i) < 97 ∧ ¬ 122 < sb (b i)) → Wf l X uX4_takeWord d true (mC (mk w p r I L) + 0, mS (mk w p r I L) + 0) 44 [(0, .ref 2)] [] (mk w p r (u2 I 2 6 (nI i)) (u2 L 2 8 (enc b s (i - s)))) kr) → Wf l X uX4_takeWord d true (mC (mk w p r I L) + 0, mS (mk w p r I L) + 0) 5 [(0, .ref 2)] [] (mk w p r (u2 I 2 6 (nI i)) (u2 L 2 8 (enc b s (i - s)))) kr := by
        intro j1 j2
        refine Wf.gc tkX4_takeWord [85, 44] ?_
        conv => whnf
        refine b2 ?_ ?_
        · show ¬ I 2 2 ≤ nI i
          rw [h2]
          exact nI_ge hi (by omega)
        conv => whnf
        refine ⟨i, ix (N := 900) (by omega) (by decide), ?_⟩
        conv => whnf
        refine ⟨fun z => ?_, fun z => ?_⟩
        · have z : I 3 i < 97 := z
          rw [hb2] at z
          conv => whnf
          exact j1 (fun q => q.1 z)
        · have z : ¬ I 3 i < 97 := z
          rw [hb2] at z
          conv => whnf
          refine ⟨i, ix (N := 900) (by omega) (by decide), ?_⟩
          conv => whnf
          refine ⟨fun z2 => ?_, fun z2 => ?_⟩
          · have z2 : 122 < I 3 i := z2
            rw [hb2] at z2
            conv => whnf
            exact j1 (fun q => q.2 z2)
          · have z2 : ¬ 122 < I 3 i := z2
            rw [hb2] at z2
            conv => whnf
            exact j2 ⟨z, z2⟩
      refine ⟨fun hP hK hsi => ?_, fun hP hK hsi => ?_⟩
      · have hP : (!(isS (b i))) = true := hP
        refine head (fun _ => hK) (fun q => ?_)
        rw [(sbS (b i) hb1).mpr q] at hP
        cases hP
      · have hP : (!(isS (b i))) = false := hP
        have hS : isS (b i) = true := by
          cases hq : isS (b i) with
          | true => rfl
          | false => rw [hq] at hP; cases hP
        refine head (fun q => absurd ((sbS (b i) hb1).mp hS) q) (fun _ => ?_)
        refine Wf.gc tkX4_takeWord [5] ?_
        conv => whnf
        refine ⟨i, ix (N := 900) (by omega) (by decide), ?_⟩
        conv => whnf
        have hK := hK (by omega)
        have e1 : i + 1 - s = (i - s) + 1 := by omega
        rw [e1] at hK
        have e2 : enc b s (i - s + 1) = enc b s (i - s) * 32 + (sb (b i) - 97 + 1).toInt64 := by
          show enc b s (i - s) * 32 + (sb (b (s + (i - s))) - 97 + 1).toInt64 = _
          rw [show s + (i - s) = i by omega]
        rw [e2, ← nI_1, ← hb2] at hK
        have e3 : u2 I 2 6 (nI i + 1) = u2 (u2 I 2 6 (nI i)) 2 6 (nI i + 1) := u2_2.symm
        have e4 : u2 L 2 8 (enc b s (i - s) * 32 + (I 3 i - 97 + 1).toInt64) = u2 (u2 L 2 8 (enc b s (i - s))) 2 8 (enc b s (i - s) * 32 + (I 3 i - 97 + 1).toInt64) := u2_2.symm
        rw [e3, e4] at hK
        exact hK
  refine Wf.gc tkX4_takeWord [5] ?_
  conv => whnf
  have q := loop s hs (Nat.le_refl _) (fin _ (fst_ge hs).2 rfl)
  have e0 : u2 I 2 6 (nI s) = I := by
    funext x y
    unfold u2
    split
    · rename_i z; rw [z.1, z.2, h6]
    · rfl
  rw [e0, Nat.sub_self] at q
  exact q
end TKC
