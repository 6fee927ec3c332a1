section RAC2
variable {l : Launch} {X : Nat × (Nat → Int32)} {d : Nat} {w : Nat × Nat} {p r : Nat} {I I' : Nat → Nat → Int32} {L : Nat → Nat → Int64} {kr : KR} {A : Ast} {N : Nat}
theorem c11 (g : Nat) : (11 + 4 * nI g + 1 : Int32) = nI (12 + 4 * g) := by
  rw [show (4 : Int32) * nI g = nI (4 * g) from nI_mul 4 g, show (11 : Int32) + nI (4 * g) = nI (11 + 4 * g) from nI_add 11 (4 * g), nI_s]
  rw [show 11 + 4 * g + 1 = 12 + 4 * g by omega]
set_option maxRecDepth 20000 in
theorem y_mend {f : Int32} (hR : RA A) (hA0 : AS7 A I) (h : ∀ I', AS7 (aMend A f).2 I' → kr (some (.int (aMend A f).1)) (mk w p r I' L)) : Ev l X uX7_mend (d + 3) true 0 0 [.ref 150, .int f] (mk w p r I L) kr := by
  obtain ⟨hF, hC⟩ := ra_FC hR
  refine Ev.of (by decide) (Nat.le_of_ble_eq_true rfl) ?_
  refine Wf.gc tkX7_mend [63, 69] ?_
  conv => whnf
  refine y_good ?_
  have hA := AS7_g hA0
  generalize hH : u2 (u2 I 150 0 0) 150 11 0 = H at hA
  have eF : H 153 4 = nI (A.1.1 4) := hA.2.1.1 4 (by decide) (by decide)
  have h14 : H 150 14 = 1 := hA.1
  conv => whnf
  refine y_isFace (d := d + 1) h14 eF (by omega) (fun g hg ef => ?_) (fun z => ?_)
  · have e0 : aMend A f = if A.2.1 g = 0 ∨ (A.2.1 g = nI (A.1.1 (12 + 4 * g)) ∧ A.2.1 (6 + g) = 0) then (0, A) else (1, (A.1, uR (uR A.2.1 g (nI (A.1.1 (12 + 4 * g)))) (6 + g) 0, psh A.2.2.1 A.2.1, A.2.2.2)) := by
      unfold aMend
      rw [show ixO (A.1.1 4) f = some g by rw [ef]; exact ixO_some hg (by omega)]
    have sg : H 157 g = A.2.1 g := hA.2.2.2.1 g (by omega)
    have sb' : H 157 (6 + g) = A.2.1 (6 + g) := hA.2.2.2.1 (6 + g) (by omega)
    have hh : H 153 (12 + 4 * g) = nI (A.1.1 (12 + 4 * g)) := hA.2.1.1 _ (by omega) (by omega)
    have n63 : (A.2.1 g = 0 ∨ (A.2.1 g = nI (A.1.1 (12 + 4 * g)) ∧ A.2.1 (6 + g) = 0)) → Wf l X uX7_mend (d + 3) true (mC (mk w p r I L) + 0, mS (mk w p r I L) + 0) 63 [(0, .ref 150), (1, .int (nI g)), (2, .int (nI (A.1.1 (12 + 4 * g))))] [] (mk w p r H L) kr := by
      intro z
      rw [e0, if_pos z] at h
      refine Wf.gc tkX7_mend [] ?_
      conv => whnf
      refine y_isNot ?_
      conv => whnf
      exact ⟨Or.inl rfl, h _ (AS7_11 hA 5)⟩
    have n69 : ¬ (A.2.1 g = 0 ∨ (A.2.1 g = nI (A.1.1 (12 + 4 * g)) ∧ A.2.1 (6 + g) = 0)) → Wf l X uX7_mend (d + 3) true (mC (mk w p r I L) + 0, mS (mk w p r I L) + 0) 69 [(0, .ref 150), (1, .int (nI g)), (2, .int (nI (A.1.1 (12 + 4 * g))))] [] (mk w p r H L) kr := by
      intro z
      rw [e0, if_neg z] at h
      refine Wf.gc tkX7_mend [] ?_
      conv => whnf
      refine y_note (d := d + 1) hR hA (fun J jo hJ => ?_)
      conv => whnf
      refine ⟨g, ⟨rfl, by omega, show g < 25 by omega⟩, ?_⟩
      conv => whnf
      refine ⟨6 + g, ⟨nI_add 6 g, by omega, show 6 + g < 25 by omega⟩, ?_⟩
      conv => whnf
      refine ⟨Or.inr rfl, ?_⟩
      refine h _ (AS7_st hJ (I' := u2 (u2 J 157 g (nI (A.1.1 (12 + 4 * g)))) 157 (6 + g) 0) (fun x i z => by rw [u2_o (by omega), u2_o (by omega)]) (fun i hi => ?_))
      by_cases e : i = 6 + g
      · subst e
        rw [u2_s, uR_s]
      · rw [u2_o (by omega), uR_o e]
        by_cases e2 : i = g
        · subst e2
          rw [u2_s, uR_s]
        · rw [u2_o (by omega), uR_o e2]
          exact hJ.2.2.2.1 i hi
    rw [ef]
    conv => whnf
    refine b1 (by decide) ?_
    conv => whnf
    refine ⟨12 + 4 * g, ⟨c11 g, by omega, show 12 + 4 * g < 202 by omega⟩, ?_⟩
    conv => whnf
    refine ⟨g, ⟨rfl, by omega, show g < 25 by omega⟩, ?_⟩
    conv => whnf
    refine ⟨fun y => ?_, fun y => ?_⟩
    · have y : H 157 g = 0 := y
      rw [sg] at y
      conv => whnf
      have q := n63 (Or.inl y)
      rw [← hh] at q
      exact q
    · have y : ¬ H 157 g = 0 := y
      rw [sg] at y
      conv => whnf
      refine ⟨g, ⟨rfl, by omega, show g < 25 by omega⟩, ?_⟩
      conv => whnf
      refine ⟨fun y2 => ?_, fun y2 => ?_⟩
      · have y2 : ¬ H 157 g = H 153 (12 + 4 * g) := y2
        rw [sg, hh] at y2
        conv => whnf
        have q := n69 (fun z => z.elim y (fun z => y2 z.1))
        rw [← hh] at q
        exact q
      · have y2 : H 157 g = H 153 (12 + 4 * g) := y2
        rw [sg, hh] at y2
        conv => whnf
        refine ⟨6 + g, ⟨nI_add 6 g, by omega, show 6 + g < 25 by omega⟩, ?_⟩
        conv => whnf
        refine ⟨fun y3 => ?_, fun y3 => ?_⟩
        · have y3 : ¬ H 157 (6 + g) = 0 := y3
          rw [sb'] at y3
          conv => whnf
          have q := n69 (fun z => z.elim y (fun z => y3 z.2))
          rw [← hh] at q
          exact q
        · have y3 : H 157 (6 + g) = 0 := y3
          rw [sb'] at y3
          conv => whnf
          have q := n63 (Or.inr ⟨y2, y3⟩)
          rw [← hh] at q
          exact q
  · have e0 : aMend A f = (0, A) := by
      unfold aMend
      rw [show ixO (A.1.1 4) f = none from ixO_none (by omega) z]
    rw [e0] at h
    conv => whnf
    refine b2 (fun z => z rfl) ?_
    conv => whnf
    refine y_isNot ?_
    conv => whnf
    exact ⟨Or.inl rfl, h _ (AS7_11 hA 1)⟩
set_option maxRecDepth 20000 in
theorem y_undo (hR : RA A) (hA0 : AS7 A I) (h : ∀ I', AS7 (aUndo A).2 I' → kr (some (.int (aUndo A).1)) (mk w p r I' L)) : Ev l X uX7_undo (d + 1) true 0 0 [.ref 150] (mk w p r I L) kr := by
  have h16 := hR.2.1.1
  refine Ev.of (by decide) (Nat.le_of_ble_eq_true rfl) ?_
  refine Wf.gc tkX7_undo [] ?_
  conv => whnf
  refine y_good ?_
  have hA := AS7_g hA0
  generalize hH : u2 (u2 I 150 0 0) 150 11 0 = H at hA
  have e22 : H 150 22 = nI A.2.2.1.length := hA.2.2.2.2.1
  unfold aUndo at h
  conv => whnf
  refine ⟨fun z => ?_, fun z => ?_⟩
  · have z : ¬ H 150 22 = 0 := z
    have hk : 0 < A.2.2.1.length := by
      rcases Nat.eq_zero_or_pos A.2.2.1.length with y | y
      · rw [e22, y] at z; exact absurd rfl z
      · exact y
    rw [if_neg (by omega)] at h
    conv => whnf
    show Ev l X uX7_copy d true 0 0 [.ref 158, .int (25 * u2 H 150 22 (H 150 22 - 1) 150 22), .ref 157, .int (nI 0), .int 25] (mk w p r (u2 H 150 22 (H 150 22 - 1)) L) _
    rw [u2_s, e22, nI_p1 hk, show (25 : Int32) * nI (A.2.2.1.length - 1) = nI (25 * (A.2.2.1.length - 1)) from nI_mul 25 _]
    refine y_cp_158_157 (s := 25 * (A.2.2.1.length - 1)) (t := 0) (by omega) (by decide) (fun K k1 k2 => ?_)
    conv => whnf
    refine ⟨Or.inr rfl, ?_⟩
    have ld : A.2.2.1.dropLast.length = A.2.2.1.length - 1 := List.length_dropLast
    have o : ∀ x i, ¬ (x = 157 ∧ i < 25) → ¬ (x = 150 ∧ i = 22) → K x i = H x i := fun x i z1 z2 => by rw [k1 x i (by omega), u2_o z2]
    obtain ⟨a1, a2, a3, a4, a5, a6, a7, a8⟩ := hA
    refine h _ ⟨by rw [o 150 14 (by omega) (by omega)]; exact a1, FS_cg a2 (fun i _ => o 153 i (by omega) (by omega)), FH_cg a3 (fun i _ => o 155 i (by omega) (by omega)), fun i hi => ?_, ?_, fun j hj i hi => ?_, by rw [o 150 23 (by omega) (by omega)]; exact a7, fun j hj i hi => by rw [o 159 _ (by omega) (by omega)]; exact a8 j hj i hi⟩
    · have q := k2 i hi
      rw [Nat.zero_add] at q
      rw [q, u2_o (by omega)]
      exact a6 _ (by omega) i hi
    · rw [k1 150 22 (by omega), u2_s]
      show _ = nI A.2.2.1.dropLast.length
      rw [ld]
    · have hj : j < A.2.2.1.dropLast.length := hj
      show K 158 (25 * j + i) = rD A.2.2.1.dropLast j i
      rw [ld] at hj
      rw [rD_dl hj, o 158 _ (by omega) (by omega)]
      exact a6 j (by omega) i hi
  · have z : H 150 22 = 0 := z
    have hk : A.2.2.1.length = 0 := by
      rw [e22] at z
      exact (nI_eq (by omega) (by decide)).mp (z.trans (show (0 : Int32) = nI 0 from rfl))
    rw [if_pos hk] at h
    conv => whnf
    refine y_isNot ?_
    conv => whnf
    exact ⟨Or.inl rfl, h _ (AS7_11 hA 6)⟩
set_option maxRecDepth 20000 in
theorem y_image (hR : RA A) (hA0 : AS7 A I) (h : ∀ I', AS7 (aImage A).2 I' → kr (some (.int (aImage A).1)) (mk w p r I' L)) : Ev l X uX7_image (d + 1) true 0 0 [.ref 150] (mk w p r I L) kr := by
  have h3 := hR.2.1.2
  refine Ev.of (by decide) (Nat.le_of_ble_eq_true rfl) ?_
  refine Wf.gc tkX7_image [] ?_
  conv => whnf
  refine y_good ?_
  have hA := AS7_g hA0
  generalize hH : u2 (u2 I 150 0 0) 150 11 0 = H at hA
  have e23 : H 150 23 = nI A.2.2.2.length := hA.2.2.2.2.2.2.1
  have h14 : H 150 14 = 1 := hA.1
  unfold aImage at h
  conv => whnf
  refine b1 (by show ¬ H 150 14 = 0; rw [h14]; decide) ?_
  conv => whnf
  refine ⟨fun z => ?_, fun z => ?_⟩
  · have z : ¬ H 150 23 = 3 := z
    have hk : A.2.2.2.length < 3 := by
      rcases Nat.lt_or_ge A.2.2.2.length 3 with y | y
      · exact y
      · exfalso
        apply z
        rw [e23, show A.2.2.2.length = 3 by omega]
        rfl
    rw [if_pos hk] at h
    conv => whnf
    show Ev l X uX7_copy d true 0 0 [.ref 157, .int (nI 0), .ref 159, .int (25 * H 150 23), .int 25] (mk w p r H L) _
    rw [e23, show (25 : Int32) * nI A.2.2.2.length = nI (25 * A.2.2.2.length) from nI_mul 25 _]
    refine y_cp_157_159 (s := 0) (t := 25 * A.2.2.2.length) (by decide) (by omega) (fun K k1 k2 => ?_)
    have k23 : K 150 23 = nI A.2.2.2.length := (k1 150 23 (by omega)).trans e23
    conv => whnf
    show kr (some (.int (u2 K 150 23 (K 150 23 + 1) 150 23 - 1))) (mk w p r (u2 K 150 23 (K 150 23 + 1)) L)
    rw [u2_s, k23, nI_s, nI_p1 (by omega), Nat.add_sub_cancel]
    have lg : (A.2.2.2 ++ [A.2.1]).length = A.2.2.2.length + 1 := List.length_append
    have o : ∀ x i, x ≠ 159 → ¬ (x = 150 ∧ i = 23) → u2 K 150 23 (nI (A.2.2.2.length + 1)) x i = H x i := fun x i z1 z2 => by rw [u2_o z2]; exact k1 x i (by omega)
    obtain ⟨a1, a2, a3, a4, a5, a6, a7, a8⟩ := hA
    refine h _ ⟨by rw [o 150 14 (by omega) (by omega)]; exact a1, FS_cg a2 (fun i _ => o 153 i (by omega) (by omega)), FH_cg a3 (fun i _ => o 155 i (by omega) (by omega)), fun i hi => by rw [o 157 i (by omega) (by omega)]; exact a4 i hi, by rw [o 150 22 (by omega) (by omega)]; exact a5, fun j hj i hi => by rw [o 158 _ (by omega) (by omega)]; exact a6 j hj i hi, by rw [u2_s]; show _ = nI (A.2.2.2 ++ [A.2.1]).length; rw [lg], fun j hj i hi => ?_⟩
    have hj : j < (A.2.2.2 ++ [A.2.1]).length := hj
    rw [lg] at hj
    show u2 K 150 23 (nI (A.2.2.2.length + 1)) 159 (25 * j + i) = rD (A.2.2.2 ++ [A.2.1]) j i
    rw [u2_o (by omega)]
    by_cases e : j = A.2.2.2.length
    · rw [rD_l e, e, k2 i hi, Nat.zero_add]
      exact a4 i hi
    · rw [rD_a (by omega), k1 159 _ (by omega)]
      exact a8 j (by omega) i hi
  · have z : H 150 23 = 3 := z
    have hk : ¬ A.2.2.2.length < 3 := by
      rw [e23] at z
      have := (nI_eq (by omega) (by decide)).mp (z.trans (show (3 : Int32) = nI 3 from rfl))
      omega
    rw [if_neg hk] at h
    conv => whnf
    refine y_no ?_
    conv => whnf
    exact h _ (AS7_11 hA 3)
set_option maxRecDepth 20000 in
theorem y_back {i : Int32} (hR : RA A) (hA0 : AS7 A I) (h : ∀ I', AS7 (aBack A i).2 I' → kr (some (.int (aBack A i).1)) (mk w p r I' L)) : Ev l X uX7_back (d + 1) true 0 0 [.ref 150, .int i] (mk w p r I L) kr := by
  have h3 := hR.2.1.2
  refine Ev.of (by decide) (Nat.le_of_ble_eq_true rfl) ?_
  refine Wf.gc tkX7_back [] ?_
  conv => whnf
  refine y_good ?_
  have hA := AS7_g hA0
  generalize hH : u2 (u2 I 150 0 0) 150 11 0 = H at hA
  have e23 : H 150 23 = nI A.2.2.2.length := hA.2.2.2.2.2.2.1
  conv => whnf
  show Ev l X uX7_in d true 0 0 [.int i, .int 0, .int (H 150 23 - 1)] (mk w p r H L) _
  rw [e23]
  refine y_in (fun z1 z2 => ?_) (fun z => ?_)
  · obtain ⟨j, hj, e⟩ := (in_ix (by omega)).mp ⟨z1, z2⟩
    subst e
    have e0 : aBack A (nI j) = (1, (A.1, rD A.2.2.2 j, [], A.2.2.2)) := by
      unfold aBack
      rw [ixO_some hj (by omega)]
    rw [e0] at h
    conv => whnf
    refine b1 (by decide) ?_
    conv => whnf
    show Ev l X uX7_copy d true 0 0 [.ref 159, .int (25 * nI j), .ref 157, .int (nI 0), .int 25] (mk w p r H L) _
    rw [show (25 : Int32) * nI j = nI (25 * j) from nI_mul 25 j]
    refine y_cp_159_157 (s := 25 * j) (t := 0) (by omega) (by decide) (fun K k1 k2 => ?_)
    conv => whnf
    refine ⟨Or.inr rfl, ?_⟩
    show kr (some (.int 1)) (mk w p r (u2 K 150 22 0) L)
    have o : ∀ x i, x ≠ 157 → ¬ (x = 150 ∧ i = 22) → u2 K 150 22 0 x i = H x i := fun x i z1 z2 => by rw [u2_o z2]; exact k1 x i (by omega)
    obtain ⟨a1, a2, a3, a4, a5, a6, a7, a8⟩ := hA
    refine h _ ⟨by rw [o 150 14 (by omega) (by omega)]; exact a1, FS_cg a2 (fun i _ => o 153 i (by omega) (by omega)), FH_cg a3 (fun i _ => o 155 i (by omega) (by omega)), fun i hi => ?_, u2_s, fun k hk => absurd hk (Nat.not_lt_zero _), by rw [o 150 23 (by omega) (by omega)]; exact a7, fun k hk i hi => by rw [o 159 _ (by omega) (by omega)]; exact a8 k hk i hi⟩
    have q := k2 i hi
    rw [Nat.zero_add] at q
    rw [u2_o (by omega), q]
    exact a8 j hj i hi
  · rw [in_ix (by omega)] at z
    have e0 : aBack A i = (0, A) := by
      unfold aBack
      rw [show ixO A.2.2.2.length i = none from ixO_none (by omega) z]
    rw [e0] at h
    conv => whnf
    refine b2 (fun z => z rfl) ?_
    conv => whnf
    refine y_isNot ?_
    conv => whnf
    exact ⟨Or.inl rfl, h _ (AS7_11 hA 1)⟩
end RAC2
