/-! the reference's acts: what each does to the plain state -/
section RAC
variable {l : Launch} {X : Nat × (Nat → Int32)} {d : Nat} {w : Nat × Nat} {p r : Nat} {I I' : Nat → Nat → Int32} {L : Nat → Nat → Int64} {kr : KR} {A : Ast} {N : Nat}
theorem AS7_o (h : AS7 A I) (he : ∀ x i, ((x = 150 ∧ (i = 14 ∨ i = 22 ∨ i = 23)) ∨ x = 153 ∨ x = 155 ∨ x = 157 ∨ x = 158 ∨ x = 159) → I' x i = I x i) : AS7 A I' := by
  obtain ⟨a1, a2, a3, a4, a5, a6, a7, a8⟩ := h
  exact ⟨by rw [he 150 14 (by omega)]; exact a1, FS_cg a2 (fun i _ => he 153 i (by omega)), FH_cg a3 (fun i _ => he 155 i (by omega)), fun i hi => by rw [he 157 i (by omega)]; exact a4 i hi, by rw [he 150 22 (by omega)]; exact a5, fun j hj i hi => by rw [he 158 _ (by omega)]; exact a6 j hj i hi, by rw [he 150 23 (by omega)]; exact a7, fun j hj i hi => by rw [he 159 _ (by omega)]; exact a8 j hj i hi⟩
theorem AS7_st {P : Ps} {S S' : Rw} {U G : List Rw} (h : AS7 (P, S, U, G) I) (he : ∀ x i, x ≠ 157 → I' x i = I x i) (hs : ∀ i, i < 25 → I' 157 i = S' i) : AS7 (P, S', U, G) I' := by
  obtain ⟨a1, a2, a3, a4, a5, a6, a7, a8⟩ := h
  exact ⟨by rw [he 150 14 (by omega)]; exact a1, FS_cg a2 (fun i _ => he 153 i (by omega)), FH_cg a3 (fun i _ => he 155 i (by omega)), hs, by rw [he 150 22 (by omega)]; exact a5, fun j hj i hi => by rw [he 158 _ (by omega)]; exact a6 j hj i hi, by rw [he 150 23 (by omega)]; exact a7, fun j hj i hi => by rw [he 159 _ (by omega)]; exact a8 j hj i hi⟩
theorem in_ix {f : Int32} (hN : N < 1000) : (0 ≤ f ∧ f ≤ nI N - 1) ↔ ∃ j, j < N ∧ f = nI j := by
  rcases Nat.eq_zero_or_pos N with rfl | hp
  · constructor
    · rintro ⟨h1, h2⟩
      exfalso
      have h2 : f ≤ -1 := h2
      rw [Int32.le_iff_toInt_le] at h1 h2
      have e0 : (0 : Int32).toInt = 0 := rfl
      have e1 : (-1 : Int32).toInt = -1 := rfl
      omega
    · rintro ⟨j, hj, -⟩
      omega
  · rw [nI_p1 hp]
    constructor
    · rintro ⟨h1, h2⟩
      rw [Int32.le_iff_toInt_le] at h1 h2
      have e0 : (0 : Int32).toInt = 0 := rfl
      have e1 : (nI (N - 1)).toInt = ((N - 1 : Nat) : Int) := nI_toInt (by omega)
      exact ⟨f.toInt.toNat, by omega, nI_at (by omega) (by omega)⟩
    · rintro ⟨j, hj, rfl⟩
      rw [show (0 : Int32) = nI 0 from rfl, nI_leI (by decide) (by omega), nI_leI (by omega) (by omega)]
      omega
set_option maxRecDepth 20000 in
theorem y_isFace {f : Int32} (h14 : I 150 14 = 1) (hN : I 153 4 = nI N) (hb : N < 1000) (h1 : ∀ j, j < N → f = nI j → kr (some (.int 1)) (mk w p r I L)) (h0 : (¬ ∃ j, j < N ∧ f = nI j) → kr (some (.int 0)) (mk w p r I L)) : Ev l X uX7_isFace (d + 1) true 0 0 [.ref 150, .int f] (mk w p r I L) kr := by
  refine Ev.of (by decide) (Nat.le_of_ble_eq_true rfl) ?_
  refine Wf.gc tkX7_isFace [] ?_
  conv => whnf
  refine b2' (by show ¬ I 150 14 = 0; rw [h14]; decide) ?_
  conv => whnf
  refine ⟨4, ⟨rfl, by decide, show 4 < 202 by decide⟩, ?_⟩
  conv => whnf
  show Ev l X uX7_in d true 0 0 [.int f, .int 0, .int (I 153 4 - 1)] (mk w p r I L) _
  rw [hN]
  refine y_in (fun z1 z2 => ?_) (fun z => ?_)
  · obtain ⟨j, hj, e⟩ := (in_ix hb).mp ⟨z1, z2⟩
    conv => whnf
    refine b2' (by decide) ?_
    conv => whnf
    exact ⟨Or.inr rfl, h1 j hj e⟩
  · rw [in_ix hb] at z
    conv => whnf
    refine b1' rfl ?_
    conv => whnf
    exact ⟨Or.inl rfl, h0 z⟩
set_option maxRecDepth 20000 in
theorem y_isCanon {f : Int32} (h14 : I 150 14 = 1) (hN : I 153 5 = nI N) (hb : N < 1000) (h1 : ∀ j, j < N → f = nI j → kr (some (.int 1)) (mk w p r I L)) (h0 : (¬ ∃ j, j < N ∧ f = nI j) → kr (some (.int 0)) (mk w p r I L)) : Ev l X uX7_isCanon (d + 1) true 0 0 [.ref 150, .int f] (mk w p r I L) kr := by
  refine Ev.of (by decide) (Nat.le_of_ble_eq_true rfl) ?_
  refine Wf.gc tkX7_isCanon [] ?_
  conv => whnf
  refine b2' (by show ¬ I 150 14 = 0; rw [h14]; decide) ?_
  conv => whnf
  refine ⟨5, ⟨rfl, by decide, show 5 < 202 by decide⟩, ?_⟩
  conv => whnf
  show Ev l X uX7_in d true 0 0 [.int f, .int 0, .int (I 153 5 - 1)] (mk w p r I L) _
  rw [hN]
  refine y_in (fun z1 z2 => ?_) (fun z => ?_)
  · obtain ⟨j, hj, e⟩ := (in_ix hb).mp ⟨z1, z2⟩
    conv => whnf
    refine b2' (by decide) ?_
    conv => whnf
    exact ⟨Or.inr rfl, h1 j hj e⟩
  · rw [in_ix hb] at z
    conv => whnf
    refine b1' rfl ?_
    conv => whnf
    exact ⟨Or.inl rfl, h0 z⟩
set_option maxRecDepth 20000 in
theorem y_isNot {v : Int32} (h : kr (some (.int 0)) (mk w p r (u2 I 150 11 v) L)) : Ev l X uX7_isNot d true 0 0 [.ref 150, .int v] (mk w p r I L) kr := by
  refine Ev.of (by decide) (Nat.le_of_ble_eq_true rfl) ?_
  refine Wf.gc tkX7_isNot [] ?_
  conv => whnf
  exact ⟨Or.inl rfl, h⟩
set_option maxRecDepth 20000 in
theorem y_canonOf {S : Rw} {f : Int32} (hN : I 153 5 = nI N) (hb : N ≤ 5) (hS : ∀ i, i < 25 → I 157 i = S i) (h : kr (some (.int (oI (cnS N S f)))) (mk w p r I L)) : Ev l X uX7_canonOf d true 0 0 [.ref 150, .int f] (mk w p r I L) kr := by
  refine Ev.of (by decide) (Nat.le_of_ble_eq_true rfl) ?_
  refine Wf.gc tkX7_canonOf [2] ?_
  conv => whnf
  refine srch (e := N) (P := fun c => decide (S (18 + c) = f)) (Wi := fun k => Wf l X uX7_canonOf d true (mC (mk w p r I L) + 0, mS (mk w p r I L) + 0) 2 [(0, .ref 150), (1, .int f), (2, .int (nI k))] [] (mk w p r I L) kr) (K := fun o => o = cnS N S f) (fun ho => ?_) (fun k hk => ⟨fun hP ho => ?_, fun hP ih => ?_⟩) 0 (Nat.zero_le _) rfl
  · refine Wf.gc tkX7_canonOf [] ?_
    conv => whnf
    refine ⟨5, ⟨rfl, by decide, show 5 < 202 by decide⟩, ?_⟩
    conv => whnf
    refine b1' (by show I 153 5 ≤ nI N; rw [hN]; exact Int32.le_refl _) ?_
    conv => whnf
    rw [← ho] at h
    exact h
  · refine Wf.gc tkX7_canonOf [] ?_
    conv => whnf
    refine ⟨5, ⟨rfl, by decide, show 5 < 202 by decide⟩, ?_⟩
    conv => whnf
    refine b2' (by show ¬ I 153 5 ≤ nI k; rw [hN, nI_leI (by omega) (by omega)]; omega) ?_
    conv => whnf
    refine ⟨18 + k, ⟨nI_add 18 k, by omega, show 18 + k < 25 by omega⟩, ?_⟩
    conv => whnf
    have hP : S (18 + k) = f := of_decide_eq_true hP
    refine b2 (fun z => z (by show I 157 (18 + k) = f; rw [hS _ (by omega)]; exact hP)) ?_
    conv => whnf
    rw [← ho] at h
    exact h
  · refine Wf.gc tkX7_canonOf [2] ?_
    conv => whnf
    refine ⟨5, ⟨rfl, by decide, show 5 < 202 by decide⟩, ?_⟩
    conv => whnf
    refine b2' (by show ¬ I 153 5 ≤ nI k; rw [hN, nI_leI (by omega) (by omega)]; omega) ?_
    conv => whnf
    refine ⟨18 + k, ⟨nI_add 18 k, by omega, show 18 + k < 25 by omega⟩, ?_⟩
    conv => whnf
    have hP : ¬ S (18 + k) = f := of_decide_eq_false hP
    refine b1 (fun z => hP (by rw [← hS _ (by omega)]; exact z)) ?_
    conv => whnf
    show Wf l X uX7_canonOf d true (mC (mk w p r I L) + 0, mS (mk w p r I L) + 0) 2 [(0, .ref 150), (1, .int f), (2, .int (nI k + 1))] [] (mk w p r I L) kr
    rw [nI_s]
    exact ih
theorem oI_ge {C : Nat} {S : Rw} {f : Int32} (hC : C ≤ 5) : 0 ≤ oI (cnS C S f) ↔ ¬ cnS C S f = none := by
  cases hq : cnS C S f with
  | none => exact ⟨fun z => absurd z (by decide), fun z => absurd rfl z⟩
  | some c =>
    have hc := (ff_lt hq).2.1
    refine ⟨(fun _ z => by cases z), fun _ => ?_⟩
    show 0 ≤ nI c
    rw [show (0 : Int32) = nI 0 from rfl, nI_leI (by decide) (by omega)]
    exact Nat.zero_le _
theorem AS7_g (h : AS7 A I) : AS7 A (u2 (u2 I 150 0 0) 150 11 0) := AS7_o h (fun x i z => by rw [u2_o (by omega), u2_o (by omega)])
theorem AS7_11 (h : AS7 A I) (v : Int32) : AS7 A (u2 I 150 11 v) := AS7_o h (fun x i z => by rw [u2_o (by omega)])
set_option maxRecDepth 20000 in
theorem y_give {c f : Int32} (hR : RA A) (hA0 : AS7 A I) (h : ∀ I', AS7 (aGive A c f).2 I' → kr (some (.int (aGive A c f).1)) (mk w p r I' L)) : Ev l X uX7_give (d + 3) true 0 0 [.ref 150, .int c, .int f] (mk w p r I L) kr := by
  obtain ⟨hF, hC⟩ := ra_FC hR
  refine Ev.of (by decide) (Nat.le_of_ble_eq_true rfl) ?_
  refine Wf.gc tkX7_give [20, 43] ?_
  conv => whnf
  refine y_good ?_
  have hA := AS7_g hA0
  generalize hH : u2 (u2 I 150 0 0) 150 11 0 = H at hA
  have eF : H 153 4 = nI (A.1.1 4) := hA.2.1.1 4 (by decide) (by decide)
  have eC : H 153 5 = nI (A.1.1 5) := hA.2.1.1 5 (by decide) (by decide)
  have h14 : H 150 14 = 1 := hA.1
  have no : ∀ v : Int32, aGive A c f = (-1, A) → kr (some (.int (-1))) (mk w p r (u2 H 150 11 v) L) := by
    intro v e
    rw [e] at h
    exact h _ (AS7_11 hA v)
  have n20 : aGive A c f = (-1, A) → Wf l X uX7_give (d + 3) true (mC (mk w p r I L) + 0, mS (mk w p r I L) + 0) 20 [(0, .ref 150), (1, .int c), (2, .int f)] [] (mk w p r H L) kr := by
    intro e
    refine Wf.gc tkX7_give [] ?_
    conv => whnf
    refine y_no ?_
    conv => whnf
    exact no 1 e
  have n43 : aGive A c f = (-1, A) → Wf l X uX7_give (d + 3) true (mC (mk w p r I L) + 0, mS (mk w p r I L) + 0) 43 [(0, .ref 150), (1, .int c), (2, .int f)] [] (mk w p r H L) kr := by
    intro e
    refine Wf.gc tkX7_give [] ?_
    conv => whnf
    refine y_no ?_
    conv => whnf
    exact no 5 e
  conv => whnf
  refine y_isCanon (d := d + 1) h14 eC (by omega) (fun j hj ec => ?_) (fun z => ?_)
  · conv => whnf
    refine b2' (by decide) ?_
    conv => whnf
    refine y_isFace (d := d + 1) h14 eF (by omega) (fun g hg ef => ?_) (fun z => ?_)
    · have e0 : aGive A c f = if cnS (A.1.1 5) A.2.1 f = none ∧ ¬ A.2.1 g = 0 then (A.2.1 (18 + j), (A.1, uR A.2.1 (18 + j) f, psh A.2.2.1 A.2.1, A.2.2.2)) else (-1, A) := by
        unfold aGive
        rw [show ixO (A.1.1 5) c = some j by rw [ec]; exact ixO_some hj (by omega), show ixO (A.1.1 4) f = some g by rw [ef]; exact ixO_some hg (by omega)]
      conv => whnf
      refine b1 (by decide) ?_
      conv => whnf
      refine y_canonOf eC hC hA.2.2.2.1 ?_
      conv => whnf
      refine ⟨fun z => ?_, fun z => ?_⟩
      · have z : 0 ≤ oI (cnS (A.1.1 5) A.2.1 f) := z
        rw [oI_ge hC] at z
        conv => whnf
        exact n43 (by rw [e0, if_neg (fun y => z y.1)])
      · have z : ¬ 0 ≤ oI (cnS (A.1.1 5) A.2.1 f) := z
        rw [oI_ge hC, Decidable.not_not] at z
        have sg : H 157 g = A.2.1 g := hA.2.2.2.1 g (by omega)
        conv => whnf
        rw [ef]
        refine ⟨g, ⟨rfl, by omega, show g < 25 by omega⟩, ?_⟩
        conv => whnf
        refine ⟨fun y => ?_, fun y => ?_⟩
        · have y : ¬ H 157 g = 0 := y
          rw [sg] at y
          rw [e0, if_pos ⟨z, y⟩] at h
          conv => whnf
          refine y_note (d := d + 1) hR hA (fun J jo hJ => ?_)
          have j18 : J 157 (18 + j) = A.2.1 (18 + j) := hJ.2.2.2.1 _ (by omega)
          conv => whnf
          rw [ec]
          refine ⟨18 + j, ⟨nI_add 18 j, by omega, show 18 + j < 25 by omega⟩, ?_⟩
          conv => whnf
          refine ⟨18 + j, ⟨nI_add 18 j, by omega, show 18 + j < 25 by omega⟩, ?_⟩
          conv => whnf
          show kr (some (.int (J 157 (18 + j)))) (mk w p r (u2 J 157 (18 + j) (nI g)) L)
          rw [j18]
          refine h _ (AS7_st hJ (fun x i z => u2_o (by omega)) (fun i hi => ?_))
          by_cases e : i = 18 + j
          · subst e
            rw [u2_s, uR_s, ef]
          · rw [u2_o (by omega), uR_o e]
            exact hJ.2.2.2.1 i hi
        · have y : H 157 g = 0 := y
          rw [sg] at y
          conv => whnf
          have q := n43 (by rw [e0, if_neg (fun y' => y'.2 y)])
          rw [ef] at q
          exact q
    · conv => whnf
      refine b2 (fun z => z rfl) ?_
      conv => whnf
      refine n20 ?_
      unfold aGive
      rw [show ixO (A.1.1 4) f = none from ixO_none (by omega) z]
      split <;> simp_all
  · conv => whnf
    refine b1' rfl ?_
    conv => whnf
    refine n20 ?_
    unfold aGive
    rw [show ixO (A.1.1 5) c = none from ixO_none (by omega) z]
end RAC
