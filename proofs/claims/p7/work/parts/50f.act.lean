section ACT2
variable {l : Launch} {X : Nat × (Nat → Int32)} {d : Nat} {w : Nat × Nat} {p r : Nat} {I I' : Nat → Nat → Int32} {L : Nat → Nat → Int64} {kr : KR} {A : Ast}
theorem kkI {i : Nat} (hi : i < 3) : kk (mk w p r I L) (mR (mk w p r I L) 39 i) 2 = true := by
  rw [show mR (mk w p r I L) 39 i = 55 + 5 * (16 + i) from R39 (p := p) (r := r) hi]
  exact kkM (by omega)
set_option maxRecDepth 20000 in
theorem x_image (hp : p = 7 ∨ p = 20) (hR : RA A) (hA : AS6 A p I) (h : ∀ I', AS6 (aImage A).2 p I' → kr (some (.int (aImage A).1)) (mk w p r I' L)) : Ev l X uX6_image (d + 2) true 0 0 [.ref 1] (mk w p r I L) kr := by
  obtain ⟨hF, hC⟩ := ra_FC hR
  obtain ⟨x, hx, e5, hU⟩ := hA.2.2.1
  have e8 := hA.2.2.2.2.1
  have h3 := hR.2.1.2
  have eF : I p 4 = nI (A.1.1 4) := hA.1.1.2.2.2.2.1
  refine Ev.of (by decide) (Nat.le_of_ble_eq_true rfl) ?_
  refine Wf.gc tkX6_image [] ?_
  conv => whnf
  unfold aImage at h
  refine sX6_hasClose hp (fun z => ?_) (fun z => ?_)
  · conv => whnf
    refine b1 (by decide) ?_
    conv => whnf
    refine ⟨fun z => ?_, fun z => ?_⟩
    · have z : I 1 8 < 3 := z
      have hk : A.2.2.2.length < 3 := by
        rw [e8, show (3 : Int32) = nI 3 from rfl, nI_ltI (by omega) (by decide)] at z
        exact z
      rw [if_pos hk] at h
      conv => whnf
      refine ⟨A.2.2.2.length, ⟨e8, by omega, show A.2.2.2.length < 3 from hk⟩, ?_⟩
      conv => whnf
      rw [show mR (mk w p r I L) (mR (mk w p r I L) 1 7) A.2.2.2.length = 55 + 5 * (16 + A.2.2.2.length) from R39 (p := p) (r := r) hk, kkM (i := 16 + A.2.2.2.length) (by omega)]
      conv => whnf
      refine x_cp1 (i := 16 + A.2.2.2.length) (by omega) (fun J hJ => ?_)
      obtain ⟨j1, j2, j3, j4, j5⟩ := hJ
      have o : ∀ c i, ¬ (55 + 5 * (16 + A.2.2.2.length) ≤ c ∧ c ≤ 55 + 5 * (16 + A.2.2.2.length) + 4) → J c i = I c i := j1
      have e8' : J 1 8 = nI A.2.2.2.length := (o 1 8 (by omega)).trans e8
      conv => whnf
      refine sX6_answer ?_
      conv => whnf
      show kr (some (.int (u2 J 1 8 (J 1 8 + 1) 1 8 - 1))) (mk w p r (u2 (u2 J 1 8 (J 1 8 + 1)) 1 13 0) L)
      rw [u2_s, e8', nI_s, nI_p1 (by omega), Nat.add_sub_cancel]
      refine h _ (AS6_o hp (A := (A.1, A.2.1, A.2.2.1, A.2.2.2 ++ [A.2.1])) hR.1.1 (by rw [List.length_append]; exact hk) (I := u2 J 1 8 (nI (A.2.2.2.length + 1))) ?_ (fun c i z _ => u2_o z))
      have lg : (A.2.2.2 ++ [A.2.1]).length = A.2.2.2.length + 1 := List.length_append
      have o2 : ∀ c i, ¬ (55 + 5 * (16 + A.2.2.2.length) ≤ c ∧ c ≤ 55 + 5 * (16 + A.2.2.2.length) + 4) → ¬ (c = 1 ∧ i = 8) → u2 J 1 8 (nI (A.2.2.2.length + 1)) c i = I c i := fun c i z1 z2 => by rw [u2_o z2]; exact o c i z1
      refine ⟨PC_cq hp hR.1.1 hA.1 (fun a k z1 z2 _ => o2 a k (by omega) (by omega)), MR_o hA.2.1 (fun c i z1 z2 => o2 c i (by omega) (by omega)), ⟨x, hx, by rw [o2 1 5 (by omega) (by omega)]; exact e5, fun j hj => by
        have kl := kSl_lt (x := x) (k := A.2.2.1.length) (j := j)
        show MR (A.1.1 4) (A.1.1 5) (55 + 5 * kSl x A.2.2.1.length j) (rD A.2.2.1 j) _
        exact MR_o (hU j hj) (fun c i z1 z2 => o2 c i (by omega) (by omega))⟩, by rw [o2 1 6 (by omega) (by omega)]; exact hA.2.2.2.1, by rw [u2_s]; show _ = nI (A.2.2.2 ++ [A.2.1]).length; rw [lg], fun j hj => ?_⟩
      have hj : j < (A.2.2.2 ++ [A.2.1]).length := hj
      rw [lg] at hj
      show MR (A.1.1 4) (A.1.1 5) (55 + 5 * (16 + j)) (rD (A.2.2.2 ++ [A.2.1]) j) _
      by_cases e : j = A.2.2.2.length
      · rw [rD_l e, e]
        have hm : MR (A.1.1 4) (A.1.1 5) (55 + 5 * (16 + A.2.2.2.length)) A.2.1 J := MR_cp hF hC hA.2.1 j2 j3 j4 j5
        exact MR_o hm (fun c i z1 z2 => u2_o (by omega))
      · rw [rD_a (by omega)]
        exact MR_o (hA.2.2.2.2.2 j (by omega)) (fun c i z1 z2 => o2 c i (by omega) (by omega))
    · have z : ¬ I 1 8 < 3 := z
      have hk : ¬ A.2.2.2.length < 3 := by
        rw [e8, show (3 : Int32) = nI 3 from rfl, nI_ltI (by omega) (by decide)] at z
        exact z
      rw [if_neg hk] at h
      conv => whnf
      refine sX6_refuse ?_
      conv => whnf
      exact h _ (AS6_13 hp hR hA 3)
  · exact absurd (by rw [eF, show (0 : Int32) = nI 0 from rfl, nI_ltI (by decide) (by omega)]; exact hR.1.2.2) z
set_option maxRecDepth 20000 in
theorem x_back {i : Int32} (hp : p = 7 ∨ p = 20) (hR : RA A) (hA : AS6 A p I) (h : ∀ I', AS6 (aBack A i).2 p I' → kr (some (.int (aBack A i).1)) (mk w p r I' L)) : Ev l X uX6_back (d + 2) true 0 0 [.ref 1, .int i] (mk w p r I L) kr := by
  obtain ⟨hF, hC⟩ := ra_FC hR
  obtain ⟨x, hx, e5, hU⟩ := hA.2.2.1
  have e8 := hA.2.2.2.2.1
  have h3 := hR.2.1.2
  refine Ev.of (by decide) (Nat.le_of_ble_eq_true rfl) ?_
  refine Wf.gc tkX6_back [12] ?_
  have no : (¬ ∃ j, j < A.2.2.2.length ∧ i = nI j) → Wf l X uX6_back (d + 2) true (mC (mk w p r I L) + 0, mS (mk w p r I L) + 0) 12 [(0, .ref 1), (1, .int i)] [] (mk w p r I L) kr := by
    intro z
    have e0 : aBack A i = (0, A) := by
      unfold aBack
      rw [show ixO A.2.2.2.length i = none from ixO_none (by omega) z]
    rw [e0] at h
    refine Wf.gc tkX6_back [] ?_
    conv => whnf
    refine sX6_refuse ?_
    conv => whnf
    exact ⟨Or.inl rfl, h _ (AS6_13 hp hR hA 1)⟩
  conv => whnf
  refine ⟨fun z => ?_, fun z => ?_⟩
  · have z : i < 0 := z
    conv => whnf
    exact no (not_ix (by omega) (Or.inl z))
  · have z : ¬ i < 0 := z
    conv => whnf
    refine ⟨fun z2 => ?_, fun z2 => ?_⟩
    · have z2 : i < I 1 8 := z2
      rw [e8] at z2
      obtain ⟨j, hj, e⟩ := le_nI (n := A.2.2.2.length) (by omega) z (fun y => absurd z2 (Int32.not_lt.mpr y))
      subst e
      have e0 : aBack A (nI j) = (1, (A.1, rD A.2.2.2 j, [], A.2.2.2)) := by
        unfold aBack
        rw [ixO_some hj (by omega)]
      rw [e0] at h
      conv => whnf
      refine ⟨j, ⟨rfl, by omega, show j < 3 by omega⟩, ?_⟩
      conv => whnf
      show Ev l X uX2_copy (d + 1) true 0 0 [.ref 33, .ref (mR (mk w p r I L) 39 j)] (mk w p r I L) _
      rw [show mR (mk w p r I L) 39 j = 55 + 5 * (16 + j) from R39 (p := p) (r := r) (by omega)]
      refine x_cp2 (i := 16 + j) (by omega) (fun J hJ => ?_)
      obtain ⟨j1, j2, j3, j4, j5⟩ := hJ
      conv => whnf
      refine sX6_answer ?_
      conv => whnf
      refine ⟨Or.inr rfl, ?_⟩
      have o : ∀ c i, ¬ (33 ≤ c ∧ c ≤ 37) → ¬ (c = 1 ∧ i = 6) → u2 J 1 6 0 c i = I c i := fun c i z1 z2 => by rw [u2_o z2]; exact j1 c i (by omega)
      refine h _ (AS6_o hp hR.1.1 h3 (I := u2 J 1 6 0) (A := (A.1, rD A.2.2.2 j, [], A.2.2.2)) ?_ (fun c i z _ => u2_o z))
      have hm : MR (A.1.1 4) (A.1.1 5) 33 (rD A.2.2.2 j) J := MR_cp hF hC (hA.2.2.2.2.2 j hj) j2 j3 j4 j5
      refine ⟨PC_cq hp hR.1.1 hA.1 (fun a k z1 z2 _ => o a k (by omega) (by omega)), MR_o hm (fun c i z1 z2 => u2_o (by omega)), ⟨x, hx, by rw [o 1 5 (by omega) (by omega)]; exact e5, fun k hk => absurd hk (Nat.not_lt_zero _)⟩, u2_s, by rw [o 1 8 (by omega) (by omega)]; exact e8, fun k hk => MR_o (hA.2.2.2.2.2 k hk) (fun c i z1 z2 => o c i (by have : k < A.2.2.2.length := hk; omega) (by omega))⟩
    · have z2 : ¬ i < I 1 8 := z2
      rw [e8] at z2
      conv => whnf
      exact no (not_ix (by omega) (Or.inr (Int32.not_lt.mp z2)))
end ACT2
