/-! days to come: rows one after another -/
section AHD
variable {l : Launch} {X : Nat × (Nat → Int32)} {d : Nat} {w : Nat × Nat} {p r : Nat} {I : Nat → Nat → Int32} {L : Nat → Nat → Int64} {kr : KR} {M : Mm} {o : Ost} {A : Ast} {P : Ps} {S : Rw}
def itR (P : Ps) (S : Rw) : Nat → Rw
  | 0 => S
  | n + 1 => nR P (itR P S n)
theorem nR_18 (hF : P.1 4 ≤ 6) {c : Nat} (hc : c < 5) : nR P S (18 + c) = S (18 + c) := by
  unfold nR
  rw [if_neg (by omega), if_neg (by omega), if_neg (by omega), if_neg (by omega), if_neg (by omega)]
theorem nx_hg (hP : PI P.1) (hS : RIg P S) {f : Nat} (hf : f < P.1 4) : ∃ h, h ≤ 99 ∧ (nxF P S f).2.1 = nI h := by
  obtain ⟨h, h9, eh⟩ := hS.1 f hf
  obtain ⟨-, w9, -, -⟩ := hP.1 f hf
  unfold nxF cSt
  dsimp only
  split
  · exact ⟨h, h9, eh⟩
  · split
    · exact ⟨h, h9, eh⟩
    · split
      · exact ⟨0, by decide, rfl⟩
      · rename_i z
        rw [eh] at z ⊢
        rcases Nat.lt_or_ge h (P.1 (13 + 4 * f)) with y | y
        · exfalso
          apply z
          rw [Int32.lt_iff_toInt_lt]
          have e1 : (1 : Int32).toInt = 1 := rfl
          have e2 : (nI h).toInt = h := nI_toInt (by omega)
          have e3 : (nI (P.1 (13 + 4 * f))).toInt = (P.1 (13 + 4 * f) : Nat) := nI_toInt (by omega)
          have lo : iLo ≤ -10 := by decide
          have hi : (100 : Int) ≤ iHi := by decide
          rw [sub_i (by rw [e2, e3]; omega) (by rw [e2, e3]; omega), e1, e2, e3]
          omega
        · exact ⟨h - P.1 (13 + 4 * f), by omega, nI_sub y⟩
theorem RIg_n (hF : P.1 4 ≤ 6) (hC : P.1 5 ≤ 5) (hP : PI P.1) (hS : RIg P S) : RIg P (nR P S) := by
  refine ⟨fun f hf => ?_, fun c hc => ?_, fun c1 c2 y1 y2 => ?_, trivial⟩
  · show ∃ h, h ≤ 99 ∧ nR P S f = nI h
    unfold nR
    rw [if_pos hf]
    exact nx_hg hP hS hf
  · rw [nR_18 hF (by omega)]; exact hS.2.1 c hc
  · rw [nR_18 hF (by omega), nR_18 hF (by omega)]; exact hS.2.2.1 c1 c2 y1 y2
theorem RIg_it (hF : P.1 4 ≤ 6) (hC : P.1 5 ≤ 5) (hP : PI P.1) (hS : RIg P S) : ∀ n, RIg P (itR P S n)
  | 0 => hS
  | n + 1 => RIg_n hF hC hP (RIg_it hF hC hP hS n)
set_option maxRecDepth 20000 in
theorem y_daysOn {N : Nat} (hN : N < 1000) (hR : RA A) (hA : AS7 A I) (h : ∀ K : Nat → Nat → Int32, (∀ x i, x ≠ 160 → x ≠ 161 → K x i = I x i) → (∀ c, c < A.1.1 5 → K 160 c = vx0 A.1 c) → (∀ j, j < 25 → K 161 j = itR A.1 A.2.1 N j) → kr none (mk w p r K L)) : Ev l X uX7_daysOn (d + 2) true 0 0 [.ref 150, .int (nI N)] (mk w p r I L) kr := by
  obtain ⟨hF, hC⟩ := ra_FC hR
  have hU4 : A.1.1 7 ≤ 4 := hR.1.1.1.1.1.2.2.2.2.2.2
  refine Ev.of (by decide) (Nat.le_of_ble_eq_true rfl) ?_
  refine Wf.gc tkX7_daysOn [22] ?_
  conv => whnf
  refine y_vexed0 (N := A.1.1 5) (U := A.1.1 7) (F := A.1.1) (hA.2.1.1 5 (by decide) (by decide)) hC (hA.2.1.1 7 (by decide) (by decide)) hU4 (fun c hc => hA.2.1.1 (35 + 2 * c) (by omega) (by omega)) (fun K k1 k2 => ?_)
  conv => whnf
  refine y_cp_157_161 (s := 0) (t := 0) (by decide) (by decide) (fun J j1 j2 => ?_)
  conv => whnf
  refine down (fun n => ∀ Q : Nat → Nat → Int32, (∀ x i, x ≠ 160 → x ≠ 161 → Q x i = I x i) → (∀ c, c < A.1.1 5 → Q 160 c = vx0 A.1 c) → (∀ j, j < 25 → Q 161 j = itR A.1 A.2.1 n j) → Wf l X uX7_daysOn (d + 2) true (mC (mk w p r I L) + 0, mS (mk w p r I L) + 0) 22 [(0, .ref 150), (1, .int (nI N)), (2, .int (nI n))] [] (mk w p r Q L) kr) N ?_ ?_ 0 (Nat.zero_le _) J (fun x i z1 z2 => by rw [j1 x i (by omega), k1 x i (by omega)]) (fun c hc => by rw [j1 160 c (by omega)]; exact k2 c hc) (fun j hj => ?_)
  · intro Q q1 q2 q3
    refine Wf.gc tkX7_daysOn [] ?_
    conv => whnf
    refine b1' (Int32.le_refl _) ?_
    conv => whnf
    exact h Q q1 q2 q3
  · intro n hn ih Q q1 q2 q3
    refine Wf.gc tkX7_daysOn [22] ?_
    conv => whnf
    refine b2' (by show ¬ nI N ≤ nI n; rw [nI_leI (by omega) (by omega)]; omega) ?_
    conv => whnf
    refine y_dayOn_161 (P := A.1) (S := itR A.1 A.2.1 n) (V := vx0 A.1) (calm := false) hR.1.1 hR.1.2.1 (RIg_it hF hC hR.1.2.1 hR.2.2.1.g n) (FS_cg hA.2.1 (fun k _ => q1 153 k (by decide) (by decide))) q2 q3 (fun K' w1 w2 => ?_)
    rw [nR_g] at w2
    conv => whnf
    show Wf l X uX7_daysOn (d + 2) true (mC (mk w p r I L) + 0, mS (mk w p r I L) + 0) 22 [(0, .ref 150), (1, .int (nI N)), (2, .int (nI n + 1))] [] (mk w p r K' L) kr
    rw [nI_s]
    exact ih K' (fun x i z1 z2 => by rw [w1 x i z2]; exact q1 x i z1 z2) (fun c hc => by rw [w1 160 c (by decide)]; exact q2 c hc) w2
  · have q := j2 j hj
    rw [Nat.zero_add] at q
    rw [q, k1 157 j (by omega)]
    exact hA.2.2.2.1 j hj
/-- a face's course and the rows are the same -/
theorem it_F (hF : P.1 4 ≤ 6) (hC : P.1 5 ≤ 5) {f : Nat} (hf : f < P.1 4) : ∀ n, (itR P S n 23 = (cIt (nI (P.1 (11 + 4 * f))) (nI (P.1 (13 + 4 * f))) (vxP P (cnS (P.1 5) S (nI f))) (evP P (cnS (P.1 5) S (nI f))) (S 23, S f, S (6 + f), 0) n).1) ∧ (itR P S n f = (cIt (nI (P.1 (11 + 4 * f))) (nI (P.1 (13 + 4 * f))) (vxP P (cnS (P.1 5) S (nI f))) (evP P (cnS (P.1 5) S (nI f))) (S 23, S f, S (6 + f), 0) n).2.1) ∧ (itR P S n (6 + f) = (cIt (nI (P.1 (11 + 4 * f))) (nI (P.1 (13 + 4 * f))) (vxP P (cnS (P.1 5) S (nI f))) (evP P (cnS (P.1 5) S (nI f))) (S 23, S f, S (6 + f), 0) n).2.2.1) ∧ (itR P S n (12 + f) = S (12 + f) + (cIt (nI (P.1 (11 + 4 * f))) (nI (P.1 (13 + 4 * f))) (vxP P (cnS (P.1 5) S (nI f))) (evP P (cnS (P.1 5) S (nI f))) (S 23, S f, S (6 + f), 0) n).2.2.2) ∧ (∀ c, c < P.1 5 → itR P S n (18 + c) = S (18 + c))
  | 0 => ⟨rfl, rfl, rfl, (Int32.add_zero _).symm, fun _ _ => rfl⟩
  | n + 1 => by
    obtain ⟨a1, a2, a3, a4, a5⟩ := it_F hF hC hf n
    have ec : cnS (P.1 5) (itR P S n) (nI f) = cnS (P.1 5) S (nI f) := by
      unfold cnS
      refine ff_cong (fun j _ hj => ?_)
      rw [a5 j (by omega)]
    generalize hY : cIt (nI (P.1 (11 + 4 * f))) (nI (P.1 (13 + 4 * f))) (vxP P (cnS (P.1 5) S (nI f))) (evP P (cnS (P.1 5) S (nI f))) (S 23, S f, S (6 + f), 0) n = y at a1 a2 a3 a4
    have eY : cIt (nI (P.1 (11 + 4 * f))) (nI (P.1 (13 + 4 * f))) (vxP P (cnS (P.1 5) S (nI f))) (evP P (cnS (P.1 5) S (nI f))) (S 23, S f, S (6 + f), 0) (n + 1) = cSt (nI (P.1 (11 + 4 * f))) (nI (P.1 (13 + 4 * f))) (vxP P (cnS (P.1 5) S (nI f))) (evP P (cnS (P.1 5) S (nI f))) false y := by
      show cSt _ _ _ _ false (cIt _ _ _ _ _ n) = _
      rw [hY]
    have eX : nxF P (itR P S n) f = cSt (nI (P.1 (11 + 4 * f))) (nI (P.1 (13 + 4 * f))) (vxP P (cnS (P.1 5) S (nI f))) (evP P (cnS (P.1 5) S (nI f))) false (y.1, y.2.1, y.2.2.1, 0) := by
      unfold nxF
      rw [ec, a1, a2, a3]
    have eD := cSt_d (nI (P.1 (11 + 4 * f))) (nI (P.1 (13 + 4 * f))) (vxP P (cnS (P.1 5) S (nI f))) (evP P (cnS (P.1 5) S (nI f))) false y.1 y.2.1 y.2.2.1 y.2.2.2
    have eD : cSt (nI (P.1 (11 + 4 * f))) (nI (P.1 (13 + 4 * f))) (vxP P (cnS (P.1 5) S (nI f))) (evP P (cnS (P.1 5) S (nI f))) false y = _ := eD
    rw [eY, eD, ← eX]
    have e1 : (nxF P (itR P S n) f).1 = itR P S n 23 + 1 := by
      unfold nxF cSt
      dsimp only
      split
      · rfl
      · split
        · rfl
        · split <;> rfl
    refine ⟨?_, ?_, ?_, ?_, fun c hc => ?_⟩
    · show nR P (itR P S n) 23 = (nxF P (itR P S n) f).1
      rw [e1]
      unfold nR
      rw [if_neg (by omega), if_neg (by omega), if_neg (by omega), if_pos rfl]
    · show nR P (itR P S n) f = (nxF P (itR P S n) f).2.1
      unfold nR
      rw [if_pos hf]
    · show nR P (itR P S n) (6 + f) = (nxF P (itR P S n) f).2.2.1
      unfold nR
      rw [if_neg (by omega), if_pos (by omega), Nat.add_sub_cancel_left]
    · show nR P (itR P S n) (12 + f) = S (12 + f) + (y.2.2.2 + (nxF P (itR P S n) f).2.2.2)
      unfold nR
      rw [if_neg (by omega), if_neg (by omega), if_pos (by omega), Nat.add_sub_cancel_left, a4, Int32.add_assoc]
    · show nR P (itR P S n) (18 + c) = _
      rw [nR_18 hF (by omega)]; exact a5 c hc
end AHD
