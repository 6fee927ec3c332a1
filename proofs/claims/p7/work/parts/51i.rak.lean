/-! the acts keep the plain state's bounds -/
section RAK
variable {A : Ast} {P : Ps} {S : Rw} {U G : List Rw}
theorem RA_mk (h1 : B3 P ∧ PI P.1 ∧ 0 < P.1 4) (h2 : U.length ≤ 16) (h3 : G.length ≤ 3) (h4 : RI P S) (h5 : ∀ j, j < U.length → RI P (rD U j)) (h6 : ∀ j, j < G.length → RI P (rD G j)) : RA (P, S, U, G) := ⟨h1, ⟨h2, h3⟩, h4, h5, h6⟩
theorem psh_RI (hU : U.length ≤ 16) (hS : RI P S) (h : ∀ j, j < U.length → RI P (rD U j)) : (psh U S).length ≤ 16 ∧ ∀ j, j < (psh U S).length → RI P (rD (psh U S) j) := by
  refine ⟨by rw [psh_len hU]; split <;> omega, fun j hj => ?_⟩
  rcases psh_D hU hj with ⟨-, z⟩ | ⟨-, z, y⟩
  · rw [z]; exact hS
  · rw [z]; exact h _ y
theorem RA_give {c f : Int32} (hR : RA A) : RA (aGive A c f).2 := by
  obtain ⟨P, S, U, G⟩ := A
  obtain ⟨h1, ⟨h2, h3⟩, h4, h5, h6⟩ := id hR
  have h2 : U.length ≤ 16 := h2
  obtain ⟨hF, hC⟩ := ra_FC hR
  have hF : P.1 4 ≤ 6 := hF
  have hC : P.1 5 ≤ 5 := hC
  unfold aGive
  split
  · rename_i j g ej eg
    have ej : ixO (P.1 5) c = some j := ej
    have eg : ixO (P.1 4) f = some g := eg
    split
    · rename_i z
      obtain ⟨z1, z2⟩ := z
      have z1 : cnS (P.1 5) S f = none := z1
      obtain ⟨hj, -⟩ := ixO_lt (by omega) ej
      obtain ⟨hg, rfl⟩ := ixO_lt (by omega) eg
      obtain ⟨q1, q2⟩ := psh_RI h2 h4 h5
      refine RA_mk h1 q1 h3 ⟨fun f' hf' => ?_, fun c' hc' => ?_, fun c1 c2 y1 y2 => ?_, ?_⟩ q2 h6
      · rw [uR_o (by omega)]; exact h4.1 f' hf'
      · by_cases e : c' = j
        · subst e
          exact ⟨g, hg, uR_s⟩
        · rw [uR_o (by omega)]; exact h4.2.1 c' hc'
      · have nn : ∀ c, c < P.1 5 → S (18 + c) ≠ nI g := fun c hc y => by
          have := ff_none (P := fun c => decide (S (18 + c) = nI g)) z1 c (Nat.zero_le _) (by omega)
          rw [decide_eq_true y] at this
          cases this
        by_cases e1 : c1 = j
        · subst e1
          rw [uR_s, uR_o (by omega)]
          exact fun y => nn c2 y2 y.symm
        · by_cases e2 : c2 = j
          · subst e2
            rw [uR_s, uR_o (by omega)]
            exact fun y => nn c1 (by omega) y
          · rw [uR_o (by omega), uR_o (by omega)]
            exact h4.2.2.1 c1 c2 y1 y2
      · obtain ⟨n, hn, e, kk⟩ := h4.2.2.2
        exact ⟨n, hn, by rw [uR_o (by omega)]; exact e, fun f hf => by rw [uR_o (by have : f < P.1 4 := hf; omega)]; exact kk f hf⟩
    · exact hR
  · exact hR
theorem RA_mend {f : Int32} (hR : RA A) : RA (aMend A f).2 := by
  obtain ⟨P, S, U, G⟩ := A
  obtain ⟨h1, ⟨h2, h3⟩, h4, h5, h6⟩ := id hR
  obtain ⟨hF, hC⟩ := ra_FC hR
  have hF : P.1 4 ≤ 6 := hF
  unfold aMend
  split
  · exact hR
  · rename_i g eg
    have eg : ixO (P.1 4) f = some g := eg
    obtain ⟨hg, -⟩ := ixO_lt (by omega) eg
    split
    · exact hR
    · obtain ⟨q1, q2⟩ := psh_RI h2 h4 h5
      refine RA_mk h1 q1 h3 ⟨fun f' hf' => ?_, fun c' hc' => ?_, fun c1 c2 y1 y2 => ?_, ?_⟩ q2 h6
      · rw [uR_o (by omega)]
        by_cases e : f' = g
        · subst e
          exact ⟨P.1 (12 + 4 * f'), (h1.2.1.1 f' hf').1.2, uR_s⟩
        · rw [uR_o e]; exact h4.1 f' hf'
      · rw [uR_o (by omega), uR_o (by omega)]; exact h4.2.1 c' hc'
      · rw [uR_o (by omega), uR_o (by omega), uR_o (by omega), uR_o (by omega)]; exact h4.2.2.1 c1 c2 y1 y2
      · obtain ⟨n, hn, e, kk⟩ := h4.2.2.2
        exact ⟨n, hn, by rw [uR_o (by omega), uR_o (by omega)]; exact e, fun f hf => by rw [uR_o (by have : f < P.1 4 := hf; omega), uR_o (by have : f < P.1 4 := hf; omega)]; exact kk f hf⟩
theorem RA_vex {f m : Int32} (hR : RA A) : RA (aVex A f m).2 := by
  obtain ⟨P, S, U, G⟩ := A
  obtain ⟨h1, ⟨h2, h3⟩, h4, h5, h6⟩ := id hR
  obtain ⟨hF, hC⟩ := ra_FC hR
  have hF : P.1 4 ≤ 6 := hF
  unfold aVex
  split
  · exact hR
  · rename_i g eg
    have eg : ixO (P.1 4) f = some g := eg
    obtain ⟨hg, -⟩ := ixO_lt (by omega) eg
    split
    · obtain ⟨q1, q2⟩ := psh_RI h2 h4 h5
      refine RA_mk h1 q1 h3 ⟨fun f' hf' => ?_, fun c' hc' => ?_, fun c1 c2 y1 y2 => ?_, ?_⟩ q2 h6
      · rw [uR_o (by omega)]; exact h4.1 f' hf'
      · rw [uR_o (by omega)]; exact h4.2.1 c' hc'
      · rw [uR_o (by omega), uR_o (by omega)]; exact h4.2.2.1 c1 c2 y1 y2
      · obtain ⟨n, hn, e, kk⟩ := h4.2.2.2
        exact ⟨n, hn, by rw [uR_o (by omega)]; exact e, fun f hf => by rw [uR_o (by have : f < P.1 4 := hf; omega)]; exact kk f hf⟩
    · exact hR
theorem RA_undo (hR : RA A) : RA (aUndo A).2 := by
  obtain ⟨P, S, U, G⟩ := A
  obtain ⟨h1, ⟨h2, h3⟩, h4, h5, h6⟩ := id hR
  unfold aUndo
  split
  · exact hR
  · rename_i z
    have z : ¬ U.length = 0 := z
    have h2 : U.length ≤ 16 := h2
    have ld : U.dropLast.length = U.length - 1 := List.length_dropLast
    refine RA_mk h1 (by rw [ld]; omega) h3 (h5 _ (by show U.length - 1 < U.length; omega)) (fun j hj => ?_) h6
    rw [ld] at hj
    rw [rD_dl hj]
    exact h5 j (by show j < U.length; omega)
theorem RA_image (hR : RA A) : RA (aImage A).2 := by
  obtain ⟨P, S, U, G⟩ := A
  obtain ⟨h1, ⟨h2, h3⟩, h4, h5, h6⟩ := id hR
  unfold aImage
  split
  · rename_i z
    have z : G.length < 3 := z
    have lg : (G ++ [S]).length = G.length + 1 := List.length_append
    refine RA_mk h1 h2 (by rw [lg]; exact z) h4 h5 (fun j hj => ?_)
    have hj : j < G.length + 1 := by rw [← lg]; exact hj
    by_cases e : j = G.length
    · rw [rD_l e]; exact h4
    · have hj2 : j < G.length := by omega
      rw [rD_a hj2]; exact h6 j hj2
  · exact hR
theorem RA_back {i : Int32} (hR : RA A) : RA (aBack A i).2 := by
  obtain ⟨P, S, U, G⟩ := A
  obtain ⟨h1, ⟨h2, h3⟩, h4, h5, h6⟩ := id hR
  unfold aBack
  split
  · exact hR
  · rename_i j ej
    have ej : ixO G.length i = some j := ej
    have h3 : G.length ≤ 3 := h3
    obtain ⟨hj, -⟩ := ixO_lt (by omega) ej
    exact RA_mk h1 (Nat.zero_le _) h3 (h6 j hj) (fun k hk => absurd hk (Nat.not_lt_zero _)) h6
theorem nx_h (hP : PI P.1) (hS : RI P S) {f : Nat} (hf : f < P.1 4) : ∃ h, h ≤ 99 ∧ (nxF P S f).2.1 = nI h := by
  obtain ⟨h, h9, eh⟩ := hS.1 f hf
  obtain ⟨-, w9, -, -⟩ := hP.1 f hf
  unfold nxF cSt
  dsimp only
  split
  · exact ⟨h, h9, eh⟩
  · split
    · exact ⟨h, h9, eh⟩
    · split
      · exact ⟨0, by decide, rfl⟩
      · rename_i z
        rw [eh] at z ⊢
        rcases Nat.lt_or_ge h (P.1 (13 + 4 * f)) with y | y
        · exfalso
          apply z
          rw [Int32.lt_iff_toInt_lt]
          have e1 : (1 : Int32).toInt = 1 := rfl
          have e2 : (nI h).toInt = h := nI_toInt (by omega)
          have e3 : (nI (P.1 (13 + 4 * f))).toInt = (P.1 (13 + 4 * f) : Nat) := nI_toInt (by omega)
          have lo : iLo ≤ -10 := by decide
          have hi : (100 : Int) ≤ iHi := by decide
          rw [sub_i (by rw [e2, e3]; omega) (by rw [e2, e3]; omega), e1, e2, e3]
          omega
        · exact ⟨h - P.1 (13 + 4 * f), by omega, nI_sub y⟩
theorem nx_d {f : Nat} : (nxF P S f).2.2.2 = 0 ∨ (nxF P S f).2.2.2 = 1 := by
  unfold nxF cSt
  dsimp only
  split
  · exact Or.inl rfl
  · split
    · exact Or.inl rfl
    · split
      · exact Or.inr rfl
      · exact Or.inr rfl
theorem RA_day (hR : RA A) : RA (aDay A).2 := by
  obtain ⟨P, S, U, G⟩ := A
  obtain ⟨h1, ⟨h2, h3⟩, h4, h5, h6⟩ := id hR
  obtain ⟨hF, hC⟩ := ra_FC hR
  have hF : P.1 4 ≤ 6 := hF
  have hC : P.1 5 ≤ 5 := hC
  unfold aDay
  split
  · rename_i z
    have z : S 23 < 999 := z
    obtain ⟨q1, q2⟩ := psh_RI h2 h4 h5
    have n18 : ∀ c, c < P.1 5 → nR P S (18 + c) = S (18 + c) := fun c hc => by
      unfold nR
      rw [if_neg (by omega), if_neg (by omega), if_neg (by omega), if_neg (by omega), if_neg (by omega)]
    refine RA_mk h1 q1 h3 ⟨fun f' hf' => ?_, fun c' hc' => ?_, fun c1 c2 y1 y2 => ?_, ?_⟩ q2 h6
    · show ∃ h, h ≤ 99 ∧ nR P S f' = nI h
      have hf' : f' < P.1 4 := hf'
      unfold nR
      rw [if_pos hf']
      exact nx_h h1.2.1 h4 hf'
    · show ∃ j, j < P.1 4 ∧ nR P S (18 + c') = nI j
      rw [n18 c' hc']; exact h4.2.1 c' hc'
    · show nR P S (18 + c1) ≠ nR P S (18 + c2)
      have y2 : c2 < P.1 5 := y2
      rw [n18 c1 (by omega), n18 c2 y2]; exact h4.2.2.1 c1 c2 y1 y2
    · obtain ⟨n, hn, e, kk⟩ := h4.2.2.2
      have e : S 23 = nI n := e
      refine ⟨n + 1, ?_, ?_, fun f hf => ?_⟩
      · rw [e, show (999 : Int32) = nI 999 from rfl, nI_ltI (by omega) (by decide)] at z
        omega
      · show nR P S 23 = nI (n + 1)
        unfold nR
        rw [if_neg (by omega), if_neg (by omega), if_neg (by omega), if_pos rfl, e, nI_s]
      · have hf : f < P.1 4 := hf
        obtain ⟨k, hk, ek⟩ := kk f hf
        have ek : S (12 + f) = nI k := ek
        have e12 : nR P S (12 + f) = S (12 + f) + (nxF P S f).2.2.2 := by
          unfold nR
          rw [if_neg (by omega), if_neg (by omega), if_pos (by omega), Nat.add_sub_cancel_left]
        show ∃ k, k ≤ n + 1 ∧ nR P S (12 + f) = nI k
        rw [e12, ek]
        rcases nx_d (P := P) (S := S) (f := f) with y | y
        · exact ⟨k, by omega, by rw [y, Int32.add_zero]⟩
        · exact ⟨k + 1, by omega, by rw [y, nI_s]⟩
  · exact hR
/-- the state behind a close -/
def S0 (P : Ps) : Rw := fun i => if i < 6 then nI (P.1 (12 + 4 * i)) else if 18 ≤ i ∧ i < 23 then nI (P.1 (300 + (i - 18))) else 0
def A0 (P : Ps) : Ast := (P, S0 P, [], [])
theorem RA_0 (hB : B3 P) (hP : PI P.1) (h0 : 0 < P.1 4) : RA (A0 P) := by
  have hF : P.1 4 ≤ 6 := hB.1.1.1.2.2.2.1
  have hC : P.1 5 ≤ 5 := hB.1.1.1.2.2.2.2.1
  have s18 : ∀ c, c < 5 → S0 P (18 + c) = nI (P.1 (300 + c)) := fun c hc => by
    unfold S0
    rw [if_neg (by omega), if_pos (by omega), Nat.add_sub_cancel_left]
  refine RA_mk ⟨hB, hP, h0⟩ (Nat.zero_le _) (Nat.zero_le _) ⟨fun f hf => ?_, fun c hc => ?_, fun c1 c2 y1 y2 => ?_, 0, by decide, rfl, fun f hf => ⟨0, Nat.le_refl _, by unfold S0; rw [if_neg (by omega), if_neg (by omega)]; rfl⟩⟩ (fun j hj => absurd hj (Nat.not_lt_zero _)) (fun j hj => absurd hj (Nat.not_lt_zero _))
  · refine ⟨P.1 (12 + 4 * f), (hP.1 f hf).1.2, ?_⟩
    unfold S0
    rw [if_pos (by omega)]
  · exact ⟨P.1 (300 + c), (hP.2.1 c hc).1, s18 c (by omega)⟩
  · rw [s18 c1 (by omega), s18 c2 (by omega)]
    intro y
    have a1 := (hP.2.1 c1 (by omega)).1
    have a2 := (hP.2.1 c2 y2).1
    exact hP.2.2.1 c1 c2 y1 y2 ((nI_eq (by omega) (by omega)).mp y)
end RAK
