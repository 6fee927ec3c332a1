/-! all bounds behind a line; the class's reads -/
section BDN
variable {b : Nat → Nat} {n e : Nat} {nm : List Nm} {F : Nat → Nat} {W : Int32} {P' : Ps}
def z1 (v : Nat) : Nat := if v = 0 then 0 else 1
def dcn (F : Nat → Nat) : Nat := z1 (F 61) + z1 (F 62) + z1 (F 63) + z1 (F 64) + z1 (F 65) + z1 (F 66)
theorem z1_b {v : Nat} : z1 v ≤ 1 := by unfold z1; split <;> omega
theorem dcn_6 : dcn F ≤ 6 := by
  have a1 := z1_b (v := F 61)
  have a2 := z1_b (v := F 62)
  have a3 := z1_b (v := F 63)
  have a4 := z1_b (v := F 64)
  have a5 := z1_b (v := F 65)
  have a6 := z1_b (v := F 66)
  unfold dcn
  omega
theorem dcn_cg {F' : Nat → Nat} (h : ∀ j, 61 ≤ j → j ≤ 66 → F' j = F j) : dcn F' = dcn F := by
  unfold dcn
  rw [h 61 (by decide) (by decide), h 62 (by decide) (by decide), h 63 (by decide) (by decide), h 64 (by decide) (by decide), h 65 (by decide) (by decide), h 66 (by decide) (by decide)]
theorem dcn_a {f v : Nat} (hf : f < 6) (h0 : F (61 + f) = 0) (hv : v ≠ 0) : dcn (uF F (61 + f) v) = dcn F + 1 := by
  have s : z1 v = 1 := if_neg hv
  have o : z1 0 = 0 := rfl
  rcases (show f = 0 ∨ f = 1 ∨ f = 2 ∨ f = 3 ∨ f = 4 ∨ f = 5 by omega) with rfl | rfl | rfl | rfl | rfl | rfl
  · have h0 : F 61 = 0 := h0
    show z1 v + z1 (F 62) + z1 (F 63) + z1 (F 64) + z1 (F 65) + z1 (F 66) = z1 (F 61) + z1 (F 62) + z1 (F 63) + z1 (F 64) + z1 (F 65) + z1 (F 66) + 1
    rw [h0]; omega
  · have h0 : F 62 = 0 := h0
    show z1 (F 61) + z1 v + z1 (F 63) + z1 (F 64) + z1 (F 65) + z1 (F 66) = z1 (F 61) + z1 (F 62) + z1 (F 63) + z1 (F 64) + z1 (F 65) + z1 (F 66) + 1
    rw [h0]; omega
  · have h0 : F 63 = 0 := h0
    show z1 (F 61) + z1 (F 62) + z1 v + z1 (F 64) + z1 (F 65) + z1 (F 66) = z1 (F 61) + z1 (F 62) + z1 (F 63) + z1 (F 64) + z1 (F 65) + z1 (F 66) + 1
    rw [h0]; omega
  · have h0 : F 64 = 0 := h0
    show z1 (F 61) + z1 (F 62) + z1 (F 63) + z1 v + z1 (F 65) + z1 (F 66) = z1 (F 61) + z1 (F 62) + z1 (F 63) + z1 (F 64) + z1 (F 65) + z1 (F 66) + 1
    rw [h0]; omega
  · have h0 : F 65 = 0 := h0
    show z1 (F 61) + z1 (F 62) + z1 (F 63) + z1 (F 64) + z1 v + z1 (F 66) = z1 (F 61) + z1 (F 62) + z1 (F 63) + z1 (F 64) + z1 (F 65) + z1 (F 66) + 1
    rw [h0]; omega
  · have h0 : F 66 = 0 := h0
    show z1 (F 61) + z1 (F 62) + z1 (F 63) + z1 (F 64) + z1 (F 65) + z1 v = z1 (F 61) + z1 (F 62) + z1 (F 63) + z1 (F 64) + z1 (F 65) + z1 (F 66) + 1
    rw [h0]; omega
def B3 (P : Ps) : Prop := B2 P ∧ P.1 8 = dcn P.1
theorem dcn_k {F' : Nat → Nat} (hD : F 8 = dcn F) (h8 : F' 8 = F 8) (h : ∀ j, 61 ≤ j → j ≤ 66 → F' j = F j) : F' 8 = dcn F' := by
  rw [h8, dcn_cg h]
  exact hD
theorem B3_ln (hB : B3 (F, W, nm, e)) (he : e ≤ n) (h : ln b n F W nm e = .inr P') : B3 P' ∧ P'.2.2.2 ≤ n ∧ e < P'.2.2.2 := by
  obtain ⟨hB, hD⟩ := hB
  have hD : F 8 = dcn F := hD
  have hbd : Bd F W nm := hB.1
  have B4 : F 4 ≤ 6 := hbd.1.2.2.2.1
  have B5 : F 5 ≤ 5 := hbd.1.2.2.2.2.1
  have B6 : F 6 ≤ 4 := hbd.1.2.2.2.2.2.1
  have B7 : F 7 ≤ 4 := hbd.1.2.2.2.2.2.2
  unfold ln at h
  split at h
  · cases h
  rename_i c0
  have hg : bgl b n e = true := by
    cases hq : bgl b n e with
    | true => rfl
    | false => exact absurd hq c0
  have fin : ∀ k, 1 ≤ k → P'.2.2.2 = tn b n k e → P'.2.2.2 ≤ n ∧ e < P'.2.2.2 := fun k hk hx => by
    rw [hx]
    exact ⟨tn_b he k, ln_gt he hg k hk⟩
  split at h
  · split at h
    · cases h
    · obtain ⟨h1, h2⟩ := B2_close hB h
      refine ⟨⟨h1, ?_⟩, fin 7 (by decide) h2⟩
      unfold lnClose at h
      split at h
      · cases h
      split at h
      · cases h
      split at h
      · cases h
      cases h
      exact dcn_k hD rfl (fun j z1 z2 => uFx (by omega))
  split at h
  · cases h
  rename_i c2
  have hT : 0 < F 0 := by omega
  split at h
  · obtain ⟨h1, h2⟩ := B2_wall hT hB h
    refine ⟨⟨h1, ?_⟩, fin 2 (by decide) h2⟩
    unfold lnWall at h
    split at h
    · cases h
    split at h
    · cases h
    split at h
    · cases h
    split at h
    · cases h
    cases h
    exact dcn_k hD rfl (fun j z1 z2 => uF_o (by omega))
  split at h
  · obtain ⟨h1, h2⟩ := B2_face hT hB h
    refine ⟨⟨h1, ?_⟩, fin 9 (by decide) h2⟩
    unfold lnFace at h
    split at h
    · cases h
    rename_i c1
    split at h
    · cases h
    split at h
    · cases h
    split at h
    · cases h
    split at h
    · cases h
    split at h
    · cases h
    split at h
    · cases h
    cases h
    exact dcn_k hD (PC_face_o (F := F) (j := 8) (by omega)) (fun j z1 z2 => PC_face_o (F := F) (j := j) (by omega))
  split at h
  · obtain ⟨h1, h2⟩ := B2_canon hB h
    refine ⟨⟨h1, ?_⟩, fin 7 (by decide) h2⟩
    unfold lnCanon at h
    split at h
    · cases h
    rename_i c1
    split at h
    · cases h
    split at h
    · cases h
    split at h
    · cases h
    split at h
    · cases h
    split at h
    · cases h
    cases h
    exact dcn_k hD (PC_canon_o (F := F) (j := 8) (by omega)) (fun j z1 z2 => PC_canon_o (F := F) (j := j) (by omega))
  split at h
  · obtain ⟨h1, h2⟩ := B2_walker hB h
    refine ⟨⟨h1, ?_⟩, fin 6 (by decide) h2⟩
    unfold lnWalker at h
    split at h
    · cases h
    rename_i c1
    split at h
    · cases h
    split at h
    · cases h
    split at h
    · cases h
    split at h
    · cases h
    split at h
    · cases h
    cases h
    exact dcn_k hD (PC_walker_o (F := F) (j := 8) (by omega)) (fun j z1 z2 => PC_walker_o (F := F) (j := j) (by omega))
  split at h
  · obtain ⟨h1, h2⟩ := B2_unsure hB h
    refine ⟨⟨h1, ?_⟩, fin 3 (by decide) h2⟩
    unfold lnUnsure at h
    split at h
    · cases h
    rename_i c1
    split at h
    · cases h
    split at h
    · cases h
    split at h
    · cases h
    cases h
    exact dcn_k hD (PC_unsure_o (F := F) (j := 8) (by omega)) (fun j z1 z2 => PC_unsure_o (F := F) (j := j) (by omega))
  · have d6 := dcn_6 (F := F)
    obtain ⟨h1, h2⟩ := B2_dropped (by omega) hB h
    refine ⟨⟨h1, ?_⟩, fin 4 (by decide) h2⟩
    unfold lnDropped at h
    split at h
    · cases h
    split at h
    · cases h
    rename_i c2
    split at h
    · cases h
    rename_i c3
    cases h
    have f6 : (nam b n nm 1 (tn b n 1 e)).2 < 6 := nam_6 (fun i hi => (hbd.2.2.2.2.1 i hi).2)
    have v1 := (lab_v c3).1
    have v1 : 1 ≤ tvl b n (tn b n 3 e) := v1
    show F 8 + 1 = dcn (uF (uF F (61 + (nam b n nm 1 (tn b n 1 e)).2) (tvl b n (tn b n 3 e))) 8 (F 8 + 1))
    rw [dcn_cg (F' := uF (uF F (61 + (nam b n nm 1 (tn b n 1 e)).2) (tvl b n (tn b n 3 e))) 8 (F 8 + 1)) (F := uF F (61 + (nam b n nm 1 (tn b n 1 e)).2) (tvl b n (tn b n 3 e))) (fun j z1 z2 => uF_o (by omega)), dcn_a f6 (Decidable.not_not.mp c2) (by omega), hD]
end BDN
section RDC
variable {l : Launch} {X : Nat × (Nat → Int32)} {d : Nat} {w : Nat × Nat} {p r : Nat} {I : Nat → Nat → Int32} {L : Nat → Nat → Int64} {kr : KR} {b : Nat → Nat} {n e : Nat} {nm : List Nm} {F : Nat → Nat} {W : Int32}
def F00 : Nat → Nat := fun _ => 0
set_option maxHeartbeats 2000000 in
set_option maxRecDepth 20000 in
theorem x_clear (hq : r = 7 ∨ r = 20) (h : ∀ I', (∀ a i, a ≠ r → a ≠ r + 5 → I' a i = I a i) → PC r F00 0 I' → kr none (mk w p r I' L)) : Ev l X uX3_clear d true 0 0 [.ref r] (mk w p r I L) kr := by
  refine Ev.of (by decide) (Nat.le_of_ble_eq_true rfl) ?_
  rcases hq with rfl | rfl
  · refine Wf.gc tkX3_clear [42] ?_
    conv => whnf
    show Wf l X uX3_clear d true (mC (mk w p 7 I L) + 0, mS (mk w p 7 I L) + 0) 42 [(0, .ref 7), (1, .int (nI 0))] [] (mk w p 7 (u2 (u2 (u2 (u2 (u2 (u2 (u2 (u2 I 7 0 0) 7 1 0) 7 2 0) 7 3 0) 7 4 0) 7 10 0) 7 14 0) 7 17 0) L) kr
    obtain ⟨J, hJ⟩ : ∃ J, J = u2 (u2 (u2 (u2 (u2 (u2 (u2 (u2 I 7 0 0) 7 1 0) 7 2 0) 7 3 0) 7 4 0) 7 10 0) 7 14 0) 7 17 0 := ⟨_, rfl⟩
    rw [← hJ]
    have loop : ∀ i, i ≤ 6 → ∀ K : Nat → Nat → Int32, (∀ a j, a ≠ 12 → K a j = J a j) → (∀ j, j < i → K 12 j = 0) → Wf l X uX3_clear d true (mC (mk w p 7 I L) + 0, mS (mk w p 7 I L) + 0) 42 [(0, .ref 7), (1, .int (nI i))] [] (mk w p 7 K L) kr := by
      refine down _ 6 ?_ ?_
      · intro K hK hz
        refine Wf.gc tkX3_clear [] ?_
        conv => whnf
        refine b1' (by show (6 : Int32) ≤ nI 6; decide) ?_
        conv => whnf
        refine h K (fun a i z1 z2 => ?_) ⟨⟨?_, ?_, ?_, ?_, ?_, ?_, ?_, ?_⟩, fun f hf => absurd hf (Nat.not_lt_zero _), fun f hf => hz f hf, fun f hf => absurd hf (Nat.not_lt_zero _), fun f hf => absurd hf (Nat.not_lt_zero _), fun f hf => absurd hf (Nat.not_lt_zero _)⟩
        · rw [hK a i (by omega), hJ, u2_o (by omega), u2_o (by omega), u2_o (by omega), u2_o (by omega), u2_o (by omega), u2_o (by omega), u2_o (by omega), u2_o (by omega)]
        all_goals
          rw [hK 7 _ (by decide), hJ]
          rfl
      · intro i hi ih K hK hz
        refine Wf.gc tkX3_clear [42] ?_
        conv => whnf
        refine b2' (by show ¬ (6 : Int32) ≤ nI i; rw [show (6 : Int32) = nI 6 from rfl]; exact nI_ge hi (by decide)) ?_
        conv => whnf
        refine ⟨i, ix (N := 6) hi (by decide), ?_⟩
        conv => whnf
        have q := ih (u2 K 12 i 0) (fun a j z => by rw [u2_o (by omega)]; exact hK a j z) (fun j hj => by
          by_cases e : j = i
          · rw [e, u2_s]
          · rw [u2_o (by omega)]; exact hz j (by omega))
        rw [← nI_1] at q
        exact q
    exact loop 0 (by decide) J (fun _ _ _ => rfl) (fun j hj => absurd hj (Nat.not_lt_zero _))
  · refine Wf.gc tkX3_clear [42] ?_
    conv => whnf
    show Wf l X uX3_clear d true (mC (mk w p 20 I L) + 0, mS (mk w p 20 I L) + 0) 42 [(0, .ref 20), (1, .int (nI 0))] [] (mk w p 20 (u2 (u2 (u2 (u2 (u2 (u2 (u2 (u2 I 20 0 0) 20 1 0) 20 2 0) 20 3 0) 20 4 0) 20 10 0) 20 14 0) 20 17 0) L) kr
    obtain ⟨J, hJ⟩ : ∃ J, J = u2 (u2 (u2 (u2 (u2 (u2 (u2 (u2 I 20 0 0) 20 1 0) 20 2 0) 20 3 0) 20 4 0) 20 10 0) 20 14 0) 20 17 0 := ⟨_, rfl⟩
    rw [← hJ]
    have loop : ∀ i, i ≤ 6 → ∀ K : Nat → Nat → Int32, (∀ a j, a ≠ 25 → K a j = J a j) → (∀ j, j < i → K 25 j = 0) → Wf l X uX3_clear d true (mC (mk w p 20 I L) + 0, mS (mk w p 20 I L) + 0) 42 [(0, .ref 20), (1, .int (nI i))] [] (mk w p 20 K L) kr := by
      refine down _ 6 ?_ ?_
      · intro K hK hz
        refine Wf.gc tkX3_clear [] ?_
        conv => whnf
        refine b1' (by show (6 : Int32) ≤ nI 6; decide) ?_
        conv => whnf
        refine h K (fun a i z1 z2 => ?_) ⟨⟨?_, ?_, ?_, ?_, ?_, ?_, ?_, ?_⟩, fun f hf => absurd hf (Nat.not_lt_zero _), fun f hf => hz f hf, fun f hf => absurd hf (Nat.not_lt_zero _), fun f hf => absurd hf (Nat.not_lt_zero _), fun f hf => absurd hf (Nat.not_lt_zero _)⟩
        · rw [hK a i (by omega), hJ, u2_o (by omega), u2_o (by omega), u2_o (by omega), u2_o (by omega), u2_o (by omega), u2_o (by omega), u2_o (by omega), u2_o (by omega)]
        all_goals
          rw [hK 20 _ (by decide), hJ]
          rfl
      · intro i hi ih K hK hz
        refine Wf.gc tkX3_clear [42] ?_
        conv => whnf
        refine b2' (by show ¬ (6 : Int32) ≤ nI i; rw [show (6 : Int32) = nI 6 from rfl]; exact nI_ge hi (by decide)) ?_
        conv => whnf
        refine ⟨i, ix (N := 6) hi (by decide), ?_⟩
        conv => whnf
        have q := ih (u2 K 25 i 0) (fun a j z => by rw [u2_o (by omega)]; exact hK a j z) (fun j hj => by
          by_cases e : j = i
          · rw [e, u2_s]
          · rw [u2_o (by omega)]; exact hz j (by omega))
        rw [← nI_1] at q
        exact q
    exact loop 0 (by decide) J (fun _ _ _ => rfl) (fun j hj => absurd hj (Nat.not_lt_zero _))
end RDC
