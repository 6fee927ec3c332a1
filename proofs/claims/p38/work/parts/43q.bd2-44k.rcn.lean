section
/-! the bounds behind each line -/
section BDM
variable {b : Nat → Nat} {n e : Nat} {nm : List Nm} {F : Nat → Nat} {W : Int32} {P' : Ps}
theorem B2_close (hB : B2 (F, W, nm, e)) (h : lnClose b n F W nm e = .inr P') : B2 P' ∧ P'.2.2.2 = tn b n 7 e := by
  obtain ⟨⟨⟨B0, B1, B3, B4, B5, B6, B7⟩, BF, Bp, Bn, Bs, Bt⟩, x, hx, hW, hp⟩ := hB
  unfold lnClose at h
  split at h
  · cases h
  rename_i c1
  split at h
  · cases h
  rename_i c2
  split at h
  · cases h
  rename_i c3
  cases h
  obtain ⟨v1, v2⟩ := lab_v c1
  obtain ⟨v3, v4⟩ := lab_v c2
  obtain ⟨v5, v6⟩ := lab_v c3
  have v1 : 2 ≤ tvl b n (tn b n 2 e) := v1
  have v2 : tvl b n (tn b n 2 e) ≤ 5 := v2
  have v3 : 2 ≤ tvl b n (tn b n 4 e) := v3
  have v4 : tvl b n (tn b n 4 e) ≤ 4 := v4
  have v6 : tvl b n (tn b n 6 e) ≤ 100 := v6
  exact ⟨⟨⟨⟨v2, v4, B3, B4, B5, B6, B7⟩, uF_lt (uF_lt (uF_lt (uF_lt BF (by omega)) (by omega)) (by omega)) (by decide), Bp, Bn, Bs, fun _ => ⟨v1, v3⟩⟩, x, hx, hW, hp⟩, rfl⟩
theorem B2_wall (hT : 0 < F 0) (hB : B2 (F, W, nm, e)) (h : lnWall b n F W nm e = .inr P') : B2 P' ∧ P'.2.2.2 = tn b n 2 e := by
  obtain ⟨⟨⟨B0, B1, B3, B4, B5, B6, B7⟩, BF, Bp, Bn, Bs, Bt⟩, hw⟩ := hB
  have hw : BW F W := hw
  have Bt : 0 < F 0 → 2 ≤ F 0 ∧ 2 ≤ F 1 := Bt
  have B0 : F 0 ≤ 5 := B0
  have B1 : F 1 ≤ 4 := B1
  have hc20 : F 0 * F 1 ≤ 5 * 4 := Nat.mul_le_mul B0 B1
  have hc4 : 2 * 2 ≤ F 0 * F 1 := Nat.mul_le_mul (Bt hT).1 (Bt hT).2
  unfold lnWall at h
  split at h
  · cases h
  rename_i c1
  split at h
  · cases h
  split at h
  · cases h
  rename_i c3
  split at h
  · cases h
  rename_i c4
  cases h
  obtain ⟨-, v2⟩ := bnd_v (Decidable.not_not.mp c3)
  have hf : isWl W (tvl b n (tn b n 1 e)) = false := by
    cases hq : isWl W (tvl b n (tn b n 1 e)) with
    | true => exact absurd hq c4
    | false => rfl
  have nb := BW_add (by omega) hw hf
  have e3 : uF F 3 (F 3 + 1) 3 = F 3 + 1 := rfl
  exact ⟨⟨⟨⟨B0, B1, by show F 3 + 1 ≤ 5; omega, B4, B5, B6, B7⟩, uF_lt BF (by omega), Bp_of nb (by dsimp only; rw [e3]; omega), Bn, Bs, Bt⟩, nb⟩, rfl⟩
theorem tvl_l {i lo hi : Nat} (h : ¬ (lab b n i lo hi e).1 ≠ 0) (hh : hi < 1000) : tvl b n (tsp b n e) < 1000 := by
  have := (lab_v h).2
  omega
theorem BW_c {F' : Nat → Nat} (h : BW F W) (e3 : F' 3 = F 3) : BW F' W := by
  obtain ⟨x, h1, h2, h3⟩ := h
  exact ⟨x, h1, h2, h3.trans e3.symm⟩
theorem B2_face (hT : 0 < F 0) (hB : B2 (F, W, nm, e)) (h : lnFace b n F W nm e = .inr P') : B2 P' ∧ P'.2.2.2 = tn b n 9 e := by
  obtain ⟨⟨⟨B0, B1, B3, B4, B5, B6, B7⟩, BF, Bp, Bn, Bs, Bt⟩, hw⟩ := hB
  have hw : BW F W := hw
  have Bs : ∀ i, i < nm.length → (nmD nm i).2.2.1 < 10 ∧ (nmD nm i).2.2.2 < 6 := Bs
  have Bn : nm.length = F 4 + F 5 + F 6 := Bn
  have Bt : 0 < F 0 → 2 ≤ F 0 ∧ 2 ≤ F 1 := Bt
  have B0 : F 0 ≤ 5 := B0
  have B1 : F 1 ≤ 4 := B1
  have B3 : F 3 ≤ 5 := B3
  have B5 : F 5 ≤ 5 := B5
  have B6 : F 6 ≤ 4 := B6
  have B7 : F 7 ≤ 4 := B7
  have hc20 : F 0 * F 1 ≤ 5 * 4 := Nat.mul_le_mul B0 B1
  unfold lnFace at h
  split at h
  · cases h
  rename_i c1
  split at h
  · cases h
  split at h
  · cases h
  rename_i kd hk
  split at h
  · cases h
  rename_i c4
  split at h
  · cases h
  rename_i c5
  split at h
  · cases h
  rename_i c6
  split at h
  · cases h
  cases h
  have k3 := kin_3 hk
  have w4 : tvl b n (tn b n 4 e) < 1000 := tvl_l c4 (by decide)
  have w5 : tvl b n (tn b n 6 e) < 1000 := tvl_l c5 (by decide)
  have w6 : tvl b n (tn b n 8 e) < 1000 := tvl_l c6 (by omega)
  have o : ∀ j, j < 10 → j ≠ 4 → uF (uF (uF (uF (uF F (11 + 4 * F 4) kd) (12 + 4 * F 4) (tvl b n (tn b n 4 e))) (13 + 4 * F 4) (tvl b n (tn b n 6 e))) (14 + 4 * F 4) (tvl b n (tn b n 8 e))) 4 (F 4 + 1) j = F j := fun j h1 h2 => PC_face_o (by omega)
  refine ⟨⟨⟨⟨?_, ?_, ?_, ?_, ?_, ?_, ?_⟩, uF_lt (uF_lt (uF_lt (uF_lt (uF_lt BF (by omega)) w4) w5) w6) (by omega), ?_, ?_, ?_, ?_⟩, BW_c hw (o 3 (by decide) (by decide))⟩, rfl⟩
  · dsimp only; rw [o 0 (by decide) (by decide)]; exact B0
  · dsimp only; rw [o 1 (by decide) (by decide)]; exact B1
  · dsimp only; rw [o 3 (by decide) (by decide)]; exact B3
  · show F 4 + 1 ≤ 6; omega
  · dsimp only; rw [o 5 (by decide) (by decide)]; exact B5
  · dsimp only; rw [o 6 (by decide) (by decide)]; exact B6
  · dsimp only; rw [o 7 (by decide) (by decide)]; exact B7
  · dsimp only; rw [o 3 (by decide) (by decide)]; exact Bp
  · dsimp only; rw [o 5 (by decide) (by decide), o 6 (by decide) (by decide), List.length_append]
    show nm.length + 1 = F 4 + 1 + F 5 + F 6
    omega
  · exact nms_a Bs ⟨show 1 < 10 by decide, show F 4 < 6 by omega⟩
  · dsimp only; rw [o 0 (by decide) (by decide), o 1 (by decide) (by decide)]; exact Bt
theorem B2_canon (hB : B2 (F, W, nm, e)) (h : lnCanon b n F W nm e = .inr P') : B2 P' ∧ P'.2.2.2 = tn b n 7 e := by
  obtain ⟨⟨⟨B0, B1, B3, B4, B5, B6, B7⟩, BF, Bp, Bn, Bs, Bt⟩, hw⟩ := hB
  have hw : BW F W := hw
  have Bs : ∀ i, i < nm.length → (nmD nm i).2.2.1 < 10 ∧ (nmD nm i).2.2.2 < 6 := Bs
  have Bn : nm.length = F 4 + F 5 + F 6 := Bn
  unfold lnCanon at h
  split at h
  · cases h
  rename_i c1
  split at h
  · cases h
  split at h
  · cases h
  split at h
  · cases h
  split at h
  · cases h
  rename_i c4
  split at h
  · cases h
  rename_i c5
  cases h
  have Bs2 := nms_a (x := nw b n (tn b n 1 e) 2 (F 5)) Bs ⟨show 2 < 10 by decide, show F 5 < 6 by omega⟩
  have f6 : (nam b n (nm ++ [nw b n (tn b n 1 e) 2 (F 5)]) 1 (tn b n 2 e)).2 < 6 := nam_6 (fun i hi => (Bs2 i hi).2)
  have w4 : tvl b n (tn b n 4 e) < 1000 := tvl_l c4 (by decide)
  have w5 : tvl b n (tn b n 6 e) < 1000 := tvl_l c5 (by decide)
  have o : ∀ j, j < 10 → j ≠ 5 → uF (uF (uF (uF F (300 + F 5) (nam b n (nm ++ [nw b n (tn b n 1 e) 2 (F 5)]) 1 (tn b n 2 e)).2) (35 + 2 * F 5) (tvl b n (tn b n 4 e))) (36 + 2 * F 5) (tvl b n (tn b n 6 e))) 5 (F 5 + 1) j = F j := fun j h1 h2 => PC_canon_o (by omega)
  refine ⟨⟨⟨⟨?_, ?_, ?_, ?_, ?_, ?_, ?_⟩, uF_lt (uF_lt (uF_lt (uF_lt BF (by omega)) w4) w5) (by omega), ?_, ?_, ?_, ?_⟩, BW_c hw (o 3 (by decide) (by decide))⟩, rfl⟩
  · dsimp only; rw [o 0 (by decide) (by decide)]; exact B0
  · dsimp only; rw [o 1 (by decide) (by decide)]; exact B1
  · dsimp only; rw [o 3 (by decide) (by decide)]; exact B3
  · dsimp only; rw [o 4 (by decide) (by decide)]; exact B4
  · show F 5 + 1 ≤ 5; omega
  · dsimp only; rw [o 6 (by decide) (by decide)]; exact B6
  · dsimp only; rw [o 7 (by decide) (by decide)]; exact B7
  · dsimp only; rw [o 3 (by decide) (by decide)]; exact Bp
  · dsimp only; rw [o 4 (by decide) (by decide), o 6 (by decide) (by decide), List.length_append]
    show nm.length + 1 = F 4 + (F 5 + 1) + F 6
    omega
  · exact Bs2
  · dsimp only; rw [o 0 (by decide) (by decide), o 1 (by decide) (by decide)]; exact Bt
theorem B2_walker (hB : B2 (F, W, nm, e)) (h : lnWalker b n F W nm e = .inr P') : B2 P' ∧ P'.2.2.2 = tn b n 6 e := by
  obtain ⟨⟨⟨B0, B1, B3, B4, B5, B6, B7⟩, BF, Bp, Bn, Bs, Bt⟩, hw⟩ := hB
  have hw : BW F W := hw
  have Bs : ∀ i, i < nm.length → (nmD nm i).2.2.1 < 10 ∧ (nmD nm i).2.2.2 < 6 := Bs
  have Bn : nm.length = F 4 + F 5 + F 6 := Bn
  have B0 : F 0 ≤ 5 := B0
  have B1 : F 1 ≤ 4 := B1
  have hc20 : F 0 * F 1 ≤ 5 * 4 := Nat.mul_le_mul B0 B1
  unfold lnWalker at h
  split at h
  · cases h
  rename_i c1
  split at h
  · cases h
  split at h
  · cases h
  rename_i c4
  split at h
  · cases h
  split at h
  · cases h
  rename_i c5
  split at h
  · cases h
  cases h
  have w4 : tvl b n (tn b n 3 e) < 1000 := tvl_l c4 (by omega)
  have w5 : tvl b n (tn b n 5 e) < 1000 := tvl_l c5 (by omega)
  have o : ∀ j, j < 10 → j ≠ 6 → uF (uF (uF F (45 + 2 * F 6) (tvl b n (tn b n 3 e))) (46 + 2 * F 6) (tvl b n (tn b n 5 e))) 6 (F 6 + 1) j = F j := fun j h1 h2 => PC_walker_o (by omega)
  refine ⟨⟨⟨⟨?_, ?_, ?_, ?_, ?_, ?_, ?_⟩, uF_lt (uF_lt (uF_lt BF w4) w5) (by omega), ?_, ?_, ?_, ?_⟩, BW_c hw (o 3 (by decide) (by decide))⟩, rfl⟩
  · dsimp only; rw [o 0 (by decide) (by decide)]; exact B0
  · dsimp only; rw [o 1 (by decide) (by decide)]; exact B1
  · dsimp only; rw [o 3 (by decide) (by decide)]; exact B3
  · dsimp only; rw [o 4 (by decide) (by decide)]; exact B4
  · dsimp only; rw [o 5 (by decide) (by decide)]; exact B5
  · show F 6 + 1 ≤ 4; omega
  · dsimp only; rw [o 7 (by decide) (by decide)]; exact B7
  · dsimp only; rw [o 3 (by decide) (by decide)]; exact Bp
  · dsimp only; rw [o 4 (by decide) (by decide), o 5 (by decide) (by decide), List.length_append]
    show nm.length + 1 = F 4 + F 5 + (F 6 + 1)
    omega
  · exact nms_a Bs ⟨show 3 < 10 by decide, show F 6 < 6 by omega⟩
  · dsimp only; rw [o 0 (by decide) (by decide), o 1 (by decide) (by decide)]; exact Bt
theorem B2_unsure (hB : B2 (F, W, nm, e)) (h : lnUnsure b n F W nm e = .inr P') : B2 P' ∧ P'.2.2.2 = tn b n 3 e := by
  obtain ⟨⟨⟨B0, B1, B3, B4, B5, B6, B7⟩, BF, Bp, Bn, Bs, Bt⟩, hw⟩ := hB
  have hw : BW F W := hw
  have Bs : ∀ i, i < nm.length → (nmD nm i).2.2.1 < 10 ∧ (nmD nm i).2.2.2 < 6 := Bs
  unfold lnUnsure at h
  split at h
  · cases h
  rename_i c1
  split at h
  · cases h
  split at h
  · cases h
  split at h
  · cases h
  rename_i c4
  cases h
  have f6 : (nam b n nm 2 (tn b n 1 e)).2 < 6 := nam_6 (fun i hi => (Bs i hi).2)
  have w4 := (bnd_v (Decidable.not_not.mp c4)).2
  have o : ∀ j, j < 10 → j ≠ 7 → uF (uF (uF F (53 + 2 * F 7) (nam b n nm 2 (tn b n 1 e)).2) (54 + 2 * F 7) (tvl b n (tn b n 2 e))) 7 (F 7 + 1) j = F j := fun j h1 h2 => PC_unsure_o (by omega)
  refine ⟨⟨⟨⟨?_, ?_, ?_, ?_, ?_, ?_, ?_⟩, uF_lt (uF_lt (uF_lt BF (by omega)) (by omega)) (by omega), ?_, ?_, ?_, ?_⟩, BW_c hw (o 3 (by decide) (by decide))⟩, rfl⟩
  · dsimp only; rw [o 0 (by decide) (by decide)]; exact B0
  · dsimp only; rw [o 1 (by decide) (by decide)]; exact B1
  · dsimp only; rw [o 3 (by decide) (by decide)]; exact B3
  · dsimp only; rw [o 4 (by decide) (by decide)]; exact B4
  · dsimp only; rw [o 5 (by decide) (by decide)]; exact B5
  · dsimp only; rw [o 6 (by decide) (by decide)]; exact B6
  · show F 7 + 1 ≤ 4; omega
  · dsimp only; rw [o 3 (by decide) (by decide)]; exact Bp
  · dsimp only; rw [o 4 (by decide) (by decide), o 5 (by decide) (by decide), o 6 (by decide) (by decide)]; exact Bn
  · exact Bs
  · dsimp only; rw [o 0 (by decide) (by decide), o 1 (by decide) (by decide)]; exact Bt
theorem B2_dropped (F8 : F 8 + 1 < 1000) (hB : B2 (F, W, nm, e)) (h : lnDropped b n F W nm e = .inr P') : B2 P' ∧ P'.2.2.2 = tn b n 4 e := by
  obtain ⟨⟨⟨B0, B1, B3, B4, B5, B6, B7⟩, BF, Bp, Bn, Bs, Bt⟩, hw⟩ := hB
  have hw : BW F W := hw
  unfold lnDropped at h
  split at h
  · cases h
  split at h
  · cases h
  split at h
  · cases h
  rename_i c4
  cases h
  have w4 : tvl b n (tn b n 3 e) < 1000 := tvl_l c4 (by decide)
  have o : ∀ j, j < 10 → j ≠ 8 → uF (uF F (61 + (nam b n nm 1 (tn b n 1 e)).2) (tvl b n (tn b n 3 e))) 8 (F 8 + 1) j = F j := fun j h1 h2 => by rw [uF_o h2, uF_o (by omega)]
  refine ⟨⟨⟨⟨?_, ?_, ?_, ?_, ?_, ?_, ?_⟩, uF_lt (uF_lt BF w4) F8, ?_, ?_, Bs, ?_⟩, BW_c hw (o 3 (by decide) (by decide))⟩, rfl⟩
  · dsimp only; rw [o 0 (by decide) (by decide)]; exact B0
  · dsimp only; rw [o 1 (by decide) (by decide)]; exact B1
  · dsimp only; rw [o 3 (by decide) (by decide)]; exact B3
  · dsimp only; rw [o 4 (by decide) (by decide)]; exact B4
  · dsimp only; rw [o 5 (by decide) (by decide)]; exact B5
  · dsimp only; rw [o 6 (by decide) (by decide)]; exact B6
  · dsimp only; rw [o 7 (by decide) (by decide)]; exact B7
  · dsimp only; rw [o 3 (by decide) (by decide)]; exact Bp
  · dsimp only; rw [o 4 (by decide) (by decide), o 5 (by decide) (by decide), o 6 (by decide) (by decide)]; exact Bn
  · dsimp only; rw [o 0 (by decide) (by decide), o 1 (by decide) (by decide)]; exact Bt
end BDM
end
section
/-! all bounds behind a line; the class's reads -/
section BDN
variable {b : Nat → Nat} {n e : Nat} {nm : List Nm} {F : Nat → Nat} {W : Int32} {P' : Ps}
noncomputable def z1 (v : Nat) : Nat := if v = 0 then 0 else 1
noncomputable def dcn (F : Nat → Nat) : Nat := z1 (F 61) + z1 (F 62) + z1 (F 63) + z1 (F 64) + z1 (F 65) + z1 (F 66)
theorem z1_b {v : Nat} : z1 v ≤ 1 := by unfold z1; split <;> omega
theorem dcn_6 : dcn F ≤ 6 := by
  have a1 := z1_b (v := F 61)
  have a2 := z1_b (v := F 62)
  have a3 := z1_b (v := F 63)
  have a4 := z1_b (v := F 64)
  have a5 := z1_b (v := F 65)
  have a6 := z1_b (v := F 66)
  unfold dcn
  omega
theorem dcn_cg {F' : Nat → Nat} (h : ∀ j, 61 ≤ j → j ≤ 66 → F' j = F j) : dcn F' = dcn F := by
  unfold dcn
  rw [h 61 (by decide) (by decide), h 62 (by decide) (by decide), h 63 (by decide) (by decide), h 64 (by decide) (by decide), h 65 (by decide) (by decide), h 66 (by decide) (by decide)]
theorem dcn_a {f v : Nat} (hf : f < 6) (h0 : F (61 + f) = 0) (hv : v ≠ 0) : dcn (uF F (61 + f) v) = dcn F + 1 := by
  have s : z1 v = 1 := if_neg hv
  have o : z1 0 = 0 := rfl
  rcases (show f = 0 ∨ f = 1 ∨ f = 2 ∨ f = 3 ∨ f = 4 ∨ f = 5 by omega) with rfl | rfl | rfl | rfl | rfl | rfl
  · have h0 : F 61 = 0 := h0
    show z1 v + z1 (F 62) + z1 (F 63) + z1 (F 64) + z1 (F 65) + z1 (F 66) = z1 (F 61) + z1 (F 62) + z1 (F 63) + z1 (F 64) + z1 (F 65) + z1 (F 66) + 1
    rw [h0]; omega
  · have h0 : F 62 = 0 := h0
    show z1 (F 61) + z1 v + z1 (F 63) + z1 (F 64) + z1 (F 65) + z1 (F 66) = z1 (F 61) + z1 (F 62) + z1 (F 63) + z1 (F 64) + z1 (F 65) + z1 (F 66) + 1
    rw [h0]; omega
  · have h0 : F 63 = 0 := h0
    show z1 (F 61) + z1 (F 62) + z1 v + z1 (F 64) + z1 (F 65) + z1 (F 66) = z1 (F 61) + z1 (F 62) + z1 (F 63) + z1 (F 64) + z1 (F 65) + z1 (F 66) + 1
    rw [h0]; omega
  · have h0 : F 64 = 0 := h0
    show z1 (F 61) + z1 (F 62) + z1 (F 63) + z1 v + z1 (F 65) + z1 (F 66) = z1 (F 61) + z1 (F 62) + z1 (F 63) + z1 (F 64) + z1 (F 65) + z1 (F 66) + 1
    rw [h0]; omega
  · have h0 : F 65 = 0 := h0
    show z1 (F 61) + z1 (F 62) + z1 (F 63) + z1 (F 64) + z1 v + z1 (F 66) = z1 (F 61) + z1 (F 62) + z1 (F 63) + z1 (F 64) + z1 (F 65) + z1 (F 66) + 1
    rw [h0]; omega
  · have h0 : F 66 = 0 := h0
    show z1 (F 61) + z1 (F 62) + z1 (F 63) + z1 (F 64) + z1 (F 65) + z1 v = z1 (F 61) + z1 (F 62) + z1 (F 63) + z1 (F 64) + z1 (F 65) + z1 (F 66) + 1
    rw [h0]; omega
noncomputable def B3 (P : Ps) : Prop := B2 P ∧ P.1 8 = dcn P.1
theorem dcn_k {F' : Nat → Nat} (hD : F 8 = dcn F) (h8 : F' 8 = F 8) (h : ∀ j, 61 ≤ j → j ≤ 66 → F' j = F j) : F' 8 = dcn F' := by
  rw [h8, dcn_cg h]
  exact hD
theorem B3_ln (hB : B3 (F, W, nm, e)) (he : e ≤ n) (h : ln b n F W nm e = .inr P') : B3 P' ∧ P'.2.2.2 ≤ n ∧ e < P'.2.2.2 := by
  obtain ⟨hB, hD⟩ := hB
  have hD : F 8 = dcn F := hD
  have hbd : Bd F W nm := hB.1
  have B4 : F 4 ≤ 6 := hbd.1.2.2.2.1
  have B5 : F 5 ≤ 5 := hbd.1.2.2.2.2.1
  have B6 : F 6 ≤ 4 := hbd.1.2.2.2.2.2.1
  have B7 : F 7 ≤ 4 := hbd.1.2.2.2.2.2.2
  unfold ln at h
  split at h
  · cases h
  rename_i c0
  have hg : bgl b n e = true := by
    cases hq : bgl b n e with
    | true => rfl
    | false => exact absurd hq c0
  have fin : ∀ k, 1 ≤ k → P'.2.2.2 = tn b n k e → P'.2.2.2 ≤ n ∧ e < P'.2.2.2 := fun k hk hx => by
    rw [hx]
    exact ⟨tn_b he k, ln_gt he hg k hk⟩
  split at h
  · split at h
    · cases h
    · obtain ⟨h1, h2⟩ := B2_close hB h
      refine ⟨⟨h1, ?_⟩, fin 7 (by decide) h2⟩
      unfold lnClose at h
      split at h
      · cases h
      split at h
      · cases h
      split at h
      · cases h
      cases h
      exact dcn_k hD rfl (fun j z1 z2 => uFx (by omega))
  split at h
  · cases h
  rename_i c2
  have hT : 0 < F 0 := by omega
  split at h
  · obtain ⟨h1, h2⟩ := B2_wall hT hB h
    refine ⟨⟨h1, ?_⟩, fin 2 (by decide) h2⟩
    unfold lnWall at h
    split at h
    · cases h
    split at h
    · cases h
    split at h
    · cases h
    split at h
    · cases h
    cases h
    exact dcn_k hD rfl (fun j z1 z2 => uF_o (by omega))
  split at h
  · obtain ⟨h1, h2⟩ := B2_face hT hB h
    refine ⟨⟨h1, ?_⟩, fin 9 (by decide) h2⟩
    unfold lnFace at h
    split at h
    · cases h
    rename_i c1
    split at h
    · cases h
    split at h
    · cases h
    split at h
    · cases h
    split at h
    · cases h
    split at h
    · cases h
    split at h
    · cases h
    cases h
    exact dcn_k hD (PC_face_o (F := F) (j := 8) (by omega)) (fun j z1 z2 => PC_face_o (F := F) (j := j) (by omega))
  split at h
  · obtain ⟨h1, h2⟩ := B2_canon hB h
    refine ⟨⟨h1, ?_⟩, fin 7 (by decide) h2⟩
    unfold lnCanon at h
    split at h
    · cases h
    rename_i c1
    split at h
    · cases h
    split at h
    · cases h
    split at h
    · cases h
    split at h
    · cases h
    split at h
    · cases h
    cases h
    exact dcn_k hD (PC_canon_o (F := F) (j := 8) (by omega)) (fun j z1 z2 => PC_canon_o (F := F) (j := j) (by omega))
  split at h
  · obtain ⟨h1, h2⟩ := B2_walker hB h
    refine ⟨⟨h1, ?_⟩, fin 6 (by decide) h2⟩
    unfold lnWalker at h
    split at h
    · cases h
    rename_i c1
    split at h
    · cases h
    split at h
    · cases h
    split at h
    · cases h
    split at h
    · cases h
    split at h
    · cases h
    cases h
    exact dcn_k hD (PC_walker_o (F := F) (j := 8) (by omega)) (fun j z1 z2 => PC_walker_o (F := F) (j := j) (by omega))
  split at h
  · obtain ⟨h1, h2⟩ := B2_unsure hB h
    refine ⟨⟨h1, ?_⟩, fin 3 (by decide) h2⟩
    unfold lnUnsure at h
    split at h
    · cases h
    rename_i c1
    split at h
    · cases h
    split at h
    · cases h
    split at h
    · cases h
    cases h
    exact dcn_k hD (PC_unsure_o (F := F) (j := 8) (by omega)) (fun j z1 z2 => PC_unsure_o (F := F) (j := j) (by omega))
  · have d6 := dcn_6 (F := F)
    obtain ⟨h1, h2⟩ := B2_dropped (by omega) hB h
    refine ⟨⟨h1, ?_⟩, fin 4 (by decide) h2⟩
    unfold lnDropped at h
    split at h
    · cases h
    split at h
    · cases h
    rename_i c2
    split at h
    · cases h
    rename_i c3
    cases h
    have f6 : (nam b n nm 1 (tn b n 1 e)).2 < 6 := nam_6 (fun i hi => (hbd.2.2.2.2.1 i hi).2)
    have v1 := (lab_v c3).1
    have v1 : 1 ≤ tvl b n (tn b n 3 e) := v1
    show F 8 + 1 = dcn (uF (uF F (61 + (nam b n nm 1 (tn b n 1 e)).2) (tvl b n (tn b n 3 e))) 8 (F 8 + 1))
    rw [dcn_cg (F' := uF (uF F (61 + (nam b n nm 1 (tn b n 1 e)).2) (tvl b n (tn b n 3 e))) 8 (F 8 + 1)) (F := uF F (61 + (nam b n nm 1 (tn b n 1 e)).2) (tvl b n (tn b n 3 e))) (fun j z1 z2 => uF_o (by omega)), dcn_a f6 (Decidable.not_not.mp c2) (by omega), hD]
end BDN
section RDC
variable {l : Launch} {X : Nat × (Nat → Int32)} {d : Nat} {w : Nat × Nat} {p r : Nat} {I : Nat → Nat → Int32} {L : Nat → Nat → Int64} {kr : KR} {b : Nat → Nat} {n e : Nat} {nm : List Nm} {F : Nat → Nat} {W : Int32}
noncomputable def F00 : Nat → Nat := fun _ => 0
set_option maxHeartbeats 2000000 in
set_option maxRecDepth 20000 in
theorem x_clear (hq : r = 7 ∨ r = 20) (h : ∀ I', (∀ a i, a ≠ r → a ≠ r + 5 → I' a i = I a i) → PC r F00 0 I' → kr none (mk w p r I' L)) : Ev l X uX3_clear d true 0 0 [.ref r] (mk w p r I L) kr := by
  refine Ev.of (by decide) (Nat.le_of_ble_eq_true rfl) ?_
  rcases hq with rfl | rfl
  · refine Wf.gc tkX3_clear [42] ?_
    conv => whnf
    show Wf l X uX3_clear d true (mC (mk w p 7 I L) + 0, mS (mk w p 7 I L) + 0) 42 [(0, .ref 7), (1, .int (nI 0))] [] (mk w p 7 (u2 (u2 (u2 (u2 (u2 (u2 (u2 (u2 I 7 0 0) 7 1 0) 7 2 0) 7 3 0) 7 4 0) 7 10 0) 7 14 0) 7 17 0) L) kr
    obtain ⟨J, hJ⟩ : ∃ J, J = u2 (u2 (u2 (u2 (u2 (u2 (u2 (u2 I 7 0 0) 7 1 0) 7 2 0) 7 3 0) 7 4 0) 7 10 0) 7 14 0) 7 17 0 := ⟨_, rfl⟩
    rw [← hJ]
    have loop : ∀ i, i ≤ 6 → ∀ K : Nat → Nat → Int32, (∀ a j, a ≠ 12 → K a j = J a j) → (∀ j, j < i → K 12 j = 0) → Wf l X uX3_clear d true (mC (mk w p 7 I L) + 0, mS (mk w p 7 I L) + 0) 42 [(0, .ref 7), (1, .int (nI i))] [] (mk w p 7 K L) kr := by
      refine down _ 6 ?_ ?_
      · intro K hK hz
        refine Wf.gc tkX3_clear [] ?_
        conv => whnf
        refine b1' (by show (6 : Int32) ≤ nI 6; decide) ?_
        conv => whnf
        refine h K (fun a i z1 z2 => ?_) ⟨⟨?_, ?_, ?_, ?_, ?_, ?_, ?_, ?_⟩, fun f hf => absurd hf (Nat.not_lt_zero _), fun f hf => hz f hf, fun f hf => absurd hf (Nat.not_lt_zero _), fun f hf => absurd hf (Nat.not_lt_zero _), fun f hf => absurd hf (Nat.not_lt_zero _)⟩
        · rw [hK a i (by omega), hJ, u2_o (by omega), u2_o (by omega), u2_o (by omega), u2_o (by omega), u2_o (by omega), u2_o (by omega), u2_o (by omega), u2_o (by omega)]
        all_goals
          rw [hK 7 _ (by decide), hJ]
          rfl
      · intro i hi ih K hK hz
        refine Wf.gc tkX3_clear [42] ?_
        conv => whnf
        refine b2' (by show ¬ (6 : Int32) ≤ nI i; rw [show (6 : Int32) = nI 6 from rfl]; exact nI_ge hi (by decide)) ?_
        conv => whnf
        refine ⟨i, ix (N := 6) hi (by decide), ?_⟩
        conv => whnf
        have q := ih (u2 K 12 i 0) (fun a j z => by rw [u2_o (by omega)]; exact hK a j z) (fun j hj => by
          by_cases e : j = i
          · rw [e, u2_s]
          · rw [u2_o (by omega)]; exact hz j (by omega))
        rw [← nI_1] at q
        exact q
    exact loop 0 (by decide) J (fun _ _ _ => rfl) (fun j hj => absurd hj (Nat.not_lt_zero _))
  · refine Wf.gc tkX3_clear [42] ?_
    conv => whnf
    show Wf l X uX3_clear d true (mC (mk w p 20 I L) + 0, mS (mk w p 20 I L) + 0) 42 [(0, .ref 20), (1, .int (nI 0))] [] (mk w p 20 (u2 (u2 (u2 (u2 (u2 (u2 (u2 (u2 I 20 0 0) 20 1 0) 20 2 0) 20 3 0) 20 4 0) 20 10 0) 20 14 0) 20 17 0) L) kr
    obtain ⟨J, hJ⟩ : ∃ J, J = u2 (u2 (u2 (u2 (u2 (u2 (u2 (u2 I 20 0 0) 20 1 0) 20 2 0) 20 3 0) 20 4 0) 20 10 0) 20 14 0) 20 17 0 := ⟨_, rfl⟩
    rw [← hJ]
    have loop : ∀ i, i ≤ 6 → ∀ K : Nat → Nat → Int32, (∀ a j, a ≠ 25 → K a j = J a j) → (∀ j, j < i → K 25 j = 0) → Wf l X uX3_clear d true (mC (mk w p 20 I L) + 0, mS (mk w p 20 I L) + 0) 42 [(0, .ref 20), (1, .int (nI i))] [] (mk w p 20 K L) kr := by
      refine down _ 6 ?_ ?_
      · intro K hK hz
        refine Wf.gc tkX3_clear [] ?_
        conv => whnf
        refine b1' (by show (6 : Int32) ≤ nI 6; decide) ?_
        conv => whnf
        refine h K (fun a i z1 z2 => ?_) ⟨⟨?_, ?_, ?_, ?_, ?_, ?_, ?_, ?_⟩, fun f hf => absurd hf (Nat.not_lt_zero _), fun f hf => hz f hf, fun f hf => absurd hf (Nat.not_lt_zero _), fun f hf => absurd hf (Nat.not_lt_zero _), fun f hf => absurd hf (Nat.not_lt_zero _)⟩
        · rw [hK a i (by omega), hJ, u2_o (by omega), u2_o (by omega), u2_o (by omega), u2_o (by omega), u2_o (by omega), u2_o (by omega), u2_o (by omega), u2_o (by omega)]
        all_goals
          rw [hK 20 _ (by decide), hJ]
          rfl
      · intro i hi ih K hK hz
        refine Wf.gc tkX3_clear [42] ?_
        conv => whnf
        refine b2' (by show ¬ (6 : Int32) ≤ nI i; rw [show (6 : Int32) = nI 6 from rfl]; exact nI_ge hi (by decide)) ?_
        conv => whnf
        refine ⟨i, ix (N := 6) hi (by decide), ?_⟩
        conv => whnf
        have q := ih (u2 K 25 i 0) (fun a j z => by rw [u2_o (by omega)]; exact hK a j z) (fun j hj => by
          by_cases e : j = i
          · rw [e, u2_s]
          · rw [u2_o (by omega)]; exact hz j (by omega))
        rw [← nI_1] at q
        exact q
    exact loop 0 (by decide) J (fun _ _ _ => rfl) (fun j hj => absurd hj (Nat.not_lt_zero _))
end RDC
end
section
/-! the class's reads -/
section RDS
variable {l : Launch} {X : Nat × (Nat → Int32)} {d : Nat} {w : Nat × Nat} {p r : Nat} {I : Nat → Nat → Int32} {L : Nat → Nat → Int64} {kr : KR} {b : Nat → Nat} {n e : Nat} {nm : List Nm} {F : Nat → Nat} {W : Int32}
noncomputable def P00 : Ps := (F00, 0, [], 0)
theorem B3_00 : B3 P00 := by
  refine ⟨⟨⟨⟨by decide, by decide, by decide, by decide, by decide, by decide, by decide⟩, fun k => by show 0 < 1000; decide, by decide +kernel, rfl, fun i hi => absurd hi (Nat.not_lt_zero _), fun z => absurd z (by decide)⟩, 0, by decide, rfl, by decide⟩, by decide⟩
set_option maxHeartbeats 2000000 in
set_option maxRecDepth 20000 in
/-- the lines' loop -/
theorem x_rloop {J0 : Nat → Nat → Int32} {K0 : Nat → Nat → Int64} {av : List Value} {MM : Mm} (hq : r = 7 ∨ r = 20) (ha : ∃ v, av = [v]) (hE : ∀ er, ∀ I' L', sL r J0 I' K0 L' → I' 2 13 = nI er.1 → I' 2 14 = nI er.2 → rdT b n (n + 1) P00 = .inl er → kr (some (.int 0)) (mk w p r I' L')) (hO : ∀ P', rdT b n (n + 1) P00 = .inr P' → ∀ I' L', sL r J0 I' K0 L' → SC b n r P' I' L' → kr (some (.int 1)) (mk w p r I' L')) (hn9 : n ≤ 900) :
    ∀ (f j : Nat), f + j = n + 1 → ∀ (P : Ps) (I : Nat → Nat → Int32) (L : Nat → Nat → Int64), rdT b n f P = rdT b n (n + 1) P00 → B3 P → sL r J0 I K0 L → SC b n r P I L → ∀ (x : Int32) (y : Nat), Wf l X uX4_reads (d + 11) true (mC MM + 0, mS MM + 0) 49 [(0, .ref 2), (1, .int x), (2, .ref y), (3, .int (nI j))] [] (mk w p r I L) kr := by
  intro f
  induction f with
  | zero =>
    intro j hj P I L hr hB hs hS x y
    obtain ⟨tx, he, hc, nc, pc⟩ := id hS
    refine Wf.gc tkX4_reads [] ?_
    conv => whnf
    refine b1' (by show I 2 2 < nI j; rw [tx.2.1, nI_ltI (by omega) (by omega)]; omega) ?_
    conv => whnf
    refine x_fails hc ?_
    conv => whnf
    exact ⟨Or.inl rfl, hE (1, tst b n P.2.2.2) (fl I 1 (tst b n P.2.2.2)) L (hs.tr sL_fl) fl_13 fl_14 hr.symm⟩
  | succ f ih =>
    intro j hj P I L hr hB hs hS x y
    obtain ⟨F, W, nm, e⟩ := P
    obtain ⟨tx, he, hc, nc, pc⟩ := id hS
    have he : e ≤ n := he
    refine Wf.gc tkX4_reads [66] ?_
    conv => whnf
    refine b2' (by show ¬ I 2 2 < nI j; rw [tx.2.1, nI_ltI (by omega) (by omega)]; omega) ?_
    conv => whnf
    unfold rdT at hr
    dsimp only at hr
    refine x_readsLine (d := d) hq hB.1.1 hS (fun er hl I' L' h1 h2 h3 => ?_) (fun P' hl I' L' h1 hS' => ?_)
    · rw [hl] at hr
      conv => whnf
      refine b2 (by decide) ?_
      conv => whnf
      exact ⟨Or.inl rfl, hE er I' L' (hs.tr h1) h2 h3 hr.symm⟩
    · rw [hl] at hr
      dsimp only at hr
      obtain ⟨hB', he', -⟩ := B3_ln hB he hl
      obtain ⟨tx', -, hc', nc', pc'⟩ := id hS'
      have s5 := tso_5 (b := b) (n := n) (e := P'.2.2.2)
      conv => whnf
      refine b1 (by decide) ?_
      conv => whnf
      show Wf l X uX4_reads (d + 11) true (mC MM + 0, mS MM + 0) 66 [(0, .ref 2), (1, .int x), (2, .ref y), (3, .int (nI j))] [] (mk w p r I' L') kr
      have mid : tso b n P'.2.2.2 ≠ 0 → Wf l X uX4_reads (d + 11) true (mC MM + 0, mS MM + 0) 98 [(0, .ref 2), (1, .int x), (2, .ref y), (3, .int (nI j))] [] (mk w p r I' L') kr := by
        intro z0
        rw [if_neg z0] at hr
        refine Wf.gc tkX4_reads [49] ?_
        conv => whnf
        refine ⟨fun z => ?_, fun z => ?_⟩
        · have z : I' 2 4 = 3 := z
          rw [hc'.1, show (3 : Int32) = nI 3 from rfl, nI_eq (by omega) (by decide)] at z
          rw [if_pos z] at hr
          conv => whnf
          have hsp := tsp_b (b := b) he'
          refine x_take (d := d + 9) tx' hsp.2 hc'.2.2.1 (fun I2 L2 hs2 hc2 => ?_)
          conv => whnf
          have q := ih (j + 1) (by omega) (P'.1, P'.2.1, P'.2.2.1, tsp b n P'.2.2.2) I2 L2 hr hB' ((hs.tr h1).tr hs2.sL) ⟨TX_sT tx' hs2, hsp.2, hc2, NC_sT nc' hs2, PC_sT (by rcases hq with rfl | rfl <;> decide) pc' hs2⟩ x y
          rw [← nI_1] at q
          exact q
        · have z : ¬ I' 2 4 = 3 := z
          rw [hc'.1, show (3 : Int32) = nI 3 from rfl, nI_eq (by omega) (by decide)] at z
          rw [if_neg z] at hr
          conv => whnf
          refine x_fails hc' ?_
          conv => whnf
          exact ⟨Or.inl rfl, hE (1, tst b n P'.2.2.2) (fl I' 1 (tst b n P'.2.2.2)) L' ((hs.tr h1).tr sL_fl) fl_13 fl_14 hr.symm⟩
      have B4 : P'.1 4 ≤ 6 := hB'.1.1.1.2.2.2.1
      rcases hq with rfl | rfl
      · refine Wf.gc tkX4_reads [98] ?_
        conv => whnf
        refine ⟨fun z => ?_, fun z => ?_⟩
        · have z : ¬ I' 2 4 = 0 := z
          rw [hc'.1, show (0 : Int32) = nI 0 from rfl, nI_eq (by omega) (by decide)] at z
          conv => whnf
          exact mid z
        · have z : I' 2 4 = 0 := z
          rw [hc'.1, show (0 : Int32) = nI 0 from rfl, nI_eq (by omega) (by decide)] at z
          rw [if_pos z] at hr
          conv => whnf
          refine ⟨fun z2 => ?_, fun z2 => ?_⟩
          · have z2 : 0 < I' 7 4 := z2
            rw [show I' 7 4 = nI (P'.1 4) from pc'.1.2.2.2.2.1, show (0 : Int32) = nI 0 from rfl, nI_ltI (by decide) (by omega)] at z2
            rw [if_pos z2] at hr
            conv => whnf
            exact ⟨Or.inr rfl, hO P' hr.symm I' L' (hs.tr h1) hS'⟩
          · have z2 : ¬ 0 < I' 7 4 := z2
            rw [show I' 7 4 = nI (P'.1 4) from pc'.1.2.2.2.2.1, show (0 : Int32) = nI 0 from rfl, nI_ltI (by decide) (by omega)] at z2
            rw [if_neg z2] at hr
            conv => whnf
            refine x_fails hc' ?_
            conv => whnf
            refine b1 (by decide) ?_
            conv => whnf
            exact ⟨Or.inl rfl, hE (6, tst b n P'.2.2.2) (fl I' 6 (tst b n P'.2.2.2)) L' ((hs.tr h1).tr sL_fl) fl_13 fl_14 hr.symm⟩
      · refine Wf.gc tkX4_reads [98] ?_
        conv => whnf
        refine ⟨fun z => ?_, fun z => ?_⟩
        · have z : ¬ I' 2 4 = 0 := z
          rw [hc'.1, show (0 : Int32) = nI 0 from rfl, nI_eq (by omega) (by decide)] at z
          conv => whnf
          exact mid z
        · have z : I' 2 4 = 0 := z
          rw [hc'.1, show (0 : Int32) = nI 0 from rfl, nI_eq (by omega) (by decide)] at z
          rw [if_pos z] at hr
          conv => whnf
          refine ⟨fun z2 => ?_, fun z2 => ?_⟩
          · have z2 : 0 < I' 20 4 := z2
            rw [show I' 20 4 = nI (P'.1 4) from pc'.1.2.2.2.2.1, show (0 : Int32) = nI 0 from rfl, nI_ltI (by decide) (by omega)] at z2
            rw [if_pos z2] at hr
            conv => whnf
            exact ⟨Or.inr rfl, hO P' hr.symm I' L' (hs.tr h1) hS'⟩
          · have z2 : ¬ 0 < I' 20 4 := z2
            rw [show I' 20 4 = nI (P'.1 4) from pc'.1.2.2.2.2.1, show (0 : Int32) = nI 0 from rfl, nI_ltI (by decide) (by omega)] at z2
            rw [if_neg z2] at hr
            conv => whnf
            refine x_fails hc' ?_
            conv => whnf
            refine b1 (by decide) ?_
            conv => whnf
            exact ⟨Or.inl rfl, hE (6, tst b n P'.2.2.2) (fl I' 6 (tst b n P'.2.2.2)) L' ((hs.tr h1).tr sL_fl) fl_13 fl_14 hr.symm⟩
end RDS
end
section
/-! the class's close, exactly -/
section CLX
variable {l : Launch} {X : Nat × (Nat → Int32)} {d : Nat} {w : Nat × Nat} {p r : Nat} {I : Nat → Nat → Int32} {L : Nat → Nat → Int64} {kr : KR} {b : Nat → Nat} {n e : Nat}
theorem x_min {x y : Int32} {M : Mm} (h : kr (some (.int (if y < x then y else x))) M) : Ev l X uJ9_min_7cf53 d true 0 0 [.int x, .int y] M kr := by
  refine Ev.ofF (by decide +kernel) (Nat.le_of_ble_eq_true rfl) ?_
  refine Wf.gc tkJ9_min_7cf53 [] ?_
  conv => whnf
  refine ⟨fun z => ?_, fun z => ?_⟩
  · have z : y < x := z
    rw [if_pos z] at h
    conv => whnf
    exact h
  · have z : ¬ y < x := z
    rw [if_neg z] at h
    conv => whnf
    exact h
theorem bleF {a c : Nat} (h : c < a) : Nat.ble a c = false := by
  cases hq : Nat.ble a c with
  | false => rfl
  | true => have := Nat.le_of_ble_eq_true hq; omega
theorem beqF {a c : Nat} (h : a ≠ c) : Nat.beq a c = false := by
  cases hq : Nat.beq a c with
  | false => rfl
  | true => exact absurd (Nat.eq_of_beq_eq_true hq) h
theorem R0_r {q a k : Nat} (h : ¬ (a = 2 ∧ k = 3)) : R0 p r a k = R0 p q a k := by
  rcases Nat.lt_or_ge a 2 with z | z
  · rcases (show a = 0 ∨ a = 1 by omega) with rfl | rfl <;> rfl
  · rcases Nat.lt_or_ge 2 a with z2 | z2
    · unfold R0
      rw [bleF z2]
      rfl
    · have e : a = 2 := by omega
      subst e
      show R0_2 p r k = R0_2 p q k
      unfold R0_2
      rw [beqF (show k ≠ 3 by omega)]
      rfl
theorem wR_23 {q : Nat} : wR (mk w p r I L) 2 3 q = mk w p q I L := by
  show ((167, w.1, w.2, K0), I, L, fun c j => if c = 2 ∧ j = 3 then q else R0 p r c j) = ((167, w.1, w.2, K0), I, L, R0 p q)
  have e : (fun c j => if c = 2 ∧ j = 3 then q else R0 p r c j) = R0 p q := by
    funext c j
    by_cases h : c = 2 ∧ j = 3
    · rw [if_pos h, h.1, h.2]; rfl
    · rw [if_neg h]; exact R0_r h
  rw [e]
theorem R0_p {q a k : Nat} (h : ¬ (a = 1 ∧ (k = 1 ∨ k = 2))) : R0 p r a k = R0 q r a k := by
  rcases Nat.lt_or_ge a 1 with z | z
  · have e : a = 0 := by omega
    subst e
    rfl
  · rcases Nat.lt_or_ge 1 a with z2 | z2
    · unfold R0
      rw [bleF z2]
      rfl
    · have e : a = 1 := by omega
      subst e
      show R0_1 p r k = R0_1 q r k
      unfold R0_1
      rw [beqF (show k ≠ 1 by omega), beqF (show k ≠ 2 by omega)]
      rfl
theorem wR_sw {q : Nat} (hq : 27 - q = p) : wR (wR (mk w p r I L) 1 1 q) 1 2 p = mk w q r I L := by
  show ((167, w.1, w.2, K0), I, L, fun c j => if c = 1 ∧ j = 2 then p else if c = 1 ∧ j = 1 then q else R0 p r c j) = ((167, w.1, w.2, K0), I, L, R0 q r)
  have e : (fun c j => if c = 1 ∧ j = 2 then p else if c = 1 ∧ j = 1 then q else R0 p r c j) = R0 q r := by
    funext c j
    by_cases h : c = 1 ∧ j = 2
    · rw [if_pos h, h.1, h.2]
      show p = 27 - q
      exact hq.symm
    · rw [if_neg h]
      by_cases h2 : c = 1 ∧ j = 1
      · rw [if_pos h2, h2.1, h2.2]; rfl
      · rw [if_neg h2]
        exact R0_p (by omega)
  rw [e]
/-- what close may change: the reader, the spare plan -/
noncomputable def sR (q : Nat) (I I' : Nat → Nat → Int32) (L L' : Nat → Nat → Int64) : Prop := (∀ a i, ¬ (a = 2 ∧ 2 ≤ i) → a ≠ 5 → a ≠ 6 → ¬ (q ≤ a ∧ a ≤ q + 12) → I' a i = I a i) ∧ ∀ a i, a ≠ 2 → a ≠ 4 → L' a i = L a i
set_option maxHeartbeats 2000000 in
set_option maxRecDepth 20000 in
theorem x_reads {q : Nat} (hq : q = 7 ∨ q = 20) (hn9 : n ≤ 900) (hb : ∀ i, i < n → b i < 256 ∧ I 3 i = sb (b i)) (hE : ∀ er, rdT b n (n + 1) P00 = .inl er → ∀ I' L', sR q I I' L L' → I' 2 13 = nI er.1 → I' 2 14 = nI er.2 → kr (some (.int 0)) (mk w p q I' L')) (hO : ∀ P', rdT b n (n + 1) P00 = .inr P' → ∀ I' L', sR q I I' L L' → SC b n q P' I' L' → kr (some (.int 1)) (mk w p q I' L')) : Ev l X uX4_reads (d + 11) true 0 0 [.ref 2, .int (nI n), .ref q] (mk w p r I L) kr := by
  refine Ev.of (by decide) (Nat.le_of_ble_eq_true rfl) ?_
  have p0 : Nat.blt 0 q = true := by rcases hq with rfl | rfl <;> rfl
  refine Wf.sAl tkX4_reads rfl rfl rfl ?_
  refine Wf.sIl tkX4_reads rfl rfl ?_
  refine Wf.sIc tkX4_reads rfl ?_
  refine Wf.sCs (as := [.int (nI n), .int 900]) (rest := [.ref 2]) tkX4_reads rfl rfl rfl ?_
  refine x_min ?_
  rw [if_neg (by rw [show (900 : Int32) = nI 900 from rfl, nI_ltI (by decide) (by omega)]; omega)]
  refine Wf.sPI tkX4_reads rfl rfl ?_
  refine Wf.sAl tkX4_reads rfl rfl rfl ?_
  refine Wf.sAl tkX4_reads rfl rfl p0 ?_
  show Wf l X uX4_reads (d + 11) true (mC (mk w p r I L) + 0, mS (mk w p r I L) + 0) 13 [(0, .ref 2), (1, .int (nI n)), (2, .ref q)] [.ref q, .ref 2] (mk w p r (u2 I 2 2 (nI n)) L) kr
  have rest : Wf l X uX4_reads (d + 11) true (mC (mk w p r I L) + 0, mS (mk w p r I L) + 0) 16 [(0, .ref 2), (1, .int (nI n)), (2, .ref q)] [] (mk w p q (u2 I 2 2 (nI n)) L) kr := by
    have go : ∀ J : Nat → Nat → Int32, (∀ a i, a ≠ q → a ≠ q + 5 → J a i = u2 I 2 2 (nI n) a i) → PC q F00 0 J → Wf l X uX4_reads (d + 11) true (mC (mk w p r I L) + 0, mS (mk w p r I L) + 0) 23 [(0, .ref 2), (1, .int (nI n)), (2, .ref q)] [] (mk w p q J L) kr := by
      intro J hJ hpc
      refine Wf.gc tkX4_reads [49] ?_
      conv => whnf
      obtain ⟨K, hK⟩ : ∃ K, K = u2 (u2 (u2 (u2 J 2 12 0) 2 13 0) 2 14 0) 2 6 0 := ⟨_, rfl⟩
      show Ev l X uX4_take (d + 10) true 0 0 [.ref 2] (mk w p q (u2 (u2 (u2 (u2 J 2 12 0) 2 13 0) 2 14 0) 2 6 0) L) _
      rw [← hK]
      have kJ : ∀ a i, ¬ (a = 2 ∧ 4 ≤ i) → K a i = J a i := fun a i z => by rw [hK, u2_o (by omega), u2_o (by omega), u2_o (by omega), u2_o (by omega)]
      have tx : TX b n K := ⟨hn9, by rw [kJ 2 2 (by omega), hJ 2 2 (by omega) (by omega), u2_s], fun i hi => ⟨(hb i hi).1, by rw [kJ 3 i (by omega), hJ 3 i (by omega) (by omega), u2_o (by omega)]; exact (hb i hi).2⟩⟩
      have pcK : PC q F00 0 K := PC_eq hpc (fun a i z1 z2 => kJ a i (by omega))
      have ncK : NC b [] K L := ⟨⟨by rw [hK]; rfl, by rw [hK]; rfl⟩, by decide, fun i hi => absurd hi (Nat.not_lt_zero _)⟩
      have sR0 : ∀ I' L', sL q K I' L L' → sR q I I' L L' := fun I' L' hs => ⟨fun a i z1 z2 z3 z4 => by rw [hs.1 a i (by omega) z2 z3 z4, kJ a i (by omega), hJ a i (by omega) (by omega), u2_o (by omega)], hs.2⟩
      refine x_take (d := d + 9) (e := 0) tx (Nat.zero_le _) (by rw [hK]; rfl) (fun I1 L1 hs1 hc1 => ?_)
      conv => whnf
      exact x_rloop (b := b) (n := n) (J0 := K) (K0 := L) (av := [.ref 2]) (MM := mk w p r I L) hq ⟨_, rfl⟩ (fun er I' L' h1 h2 h3 h4 => hE er h4 I' L' (sR0 I' L' h1) h2 h3) (fun P' h4 I' L' h1 h2 => hO P' h4 I' L' (sR0 I' L' h1) h2) hn9 (n + 1) 0 (by omega) P00 I1 L1 rfl B3_00 hs1.sL ⟨TX_sT tx hs1, Nat.zero_le _, hc1, NC_sT ncK hs1, PC_sT (by omega) pcK hs1⟩ (nI n) q
    rcases hq with rfl | rfl
    · refine Wf.gc tkX4_reads [23] ?_
      conv => whnf
      refine x_clear (Or.inl rfl) (fun J hJ hpc => ?_)
      conv => whnf
      exact go J hJ hpc
    · refine Wf.gc tkX4_reads [23] ?_
      conv => whnf
      refine x_clear (Or.inr rfl) (fun J hJ hpc => ?_)
      conv => whnf
      exact go J hJ hpc
  have rest : Wf l X uX4_reads (d + 11) true (mC (mk w p r I L) + 0, mS (mk w p r I L) + 0) 16 [(0, .ref 2), (1, .int (nI n)), (2, .ref q)] [] (wR (mk w p r (u2 I 2 2 (nI n)) L) 2 3 q) kr := by
    rw [wR_23]
    exact rest
  rcases hq with rfl | rfl
  · refine Wf.gc tkX4_reads [16] ?_
    conv => whnf
    exact rest
  · refine Wf.gc tkX4_reads [16] ?_
    conv => whnf
    exact rest
set_option maxHeartbeats 2000000 in
set_option maxRecDepth 20000 in
/-- now is as the plan tells -/
theorem x_begin {q : Nat} (hq : q = 7 ∨ q = 20) (h : ∀ I', (∀ a i, (a < 33 ∨ 37 < a) → I' a i = I a i) → (∀ f, f < 6 → I' 34 f = I (q + 2) f ∧ I' 35 f = 0 ∧ I' 36 f = 0) → (∀ c, c < 5 → I' 37 c = I (q + 6) c) → I' 33 4 = 0 → I' 33 5 = 0 → kr none (mk w p r I' L)) : Ev l X uX2_begin (d + 1) true 0 0 [.ref 33, .ref q] (mk w p r I L) kr := by
  refine Ev.of (by decide) (Nat.le_of_ble_eq_true rfl) ?_
  have fin : ∀ J : Nat → Nat → Int32, (∀ a i, (a < 33 ∨ 37 < a) → J a i = I a i) → (∀ f, f < 6 → J 34 f = I (q + 2) f) → (∀ c, c < 5 → J 37 c = I (q + 6) c) → Wf l X uX2_begin (d + 1) true (mC (mk w p r I L) + 0, mS (mk w p r I L) + 0) 31 [(0, .ref 33), (1, .ref q), (2, .int (nI 0))] [] (mk w p r J L) kr := by
    intro J j1 j2 j3
    have loop : ∀ i, i ≤ 6 → ∀ K : Nat → Nat → Int32, (∀ a j, a ≠ 35 → a ≠ 36 → K a j = J a j) → (∀ j, j < i → K 35 j = 0 ∧ K 36 j = 0) → Wf l X uX2_begin (d + 1) true (mC (mk w p r I L) + 0, mS (mk w p r I L) + 0) 31 [(0, .ref 33), (1, .ref q), (2, .int (nI i))] [] (mk w p r K L) kr := by
      refine down _ 6 ?_ ?_
      · intro K hK hz
        refine Wf.gc tkX2_begin [] ?_
        conv => whnf
        refine b1' (by show (6 : Int32) ≤ nI 6; decide) ?_
        conv => whnf
        show kr none (mk w p r (u2 (u2 K 33 4 0) 33 5 0) L)
        refine h _ (fun a i z => ?_) (fun f hf => ?_) (fun c hc => ?_) rfl rfl
        · rw [u2_o (by omega), u2_o (by omega), hK a i (by omega) (by omega)]; exact j1 a i z
        · rw [u2_o (by omega), u2_o (by omega), u2_o (by omega), u2_o (by omega), u2_o (by omega), u2_o (by omega), hK 34 f (by decide) (by decide)]
          exact ⟨j2 f hf, (hz f hf).1, (hz f hf).2⟩
        · rw [u2_o (by omega), u2_o (by omega), hK 37 c (by decide) (by decide)]; exact j3 c hc
      · intro i hi ih K hK hz
        refine Wf.gc tkX2_begin [31] ?_
        conv => whnf
        refine b2' (by show ¬ (6 : Int32) ≤ nI i; rw [show (6 : Int32) = nI 6 from rfl]; exact nI_ge hi (by decide)) ?_
        conv => whnf
        refine ⟨i, ix (N := 6) hi (by decide), ?_⟩
        conv => whnf
        refine ⟨i, ix (N := 6) hi (by decide), ?_⟩
        conv => whnf
        have q := ih (u2 (u2 K 35 i 0) 36 i 0) (fun a j z1 z2 => by rw [u2_o (by omega), u2_o (by omega)]; exact hK a j z1 z2) (fun j hj => by
          by_cases e : j = i
          · subst e
            rw [u2_o (by omega), u2_s, u2_s]
            exact ⟨rfl, rfl⟩
          · rw [u2_o (by omega), u2_o (by omega), u2_o (by omega), u2_o (by omega)]
            exact hz j (by omega))
        rw [← nI_1] at q
        exact q
    exact loop 0 (by decide) J (fun _ _ _ _ => rfl) (fun j hj => absurd hj (Nat.not_lt_zero _))
  rcases hq with rfl | rfl
  · refine Wf.gc tkX2_begin [31] ?_
    conv => whnf
    refine ⟨0, 0, 6, ⟨rfl, rfl, rfl, by decide, by decide, by decide, Nat.le_refl 6, Nat.le_refl 6⟩, ?_⟩
    conv => whnf
    refine ⟨0, 0, 5, ⟨rfl, rfl, rfl, by decide, by decide, by decide, Nat.le_refl 5, Nat.le_refl 5⟩, ?_⟩
    conv => whnf
    exact fin (u1 (u1 I 34 (va_cpy (I 9) (I 34) 0 0 6)) 37 (va_cpy (I 13) (I 37) 0 0 5)) (fun a i z => by rw [u1_o (by omega), u1_o (by omega)]) (fun f hf => by rw [u1_o (by decide), u1_s]; exact (pk_cpy_in (Nat.zero_le _) (by omega)).trans (by rw [Nat.sub_zero, Nat.zero_add])) (fun c hc => by rw [u1_s]; exact (pk_cpy_in (Nat.zero_le _) (by omega)).trans (by rw [Nat.sub_zero, Nat.zero_add]))
  · refine Wf.gc tkX2_begin [31] ?_
    conv => whnf
    refine ⟨0, 0, 6, ⟨rfl, rfl, rfl, by decide, by decide, by decide, Nat.le_refl 6, Nat.le_refl 6⟩, ?_⟩
    conv => whnf
    refine ⟨0, 0, 5, ⟨rfl, rfl, rfl, by decide, by decide, by decide, Nat.le_refl 5, Nat.le_refl 5⟩, ?_⟩
    conv => whnf
    exact fin (u1 (u1 I 34 (va_cpy (I 22) (I 34) 0 0 6)) 37 (va_cpy (I 26) (I 37) 0 0 5)) (fun a i z => by rw [u1_o (by omega), u1_o (by omega)]) (fun f hf => by rw [u1_o (by decide), u1_s]; exact (pk_cpy_in (Nat.zero_le _) (by omega)).trans (by rw [Nat.sub_zero, Nat.zero_add])) (fun c hc => by rw [u1_s]; exact (pk_cpy_in (Nat.zero_le _) (by omega)).trans (by rw [Nat.sub_zero, Nat.zero_add]))
end CLX
end
section
/-! the class's close: its answer, what it leaves -/
section CLY
variable {l : Launch} {X : Nat × (Nat → Int32)} {d : Nat} {w : Nat × Nat} {p r : Nat} {I : Nat → Nat → Int32} {L : Nat → Nat → Int64} {kr : KR} {b : Nat → Nat} {n t : Nat}
set_option maxHeartbeats 2000000 in
set_option maxRecDepth 20000 in
/-- n is too much, or below 0 -/
theorem x_close2 {m : Int32} (hp : p = 7 ∨ p = 20) (ht : I 2 1 = nI t) (ht9 : t ≤ 900) (hm : m < 0 ∨ nI t < m) (h : kr (some (.int (-1))) (mk w p r (u2 I 1 13 2) L)) : Ev l X uX6_close (d + 1) true 0 0 [.ref 1, .int m] (mk w p r I L) kr := by
  refine Ev.of (by decide) (Nat.le_of_ble_eq_true rfl) ?_
  have no : Wf l X uX6_close (d + 1) true (mC (mk w p r I L) + 0, mS (mk w p r I L) + 0) 15 [(0, .ref 1), (1, .int m)] [] (mk w p r I L) kr := by
    refine Wf.gc tkX6_close [] ?_
    conv => whnf
    refine sX6_refuse ?_
    conv => whnf
    exact h
  refine Wf.gc tkX6_close [15] ?_
  conv => whnf
  refine ⟨fun z => ?_, fun z => ?_⟩
  · conv => whnf
    exact no
  · have z : ¬ m < 0 := z
    conv => whnf
    refine b2' ?_ ?_
    · show ¬ m ≤ I 2 1
      rw [ht]
      rcases hm with q | q
      · exact absurd q z
      · exact Int32.not_le.mpr q
    conv => whnf
    exact no
end CLY
end
section
/-! the reference's tokens -/
section RTK
variable {l : Launch} {X : Nat × (Nat → Int32)} {d : Nat} {w : Nat × Nat} {p r : Nat} {I : Nat → Nat → Int32} {L : Nat → Nat → Int64} {kr : KR} {b : Nat → Nat} {n e s : Nat}
noncomputable def RX (b : Nat → Nat) (n : Nat) (I : Nat → Nat → Int32) : Prop := n ≤ 900 ∧ I 150 3 = nI n ∧ ∀ i, i < n → b i < 256 ∧ I 151 i = nI (b i)
/-- the sorts as the reference has them -/
noncomputable def rc : Nat → Nat
  | 0 => 0
  | 1 => 2
  | 2 => 3
  | 3 => 59
  | _ => 1
noncomputable def TR (b : Nat → Nat) (n e : Nat) (I : Nat → Nat → Int32) : Prop := I 150 6 = nI (rc (tso b n e)) ∧ I 150 4 = nI (tst b n e) ∧ I 150 5 = nI (tsp b n e) ∧ (tso b n e = 2 → I 150 7 = nI (tvl b n e)) ∧ (tso b n e = 1 → I 150 8 = nI (tsp b n e - tst b n e) ∧ ∀ k, k < tsp b n e - tst b n e → I 152 k = nI (b (tst b n e + k)))
noncomputable def sN (I I' : Nat → Nat → Int32) : Prop := ∀ a i, ¬ (a = 150 ∧ 4 ≤ i ∧ i ≤ 8) → a ≠ 152 → I' a i = I a i
theorem y_see {k : Nat} (hk : k ≤ 901) (hr : RX b n I) (h0 : n ≤ k → kr (some (.int (-1))) (mk w p r I L)) (h1 : k < n → kr (some (.int (nI (b k)))) (mk w p r I L)) : Ev l X uX7_see d true 0 0 [.ref 150, .int (nI k)] (mk w p r I L) kr := by
  obtain ⟨h9, hn, hb⟩ := hr
  refine Ev.of (by decide) (Nat.le_of_ble_eq_true rfl) ?_
  refine Wf.gc tkX7_see [] ?_
  conv => whnf
  refine ⟨fun z => ?_, fun z => ?_⟩
  · have z : I 150 3 ≤ nI k := z
    rw [hn, nI_leI (by omega) (by omega)] at z
    conv => whnf
    exact h0 z
  · have z : ¬ I 150 3 ≤ nI k := z
    rw [hn, nI_leI (by omega) (by omega)] at z
    conv => whnf
    refine ⟨k, ix (N := 900) (by omega) (by decide), ?_⟩
    conv => whnf
    have h1 := h1 (by omega)
    rw [← (hb k (by omega)).2] at h1
    exact h1
theorem nIS : ∀ c, c < 256 → (isS c = true ↔ (¬ nI c < 97 ∧ ¬ 122 < nI c)) := by decide +kernel
theorem nID : ∀ c, c < 256 → (isD c = true ↔ (¬ nI c < 48 ∧ ¬ 57 < nI c)) := by decide +kernel
theorem y_isSmall {c : Nat} {M : Mm} (hc : c < 256) (h : kr (some (.int (bI (isS c)))) M) : Ev l X uX7_isSmall d true 0 0 [.int (nI c)] M kr := by
  refine k_small (fun z => ?_) (fun z => ?_)
  · have e : isS c = false := by
      cases hq : isS c with
      | false => rfl
      | true =>
        obtain ⟨q1, q2⟩ := (nIS c hc).mp hq
        unfold smL at z
        rw [decide_eq_true q1, decide_eq_true q2] at z
        cases z
    rw [e] at h
    exact h
  · have e : isS c = true := by
      unfold smL at z
      obtain ⟨q1, q2⟩ := andT z
      exact (nIS c hc).mpr ⟨of_decide_eq_true q1, of_decide_eq_true q2⟩
    rw [e] at h
    exact h
theorem y_isDigit {c : Nat} {M : Mm} (hc : c < 256) (h : kr (some (.int (bI (isD c)))) M) : Ev l X uX7_isDigit d true 0 0 [.int (nI c)] M kr := by
  refine k_digit (fun z => ?_) (fun z => ?_)
  · have e : isD c = false := by
      cases hq : isD c with
      | false => rfl
      | true =>
        obtain ⟨q1, q2⟩ := (nID c hc).mp hq
        unfold dgL at z
        rw [decide_eq_true q1, decide_eq_true q2] at z
        cases z
    rw [e] at h
    exact h
  · have e : isD c = true := by
      unfold dgL at z
      obtain ⟨q1, q2⟩ := andT z
      exact (nID c hc).mpr ⟨of_decide_eq_true q1, of_decide_eq_true q2⟩
    rw [e] at h
    exact h
theorem y_isSm1 {M : Mm} (h : kr (some (.int 0)) M) : Ev l X uX7_isSmall d true 0 0 [.int (-1)] M kr := k_small (fun _ => h) (fun z => by cases (show smL (-1) = false from by decide +kernel).symm.trans z)
theorem y_isDg1 {M : Mm} (h : kr (some (.int 0)) M) : Ev l X uX7_isDigit d true 0 0 [.int (-1)] M kr := k_digit (fun _ => h) (fun z => by cases (show dgL (-1) = false from by decide +kernel).symm.trans z)
theorem nI_m1 {k : Nat} (h : k < 1000) : ¬ nI k = -1 := by
  intro z
  have z : (nI k).toInt = (-1 : Int32).toInt := by rw [z]
  rw [nI_toInt (by omega)] at z
  have : (-1 : Int32).toInt = -1 := rfl
  omega
theorem n59 : ∀ c, c < 256 → (nI c = 59 ↔ c = 59) := by decide +kernel
set_option maxHeartbeats 4000000 in
set_option maxRecDepth 20000 in
/-- the word's loop -/
theorem y_nword {J : Nat → Nat → Int32} {MM : Mm} {c : Int32} (hr : RX b n J) (hs : s ≤ n) (h : ∀ K : Nat → Nat → Int32, (∀ a j, ¬ (a = 150 ∧ j = 8) → a ≠ 152 → K a j = J a j) → K 150 8 = nI (wen b n s - s) → (∀ j, j < wen b n s - s → j < 8 → K 152 j = nI (b (s + j))) → Wf l X uX7_next (d + 2) true (mC MM + 0, mS MM + 0) 117 [(0, .ref 150), (1, .int (nI (wen b n s))), (2, .int c)] [] (mk w p r K L) kr) : ∀ i, i ≤ n → s ≤ i → (fst (fun j => !(isS (b j))) n i = wen b n s) → ∀ K : Nat → Nat → Int32, (∀ a j, ¬ (a = 150 ∧ j = 8) → a ≠ 152 → K a j = J a j) → K 150 8 = nI (i - s) → (∀ j, j < i - s → j < 8 → K 152 j = nI (b (s + j))) → Wf l X uX7_next (d + 2) true (mC MM + 0, mS MM + 0) 67 [(0, .ref 150), (1, .int (nI i)), (2, .int c)] [] (mk w p r K L) kr := by
  have key := srch (e := n) (P := fun j => !(isS (b j))) (Wi := fun i => s ≤ i → ∀ K : Nat → Nat → Int32, (∀ a j, ¬ (a = 150 ∧ j = 8) → a ≠ 152 → K a j = J a j) → K 150 8 = nI (i - s) → (∀ j, j < i - s → j < 8 → K 152 j = nI (b (s + j))) → Wf l X uX7_next (d + 2) true (mC MM + 0, mS MM + 0) 67 [(0, .ref 150), (1, .int (nI i)), (2, .int c)] [] (mk w p r K L) kr) (K := fun o => o.getD n = wen b n s) ?_ ?_
  · intro i hi hsi hf
    exact key i hi hf hsi
  · intro hK hsi K k1 k2 k3
    have hK : n = wen b n s := hK
    have rx : RX b n K := ⟨hr.1, by rw [k1 150 3 (by omega) (by decide)]; exact hr.2.1, fun j hj => ⟨(hr.2.2 j hj).1, by rw [k1 151 j (by omega) (by decide)]; exact (hr.2.2 j hj).2⟩⟩
    refine Wf.gc tkX7_next [117] ?_
    conv => whnf
    refine y_see (by have := hr.1; omega) rx (fun _ => ?_) (fun z => absurd z (Nat.lt_irrefl _))
    conv => whnf
    refine y_isSm1 ?_
    conv => whnf
    refine b1' rfl ?_
    conv => whnf
    rw [hK] at k2 k3 ⊢
    exact h K k1 k2 k3
  · intro i hi
    have hbi := (hr.2.2 i hi).1
    refine ⟨fun hP hK hsi K k1 k2 k3 => ?_, fun hP ih hsi K k1 k2 k3 => ?_⟩
    · have hK : i = wen b n s := hK
      have hP : (!(isS (b i))) = true := hP
      have hS : isS (b i) = false := by
        cases hq : isS (b i) with
        | false => rfl
        | true => rw [hq] at hP; cases hP
      have rx : RX b n K := ⟨hr.1, by rw [k1 150 3 (by omega) (by decide)]; exact hr.2.1, fun j hj => ⟨(hr.2.2 j hj).1, by rw [k1 151 j (by omega) (by decide)]; exact (hr.2.2 j hj).2⟩⟩
      refine Wf.gc tkX7_next [117] ?_
      conv => whnf
      refine y_see (by have := hr.1; omega) rx (fun z => absurd hi (by omega)) (fun _ => ?_)
      conv => whnf
      refine y_isSmall hbi ?_
      conv => whnf
      rw [hS]
      refine b1' rfl ?_
      conv => whnf
      rw [hK] at k2 k3 ⊢
      exact h K k1 k2 k3
    · have hP : (!(isS (b i))) = false := hP
      have hS : isS (b i) = true := by
        cases hq : isS (b i) with
        | true => rfl
        | false => rw [hq] at hP; cases hP
      have rx : RX b n K := ⟨hr.1, by rw [k1 150 3 (by omega) (by decide)]; exact hr.2.1, fun j hj => ⟨(hr.2.2 j hj).1, by rw [k1 151 j (by omega) (by decide)]; exact (hr.2.2 j hj).2⟩⟩
      have n9 := hr.1
      have e1 : i + 1 - s = i - s + 1 := by omega
      have ih := ih (by omega)
      rw [e1] at ih
      have tl : ∀ K2 : Nat → Nat → Int32, (∀ a j, ¬ (a = 150 ∧ j = 8) → a ≠ 152 → K2 a j = J a j) → K2 150 8 = nI (i - s) → (∀ j, j < i - s + 1 → j < 8 → K2 152 j = nI (b (s + j))) → Wf l X uX7_next (d + 2) true (mC MM + 0, mS MM + 0) 101 [(0, .ref 150), (1, .int (nI i)), (2, .int c)] [] (mk w p r K2 L) kr := by
        intro K2 q1 q2 q3
        refine Wf.gc tkX7_next [67] ?_
        conv => whnf
        have q := ih (u2 K2 150 8 (K2 150 8 + 1)) (fun a j z1 z2 => by rw [u2_o z1]; exact q1 a j z1 z2) (by rw [u2_s, q2, nI_1]) (fun j z1 z2 => by rw [u2_o (by omega)]; exact q3 j z1 z2)
        rw [← nI_1] at q
        exact q
      refine Wf.gc tkX7_next [101] ?_
      conv => whnf
      refine y_see (by omega) rx (fun z => absurd hi (by omega)) (fun _ => ?_)
      conv => whnf
      refine y_isSmall hbi ?_
      conv => whnf
      rw [hS]
      refine b2' (by decide) ?_
      conv => whnf
      refine ⟨fun z => ?_, fun z => ?_⟩
      · have z : (8 : Int32) ≤ K 150 8 := z
        rw [k2, show (8 : Int32) = nI 8 from rfl, nI_leI (by decide) (by omega)] at z
        conv => whnf
        exact tl K k1 k2 (fun j z1 z2 => k3 j (by omega) z2)
      · have z : ¬ (8 : Int32) ≤ K 150 8 := z
        rw [k2, show (8 : Int32) = nI 8 from rfl, nI_leI (by decide) (by omega)] at z
        conv => whnf
        refine y_see (by omega) rx (fun z => absurd hi (by omega)) (fun _ => ?_)
        conv => whnf
        refine ⟨i - s, ⟨k2, by omega, show _ < 8 by omega⟩, ?_⟩
        conv => whnf
        refine tl (u2 K 152 (i - s) (nI (b i))) (fun a j z1 z2 => by rw [u2_o (by omega)]; exact k1 a j z1 z2) (by rw [u2_o (by omega)]; exact k2) (fun j z1 z2 => ?_)
        by_cases e : j = i - s
        · rw [e, u2_s, show s + (i - s) = i by omega]
        · rw [u2_o (by omega)]; exact k3 j (by omega) z2
end RTK
end
section
section RNX
variable {l : Launch} {X : Nat × (Nat → Int32)} {d : Nat} {w : Nat × Nat} {p r : Nat} {I : Nat → Nat → Int32} {L : Nat → Nat → Int64} {kr : KR} {b : Nat → Nat} {n e s : Nat}
noncomputable def m3 (k : Nat) : Nat := if k ≤ 3 then k else 3
set_option maxHeartbeats 4000000 in
set_option maxRecDepth 20000 in
/-- the whole's loop -/
theorem y_ndig {J : Nat → Nat → Int32} {MM : Mm} {c : Int32} (hr : RX b n J) (hs : s ≤ n) (h : ∀ K : Nat → Nat → Int32, (∀ a j, ¬ (a = 150 ∧ j = 7) → K a j = J a j) → K 150 7 = nI (dv b s (m3 (den b n s - s))) → Wf l X uX7_next (d + 2) true (mC MM + 0, mS MM + 0) 197 [(0, .ref 150), (1, .int (nI (den b n s))), (2, .int c), (3, .int (nI (den b n s - s)))] [] (mk w p r K L) kr) : ∀ i, i ≤ n → s ≤ i → (fst (fun j => !(isD (b j))) n i = den b n s) → ∀ K : Nat → Nat → Int32, (∀ a j, ¬ (a = 150 ∧ j = 7) → K a j = J a j) → K 150 7 = nI (dv b s (m3 (i - s))) → Wf l X uX7_next (d + 2) true (mC MM + 0, mS MM + 0) 152 [(0, .ref 150), (1, .int (nI i)), (2, .int c), (3, .int (nI (i - s)))] [] (mk w p r K L) kr := by
  have key := srch (e := n) (P := fun j => !(isD (b j))) (Wi := fun i => s ≤ i → ∀ K : Nat → Nat → Int32, (∀ a j, ¬ (a = 150 ∧ j = 7) → K a j = J a j) → K 150 7 = nI (dv b s (m3 (i - s))) → Wf l X uX7_next (d + 2) true (mC MM + 0, mS MM + 0) 152 [(0, .ref 150), (1, .int (nI i)), (2, .int c), (3, .int (nI (i - s)))] [] (mk w p r K L) kr) (K := fun o => o.getD n = den b n s) ?_ ?_
  · intro i hi hsi hf
    exact key i hi hf hsi
  · intro hK hsi K k1 k2
    have hK : n = den b n s := hK
    have rx : RX b n K := ⟨hr.1, by rw [k1 150 3 (by omega)]; exact hr.2.1, fun j hj => ⟨(hr.2.2 j hj).1, by rw [k1 151 j (by omega)]; exact (hr.2.2 j hj).2⟩⟩
    refine Wf.gc tkX7_next [197] ?_
    conv => whnf
    refine y_see (by have := hr.1; omega) rx (fun _ => ?_) (fun z => absurd z (Nat.lt_irrefl _))
    conv => whnf
    refine y_isDg1 ?_
    conv => whnf
    refine b1' rfl ?_
    conv => whnf
    rw [hK] at k2 ⊢
    exact h K k1 k2
  · intro i hi
    have hbi := (hr.2.2 i hi).1
    refine ⟨fun hP hK hsi K k1 k2 => ?_, fun hP ih hsi K k1 k2 => ?_⟩
    · have hK : i = den b n s := hK
      have hP : (!(isD (b i))) = true := hP
      have hS : isD (b i) = false := by
        cases hq : isD (b i) with
        | false => rfl
        | true => rw [hq] at hP; cases hP
      have rx : RX b n K := ⟨hr.1, by rw [k1 150 3 (by omega)]; exact hr.2.1, fun j hj => ⟨(hr.2.2 j hj).1, by rw [k1 151 j (by omega)]; exact (hr.2.2 j hj).2⟩⟩
      refine Wf.gc tkX7_next [197] ?_
      conv => whnf
      refine y_see (by have := hr.1; omega) rx (fun z => absurd hi (by omega)) (fun _ => ?_)
      conv => whnf
      refine y_isDigit hbi ?_
      conv => whnf
      rw [hS]
      refine b1' rfl ?_
      conv => whnf
      rw [hK] at k2 ⊢
      exact h K k1 k2
    · have hP : (!(isD (b i))) = false := hP
      have hS : isD (b i) = true := by
        cases hq : isD (b i) with
        | true => rfl
        | false => rw [hq] at hP; cases hP
      have hd := isD_b hS
      have rx : RX b n K := ⟨hr.1, by rw [k1 150 3 (by omega)]; exact hr.2.1, fun j hj => ⟨(hr.2.2 j hj).1, by rw [k1 151 j (by omega)]; exact (hr.2.2 j hj).2⟩⟩
      have n9 := hr.1
      have e1 : i + 1 - s = i - s + 1 := by omega
      have ih := ih (by omega)
      rw [e1] at ih
      have tl : ∀ K2 : Nat → Nat → Int32, (∀ a j, ¬ (a = 150 ∧ j = 7) → K2 a j = J a j) → K2 150 7 = nI (dv b s (m3 (i - s + 1))) → Wf l X uX7_next (d + 2) true (mC MM + 0, mS MM + 0) 188 [(0, .ref 150), (1, .int (nI i)), (2, .int c), (3, .int (nI (i - s)))] [] (mk w p r K2 L) kr := by
        intro K2 q1 q2
        refine Wf.gc tkX7_next [152] ?_
        conv => whnf
        have q := ih K2 q1 q2
        rw [← nI_1, ← nI_1] at q
        exact q
      refine Wf.gc tkX7_next [188] ?_
      conv => whnf
      refine y_see (by omega) rx (fun z => absurd hi (by omega)) (fun _ => ?_)
      conv => whnf
      refine y_isDigit hbi ?_
      conv => whnf
      rw [hS]
      refine b2' (by decide) ?_
      conv => whnf
      refine ⟨fun z => ?_, fun z => ?_⟩
      · have z : (3 : Int32) ≤ nI (i - s) := z
        rw [show (3 : Int32) = nI 3 from rfl, nI_leI (by decide) (by omega)] at z
        conv => whnf
        refine tl K k1 ?_
        rw [k2]
        unfold m3
        by_cases e3 : i - s = 3
        · rw [e3]; rfl
        · rw [if_neg (by omega), if_neg (by omega)]
      · have z : ¬ (3 : Int32) ≤ nI (i - s) := z
        rw [show (3 : Int32) = nI 3 from rfl, nI_leI (by decide) (by omega)] at z
        conv => whnf
        refine y_see (by omega) rx (fun z => absurd hi (by omega)) (fun _ => ?_)
        conv => whnf
        refine tl (u2 K 150 7 (10 * K 150 7 + nI (b i) - 48)) (fun a j z1 => by rw [u2_o z1]; exact k1 a j z1) ?_
        rw [u2_s, k2]
        have em : m3 (i - s + 1) = m3 (i - s) + 1 := by unfold m3; rw [if_pos (by omega), if_pos (by omega)]
        have em2 : m3 (i - s) = i - s := if_pos (by omega)
        rw [em, em2]
        show (10 * nI (dv b s (i - s)) + nI (b i) - 48 : Int32) = nI (dv b s (i - s) * 10 + (b (s + (i - s)) - 48))
        rw [show s + (i - s) = i by omega, show (10 : Int32) = nI 10 from rfl, nI_mul, nI_add, show (48 : Int32) = nI 48 from rfl, nI_sub (by omega)]
        congr 1
        omega
set_option maxHeartbeats 8000000 in
set_option maxRecDepth 20000 in
theorem y_next (hr : RX b n I) (he : e ≤ n) (h5 : I 150 5 = nI e) (h : ∀ I', sN I I' → TR b n e I' → kr none (mk w p r I' L)) : Ev l X uX7_next (d + 2) true 0 0 [.ref 150] (mk w p r I L) kr := by
  have n9 := hr.1
  have hs := tst_b (b := b) he
  refine Ev.of (by decide) (Nat.le_of_ble_eq_true rfl) ?_
  have main : ∀ s, s = tst b n e → Wf l X uX7_next (d + 2) true (mC (mk w p r I L) + 0, mS (mk w p r I L) + 0) 21 [(0, .ref 150), (1, .int (nI s))] [] (mk w p r I L) kr := by
    intro s es
    have hsn : s ≤ n := by rw [es]; exact hs.2
    have rx1 : RX b n (u2 I 150 4 (nI s)) := ⟨hr.1, by rw [u2_o (by decide)]; exact hr.2.1, fun j hj => ⟨(hr.2.2 j hj).1, by rw [u2_o (by omega)]; exact (hr.2.2 j hj).2⟩⟩
    obtain ⟨J, hJ⟩ : ∃ J, J = u2 (u2 (u2 I 150 4 (nI s)) 150 8 0) 150 7 0 := ⟨_, rfl⟩
    have rxJ : RX b n J := ⟨hr.1, by rw [hJ, u2_o (by decide), u2_o (by decide), u2_o (by decide)]; exact hr.2.1, fun j hj => ⟨(hr.2.2 j hj).1, by rw [hJ, u2_o (by omega), u2_o (by omega), u2_o (by omega)]; exact (hr.2.2 j hj).2⟩⟩
    have sJ : ∀ a i, ¬ (a = 150 ∧ 4 ≤ i ∧ i ≤ 8) → J a i = I a i := fun a i z => by rw [hJ, u2_o (by omega), u2_o (by omega), u2_o (by omega)]
    have j4 : J 150 4 = nI s := by rw [hJ]; rfl
    have j8 : J 150 8 = 0 := by rw [hJ]; rfl
    have j7 : J 150 7 = 0 := by rw [hJ]; rfl
    have go : ∀ c : Int32, (n ≤ s → c = -1) → (s < n → c = nI (b s)) → Wf l X uX7_next (d + 2) true (mC (mk w p r I L) + 0, mS (mk w p r I L) + 0) 42 [(0, .ref 150), (1, .int (nI s)), (2, .int c)] [] (mk w p r J L) kr := by
      intro c c1 c2
      rcases Nat.lt_or_ge s n with z | z
      · obtain rfl := c2 z
        have hbs := (hr.2.2 s z).1
        have nz : ¬ n ≤ s := by omega
        have oth : isS (b s) = false → Wf l X uX7_next (d + 2) true (mC (mk w p r I L) + 0, mS (mk w p r I L) + 0) 143 [(0, .ref 150), (1, .int (nI s)), (2, .int (nI (b s)))] [] (mk w p r J L) kr := by
          intro hS
          have hS' : ¬ isS (b s) = true := by rw [hS]; decide
          refine Wf.gc tkX7_next [152, 219] ?_
          conv => whnf
          refine y_isDigit hbs ?_
          conv => whnf
          cases hD : isD (b s) with
          | true =>
            refine b2' (by decide) ?_
            conv => whnf
            have q := y_ndig (l := l) (X := X) (d := d) (w := w) (p := p) (r := r) (L := L) (kr := kr) (J := J) (MM := mk w p r I L) (c := nI (b s)) rxJ hsn (fun K k1 k2 => ?_) s hsn (Nat.le_refl _) rfl J (fun _ _ _ => rfl) (by rw [j7, Nat.sub_self]; rfl)
            · rw [Nat.sub_self] at q
              exact q
            have hge : s ≤ den b n s := (fst_ge (P := fun j => !(isD (b j))) hsn).1
            have hle : den b n s ≤ n := (fst_ge (P := fun j => !(isD (b j))) hsn).2
            have e3 : tsp b n e = den b n s := by unfold tsp ksp; rw [← es, if_neg nz, if_neg hS', if_pos hD]
            have fin : ∀ t : Nat, t = rc (tso b n e) → kr none (mk w p r (u2 (u2 K 150 5 (nI (den b n s))) 150 6 (nI t)) L) := by
              intro t et
              refine h _ (fun a i z1 z2 => ?_) ⟨?_, ?_, ?_, fun q => ?_, fun q => ?_⟩
              · rw [u2_o (by omega), u2_o (by omega), k1 a i (by omega)]; exact sJ a i z1
              · rw [u2_s, et]
              · rw [u2_o (by decide), u2_o (by decide), k1 150 4 (by decide), j4, es]
              · rw [u2_o (by decide), u2_s, e3]
              · rw [u2_o (by decide), u2_o (by decide), k2]
                obtain ⟨q1, -⟩ := whole_b he q
                rw [e3, ← es] at q1
                unfold tvl
                rw [e3, ← es, show m3 (den b n s - s) = den b n s - s from if_pos q1]
              · unfold tso kso at q
                rw [← es, if_neg nz, if_neg hS', if_pos hD] at q
                split at q <;> cases q
            refine Wf.gc tkX7_next [] ?_
            conv => whnf
            refine ⟨fun z2 => ?_, fun z2 => ?_⟩
            · have z2 : nI (den b n s - s) ≤ 3 := z2
              rw [show (3 : Int32) = nI 3 from rfl, nI_leI (by omega) (by decide)] at z2
              conv => whnf
              exact fin 3 (by unfold tso kso; rw [← es, if_neg nz, if_neg hS', if_pos hD, if_pos z2]; rfl)
            · have z2 : ¬ nI (den b n s - s) ≤ 3 := z2
              rw [show (3 : Int32) = nI 3 from rfl, nI_leI (by omega) (by decide)] at z2
              conv => whnf
              exact fin 1 (by unfold tso kso; rw [← es, if_neg nz, if_neg hS', if_pos hD, if_neg z2]; rfl)
          | false =>
            have hD' : ¬ isD (b s) = true := by rw [hD]; decide
            refine b1' rfl ?_
            conv => whnf
            have e3 : tsp b n e = s + 1 := by unfold tsp ksp; rw [← es, if_neg nz, if_neg hS', if_neg hD']
            have fin : ∀ t : Nat, t = rc (tso b n e) → kr none (mk w p r (u2 (u2 J 150 5 (nI s + 1)) 150 6 (nI t)) L) := by
              intro t et
              refine h _ (fun a i z1 z2 => ?_) ⟨?_, ?_, ?_, fun q => ?_, fun q => ?_⟩
              · rw [u2_o (by omega), u2_o (by omega)]; exact sJ a i z1
              · rw [u2_s, et]
              · rw [u2_o (by decide), u2_o (by decide), j4, es]
              · rw [u2_o (by decide), u2_s, e3, nI_1]
              · unfold tso kso at q
                rw [← es, if_neg nz, if_neg hS', if_neg hD'] at q
                split at q <;> cases q
              · unfold tso kso at q
                rw [← es, if_neg nz, if_neg hS', if_neg hD'] at q
                split at q <;> cases q
            refine Wf.gc tkX7_next [] ?_
            conv => whnf
            refine ⟨fun z2 => ?_, fun z2 => ?_⟩
            · have z2 : ¬ nI (b s) = 59 := z2
              rw [n59 (b s) hbs] at z2
              conv => whnf
              exact fin 1 (by unfold tso kso; rw [← es, if_neg nz, if_neg hS', if_neg hD', if_neg z2]; rfl)
            · have z2 : nI (b s) = 59 := z2
              have z3 := (n59 (b s) hbs).mp z2
              conv => whnf
              have q := fin 59 (by unfold tso kso; rw [← es, if_neg nz, if_neg hS', if_neg hD', if_pos z3]; rfl)
              rw [show nI 59 = nI (b s) from z2.symm] at q
              exact q
        refine Wf.gc tkX7_next [67, 143] ?_
        conv => whnf
        refine b1 (nI_m1 (k := b s) (by omega)) ?_
        conv => whnf
        refine y_isSmall hbs ?_
        conv => whnf
        cases hS : isS (b s) with
        | false =>
          refine b1' rfl ?_
          conv => whnf
          exact oth hS
        | true =>
          refine b2' (by decide) ?_
          conv => whnf
          refine y_nword (J := J) (MM := mk w p r I L) (c := nI (b s)) rxJ hsn (fun K k1 k2 k3 => ?_) s hsn (Nat.le_refl _) rfl J (fun _ _ _ _ => rfl) (by rw [j8, Nat.sub_self]; rfl) (fun j hj => absurd hj (by omega))
          have hge : s ≤ wen b n s := (fst_ge (P := fun j => !(isS (b j))) hsn).1
          have hle : wen b n s ≤ n := (fst_ge (P := fun j => !(isS (b j))) hsn).2
          have e3 : tsp b n e = wen b n s := by unfold tsp ksp; rw [← es, if_neg nz, if_pos hS]
          have fin : ∀ t : Nat, t = rc (tso b n e) → kr none (mk w p r (u2 (u2 K 150 5 (nI (wen b n s))) 150 6 (nI t)) L) := by
            intro t et
            refine h _ (fun a i z1 z2 => ?_) ⟨?_, ?_, ?_, fun q => ?_, fun q => ?_⟩
            · rw [u2_o (by omega), u2_o (by omega), k1 a i (by omega) z2]; exact sJ a i z1
            · rw [u2_s, et]
            · rw [u2_o (by decide), u2_o (by decide), k1 150 4 (by decide) (by decide), j4, es]
            · rw [u2_o (by decide), u2_s, e3]
            · unfold tso kso at q
              rw [← es, if_neg nz, if_pos hS] at q
              split at q <;> cases q
            · obtain ⟨q1, -, -⟩ := word_b he q
              rw [e3, ← es] at q1 ⊢
              refine ⟨by rw [u2_o (by decide), u2_o (by decide)]; exact k2, fun k hk => ?_⟩
              rw [u2_o (by omega), u2_o (by omega)]
              exact k3 k hk (by omega)
          refine Wf.gc tkX7_next [] ?_
          conv => whnf
          refine ⟨fun z2 => ?_, fun z2 => ?_⟩
          · have z2 : K 150 8 ≤ 8 := z2
            rw [k2, show (8 : Int32) = nI 8 from rfl, nI_leI (by omega) (by decide)] at z2
            conv => whnf
            exact fin 2 (by unfold tso kso; rw [← es, if_neg nz, if_pos hS, if_pos z2]; rfl)
          · have z2 : ¬ K 150 8 ≤ 8 := z2
            rw [k2, show (8 : Int32) = nI 8 from rfl, nI_leI (by omega) (by decide)] at z2
            conv => whnf
            exact fin 1 (by unfold tso kso; rw [← es, if_neg nz, if_pos hS, if_neg z2]; rfl)
      · obtain rfl := c1 z
        refine Wf.gc tkX7_next [] ?_
        conv => whnf
        refine b2 (fun q => q rfl) ?_
        conv => whnf
        show kr none (mk w p r (u2 (u2 J 150 6 0) 150 5 (nI s)) L)
        have h0 : tso b n e = 0 := by unfold tso kso; rw [← es, if_pos z]
        refine h _ (fun a i z1 z2 => ?_) ⟨?_, ?_, ?_, fun q => ?_, fun q => ?_⟩
        · rw [u2_o (by omega), u2_o (by omega)]; exact sJ a i z1
        · rw [h0]; rfl
        · rw [u2_o (by decide), u2_o (by decide), j4, es]
        · rw [u2_s]; unfold tsp ksp; rw [← es, if_pos z]
        · omega
        · omega
    refine Wf.gc tkX7_next [42] ?_
    conv => whnf
    show Ev l X uX7_see (d + 1) true 0 0 [.ref 150, .int (nI s)] (mk w p r (u2 I 150 4 (nI s)) L) _
    refine y_see (by omega) rx1 (fun z => ?_) (fun z => ?_)
    · conv => whnf
      have q := go (-1) (fun _ => rfl) (fun z2 => absurd z (by omega))
      rw [hJ] at q
      exact q
    · conv => whnf
      have q := go (nI (b s)) (fun z2 => absurd z (by omega)) (fun _ => rfl)
      rw [hJ] at q
      exact q
  have loop : ∀ i, i ≤ n → fst (fun j => !(Nat.beq (b j) 32)) n i = tst b n e → Wf l X uX7_next (d + 2) true (mC (mk w p r I L) + 0, mS (mk w p r I L) + 0) 5 [(0, .ref 150), (1, .int (nI i))] [] (mk w p r I L) kr := by
    refine srch (e := n) (P := fun j => !(Nat.beq (b j) 32)) (Wi := fun i => Wf l X uX7_next (d + 2) true (mC (mk w p r I L) + 0, mS (mk w p r I L) + 0) 5 [(0, .ref 150), (1, .int (nI i))] [] (mk w p r I L) kr) (K := fun o => o.getD n = tst b n e) ?_ ?_
    · intro hK
      have hK : n = tst b n e := hK
      refine Wf.gc tkX7_next [21] ?_
      conv => whnf
      refine y_see (by omega) hr (fun _ => ?_) (fun z => absurd z (Nat.lt_irrefl _))
      conv => whnf
      refine b1 (show ¬ (-1 : Int32) = 32 by decide) ?_
      conv => whnf
      exact main n hK
    · intro i hi
      have hbi := (hr.2.2 i hi).1
      refine ⟨fun hP hK => ?_, fun hP hK => ?_⟩
      · have hK : i = tst b n e := hK
        have hP : (!(Nat.beq (b i) 32)) = true := hP
        refine Wf.gc tkX7_next [21] ?_
        conv => whnf
        refine y_see (by omega) hr (fun z => absurd hi (by omega)) (fun _ => ?_)
        conv => whnf
        refine b1 ?_ ?_
        · show ¬ nI (b i) = 32
          rw [show (32 : Int32) = nI 32 from rfl, nI_eq (by omega) (by decide)]
          intro q
          rw [q] at hP
          cases hP
        conv => whnf
        exact main i hK
      · have hP : (!(Nat.beq (b i) 32)) = false := hP
        have hB : b i = 32 := by
          cases hq : Nat.beq (b i) 32 with
          | true => exact Nat.eq_of_beq_eq_true hq
          | false => rw [hq] at hP; cases hP
        refine Wf.gc tkX7_next [5] ?_
        conv => whnf
        refine y_see (by omega) hr (fun z => absurd hi (by omega)) (fun _ => ?_)
        conv => whnf
        refine b2 (fun q => q (by show nI (b i) = 32; rw [hB]; rfl)) ?_
        conv => whnf
        rw [← nI_1] at hK
        exact hK
  refine Wf.gc tkX7_next [5] ?_
  conv => whnf
  have q := loop e he rfl
  rw [← h5] at q
  exact q
end RNX
end
section
/-! the reference's words and wholes -/
section RWD
variable {l : Launch} {X : Nat × (Nat → Int32)} {d : Nat} {w : Nat × Nat} {p r : Nat} {I : Nat → Nat → Int32} {L : Nat → Nat → Int64} {kr : KR} {b : Nat → Nat} {n e : Nat}
/-- a fault told -/
noncomputable def flR (I : Nat → Nat → Int32) (k s : Nat) : Nat → Nat → Int32 := u2 (u2 (u2 I 150 13 1) 150 9 (nI k)) 150 10 (nI s)
theorem y_wrong0 {k s : Int32} (h0 : I 150 13 = 0) (h : kr none (mk w p r (u2 (u2 (u2 I 150 13 1) 150 9 k) 150 10 s) L)) : Ev l X uX7_wrong d true 0 0 [.ref 150, .int k, .int s] (mk w p r I L) kr := by
  refine Ev.of (by decide) (Nat.le_of_ble_eq_true rfl) ?_
  refine Wf.gc tkX7_wrong [] ?_
  conv => whnf
  refine b1' h0 ?_
  conv => whnf
  first
    | exact h
    | exact ⟨Or.inr rfl, h⟩
theorem y_wrong1 {k s : Int32} (h1 : ¬ I 150 13 = 0) (h : kr none (mk w p r I L)) : Ev l X uX7_wrong d true 0 0 [.ref 150, .int k, .int s] (mk w p r I L) kr := by
  refine Ev.of (by decide) (Nat.le_of_ble_eq_true rfl) ?_
  refine Wf.gc tkX7_wrong [] ?_
  conv => whnf
  refine b2' h1 ?_
  conv => whnf
  exact h
/-- the first k letters are those of the word -/
noncomputable def eqs (b : Nat → Nat) (s i : Nat) : Nat → Bool
  | 0 => true
  | k + 1 => eqs b s i k && decide (sb (b (s + k)) = (tB i).getD k 0)
theorem eqs_iff {s i : Nat} : ∀ {k : Nat}, eqs b s i k = true ↔ ∀ j, j < k → sb (b (s + j)) = (tB i).getD j 0
  | 0 => ⟨fun _ j hj => absurd hj (Nat.not_lt_zero _), fun _ => rfl⟩
  | k + 1 => by
    constructor
    · intro h j hj
      obtain ⟨h1, h2⟩ := andT h
      rcases Nat.lt_or_ge j k with z | z
      · exact eqs_iff.mp h1 j z
      · rw [show j = k by omega]; exact of_decide_eq_true h2
    · intro h
      show (eqs b s i k && decide _) = true
      rw [eqs_iff.mpr (fun j hj => h j (by omega)), decide_eq_true (h k (by omega))]
      rfl
theorem eqs_ff {s i k : Nat} : eqs b s i k = (ff (fun j => !(decide (sb (b (s + j)) = (tB i).getD j 0))) k 0).isNone := by
  cases hf : ff (fun j => !(decide (sb (b (s + j)) = (tB i).getD j 0))) k 0 with
  | none =>
    refine eqs_iff.mpr (fun j hj => ?_)
    have := ff_none hf j (Nat.zero_le _) (by omega)
    have this : (!(decide (sb (b (s + j)) = (tB i).getD j 0))) = false := this
    cases hq : decide (sb (b (s + j)) = (tB i).getD j 0) with
    | true => exact of_decide_eq_true hq
    | false => rw [hq] at this; cases this
  | some q =>
    obtain ⟨-, q2, q3⟩ := ff_lt hf
    have q3 : (!(decide (sb (b (s + q)) = (tB i).getD q 0))) = true := q3
    cases hq : eqs b s i k with
    | false => rfl
    | true =>
      rw [decide_eq_true (eqs_iff.mp hq q (by omega))] at q3
      cases q3
theorem sb_l8 : ∀ c, c < 128 → sb c = nI c := by decide +kernel
theorem sb_h8 : ∀ c, c < 256 → 128 ≤ c → sb c < 0 := by decide +kernel
theorem sb_nI (c : Nat) (hc : c < 256) (t : Nat) (ht : t < 128) : sb c = nI t ↔ nI c = nI t := by
  by_cases h : c < 128
  · rw [sb_l8 c h]
  · have z := sb_h8 c hc (by omega)
    constructor
    · intro q
      rw [q] at z
      exact absurd z (nI_pos (by omega))
    · intro q
      have := (nI_eq (by omega) (by omega)).mp q
      omega
theorem y_isWord_f {wd : Nat} (hw : 5000 ≤ wd ∧ wd < 5042) (h1 : ¬ I 150 13 = 0) (h : kr (some (.int 0)) (mk w p r I L)) : Ev l X uX7_isWord (d + 5) true 0 0 [.ref 150, .ref wd] (mk w p r I L) kr := by
  refine Ev.of (by decide) (Nat.le_of_ble_eq_true rfl) ?_
  refine Wf.gc tkX7_isWord [] ?_
  conv => whnf
  refine b1 h1 ?_
  conv => whnf
  exact ⟨Or.inl rfl, h⟩
set_option maxHeartbeats 2000000 in
set_option maxRecDepth 20000 in
theorem y_isWord {wd : Nat} (hr : RX b n I) (he : e ≤ n) (hc : TR b n e I) (h0 : I 150 13 = 0) (hw : 5000 ≤ wd ∧ wd < 5042) (h : kr (some (.int (bI (isW b n (wd - 5000) e)))) (mk w p r I L)) : Ev l X uX7_isWord (d + 5) true 0 0 [.ref 150, .ref wd] (mk w p r I L) kr := by
  obtain ⟨t6, t4, t5, -, t8⟩ := hc
  have hsp := tsp_b (b := b) he
  have s4 := tso_5 (b := b) (n := n) (e := e)
  have p0 : Nat.blt 0 wd = true := Nat.ble_eq_true_of_le (by omega)
  have hl := (len7 ⟨wd - 5000, by omega⟩).1
  have hl : (tB (wd - 5000)).length ≤ 7 := hl
  refine Ev.of (by decide) (Nat.le_of_ble_eq_true rfl) ?_
  have no : isW b n (wd - 5000) e = false → Wf l X uX7_isWord (d + 5) true (mC (mk w p r I L) + 0, mS (mk w p r I L) + 0) 26 [(0, .ref 150), (1, .ref wd)] [] (mk w p r I L) kr := by
    intro q
    rw [q] at h
    refine Wf.sIc tkX7_isWord rfl ?_
    exact Wf.sZr tkX7_isWord rfl (Or.inl rfl) h
  refine Wf.sAl tkX7_isWord rfl rfl rfl ?_
  refine Wf.sG tkX7_isWord rfl rfl ?_
  refine Wf.sIf (x := I 150 13) tkX7_isWord rfl (fun z => absurd h0 z) (fun _ => ?_)
  refine Wf.sAl tkX7_isWord rfl rfl rfl ?_
  refine Wf.sG tkX7_isWord rfl rfl ?_
  refine Wf.sIc tkX7_isWord rfl ?_
  refine Wf.sCm (x := I 150 6) (y := 2) tkX7_isWord rfl (fun z => no ?_) (fun z => ?_)
  · have z : ¬ I 150 6 = 2 := z
    unfold isW
    cases hq : Nat.beq (tso b n e) 1 with
    | false => rfl
    | true =>
      have := Nat.eq_of_beq_eq_true hq
      rw [t6, this] at z
      exact absurd rfl z
  have z : I 150 6 = 2 := z
  have t1 : tso b n e = 1 := by
    rw [t6] at z
    rcases (show tso b n e = 0 ∨ tso b n e = 1 ∨ tso b n e = 2 ∨ tso b n e = 3 ∨ tso b n e = 4 by omega) with q | q | q | q | q
    · rw [q] at z; exact absurd z (by decide)
    · exact q
    · rw [q] at z; exact absurd z (by decide)
    · rw [q] at z; exact absurd z (by decide)
    · rw [q] at z; exact absurd z (by decide)
  obtain ⟨n8, l8⟩ := t8 t1
  obtain ⟨w8, -, -⟩ := word_b he t1
  refine Wf.sAl tkX7_isWord rfl rfl rfl ?_
  refine Wf.sG tkX7_isWord rfl rfl ?_
  refine Wf.sAl tkX7_isWord rfl rfl p0 ?_
  refine Wf.sCq (rest := [.int (I 150 8)]) tkX7_isWord rfl rfl hw rfl ?_
  refine k_len (d := d + 3) hw ?_
  refine Wf.sCm (x := I 150 8) (y := nI (tB (wd - 5000)).length) tkX7_isWord rfl (fun z2 => ?_) (fun z2 => no ?_)
  · have z2 : I 150 8 = nI (tB (wd - 5000)).length := z2
    rw [n8, nI_eq (by omega) (by omega)] at z2
    have hiw : isW b n (wd - 5000) e = eqs b (tst b n e) (wd - 5000) (tB (wd - 5000)).length := by
      unfold isW
      rw [t1, z2, show Nat.beq 1 1 = true from rfl, show ∀ k, Nat.beq k k = true from fun k => Nat.beq_refl k, Bool.true_and, Bool.true_and, eqs_ff]
    rw [hiw] at h
    refine Wf.sIc tkX7_isWord rfl ?_
    refine Wf.sIs tkX7_isWord rfl rfl ?_
    refine Wf.sIc tkX7_isWord rfl ?_
    refine Wf.sIs tkX7_isWord rfl rfl ?_
    have loop : ∀ i, i ≤ (tB (wd - 5000)).length → Wf l X uX7_isWord (d + 5) true (mC (mk w p r I L) + 0, mS (mk w p r I L) + 0) 32 [(0, .ref 150), (1, .ref wd), (2, .int (bI (eqs b (tst b n e) (wd - 5000) i))), (3, .int (nI i))] [] (mk w p r I L) kr := by
      refine down _ _ ?_ ?_
      · refine Wf.sIl tkX7_isWord rfl rfl ?_
        refine Wf.sAl tkX7_isWord rfl rfl rfl ?_
        refine Wf.sG tkX7_isWord rfl rfl ?_
        refine Wf.sCm (x := nI (tB (wd - 5000)).length) (y := I 150 8) tkX7_isWord rfl (fun _ => ?_) (fun z => absurd (show I 150 8 ≤ nI (tB (wd - 5000)).length by rw [n8, z2]; exact Int32.le_refl _) z)
        refine Wf.sIl tkX7_isWord rfl rfl ?_
        refine Wf.sZr tkX7_isWord rfl ?_ h
        cases eqs b (tst b n e) (wd - 5000) (tB (wd - 5000)).length
        · exact Or.inl rfl
        · exact Or.inr rfl
      · intro i hi hW
        have sety : ∀ v : Int32, v = bI (eqs b (tst b n e) (wd - 5000) (i + 1)) → Wf l X uX7_isWord (d + 5) true (mC (mk w p r I L) + 0, mS (mk w p r I L) + 0) 63 [(0, .ref 150), (1, .ref wd), (2, .int (bI (eqs b (tst b n e) (wd - 5000) i))), (3, .int (nI i))] [.int v] (mk w p r I L) kr := by
          intro v hv
          refine Wf.sIs tkX7_isWord rfl rfl ?_
          refine Wf.sInc tkX7_isWord rfl rfl rfl ?_
          refine Wf.sGo tkX7_isWord rfl ?_
          rw [nI_1, hv]
          exact hW
        refine Wf.sIl tkX7_isWord rfl rfl ?_
        refine Wf.sAl tkX7_isWord rfl rfl rfl ?_
        refine Wf.sG tkX7_isWord rfl rfl ?_
        refine Wf.sCm (x := nI i) (y := I 150 8) tkX7_isWord rfl (fun z => absurd z (by show ¬ I 150 8 ≤ nI i; rw [n8, z2]; exact nI_ge hi (by omega))) (fun _ => ?_)
        refine Wf.sIl tkX7_isWord rfl rfl ?_
        refine Wf.sIf (x := bI (eqs b (tst b n e) (wd - 5000) i)) tkX7_isWord rfl (fun z3 => ?_) (fun z3 => ?_)
        · refine Wf.sIc tkX7_isWord rfl ?_
          refine sety 0 ?_
          show (0 : Int32) = bI (eqs b (tst b n e) (wd - 5000) i && _)
          rw [bI_f z3]
          rfl
        · have e1 := bI_t z3
          obtain ⟨hb1, hb2⟩ := hr.2.2 (tst b n e + i) (by omega)
          obtain ⟨t, ht1, ht2, ht3⟩ := tB_rng (wd - 5000) (by omega) i hi
          have iff : sb (b (tst b n e + i)) = (tB (wd - 5000)).getD i 0 ↔ nI (b (tst b n e + i)) = (tB (wd - 5000)).getD i 0 := by rw [ht3]; exact sb_nI _ hb1 t ht1
          refine Wf.sAl tkX7_isWord rfl rfl rfl ?_
          refine Wf.sG tkX7_isWord rfl rfl ?_
          refine Wf.sIl tkX7_isWord rfl rfl ?_
          refine Wf.sIal (j := i) tkX7_isWord rfl rfl ⟨rfl, by omega, show i < 8 by omega⟩ ?_
          refine Wf.sAl tkX7_isWord rfl rfl p0 ?_
          refine Wf.sIl tkX7_isWord rfl rfl ?_
          refine Wf.sCq (rest := [.int (I 152 i)]) tkX7_isWord rfl rfl hw rfl ?_
          refine k_charx (d := d + 1) hw hi ?_
          refine Wf.sCm (x := I 152 i) (y := (tB (wd - 5000)).getD i 0) tkX7_isWord rfl (fun z4 => ?_) (fun z4 => ?_)
          · have z4 : ¬ I 152 i = (tB (wd - 5000)).getD i 0 := z4
            rw [l8 i (by omega), ← iff] at z4
            refine Wf.sIc tkX7_isWord rfl ?_
            refine sety 0 ?_
            show (0 : Int32) = bI (eqs b (tst b n e) (wd - 5000) i && decide _)
            rw [decide_eq_false z4, Bool.and_false]
            rfl
          · have z4 : I 152 i = (tB (wd - 5000)).getD i 0 := z4
            rw [l8 i (by omega), ← iff] at z4
            refine Wf.sIc tkX7_isWord rfl ?_
            refine Wf.sGo tkX7_isWord rfl ?_
            refine sety 1 ?_
            show (1 : Int32) = bI (eqs b (tst b n e) (wd - 5000) i && decide _)
            rw [decide_eq_true z4, e1]
            rfl
    exact loop 0 (Nat.zero_le _)
  · have z2 : ¬ I 150 8 = nI (tB (wd - 5000)).length := z2
    rw [n8, nI_eq (by omega) (by omega)] at z2
    unfold isW
    cases hq : Nat.beq (tsp b n e - tst b n e) (tB (wd - 5000)).length with
    | false => rw [Bool.false_and, Bool.and_false]
    | true => exact absurd (Nat.eq_of_beq_eq_true hq) z2
theorem isW_21 {i : Nat} : isW b n (21 + i) e = isW b n i e := by
  have e1 : tB (21 + i) = tB i := by
    unfold tB tS
    rw [Nat.add_mod_left]
  unfold isW
  rw [e1]
end RWD
end
section
/-! the reference's labels and wholes -/
section RNM
variable {l : Launch} {X : Nat × (Nat → Int32)} {d : Nat} {w : Nat × Nat} {p r : Nat} {I : Nat → Nat → Int32} {L : Nat → Nat → Int64} {kr : KR} {b : Nat → Nat} {n e : Nat}
theorem RX_sN {I' : Nat → Nat → Int32} (hr : RX b n I) (hs : sN I I') : RX b n I' := ⟨hr.1, by rw [hs 150 3 (by omega) (by decide)]; exact hr.2.1, fun i hi => ⟨(hr.2.2 i hi).1, by rw [hs 151 i (by omega) (by decide)]; exact (hr.2.2 i hi).2⟩⟩
theorem sN13 {I' : Nat → Nat → Int32} (hs : sN I I') : I' 150 13 = I 150 13 := hs 150 13 (by omega) (by decide)
theorem sN.rf : sN I I := fun _ _ _ _ => rfl
theorem sN.tr {I' I'' : Nat → Nat → Int32} (h : sN I I') (h2 : sN I' I'') : sN I I'' := fun a i z1 z2 => (h2 a i z1 z2).trans (h a i z1 z2)
theorem flR_13 {k s : Nat} : flR I k s 150 13 = 1 := by unfold flR; rw [u2_o (by decide), u2_o (by decide), u2_s]
theorem flR_n {k s : Nat} : ¬ flR I k s 150 13 = 0 := by rw [flR_13]; decide
theorem wd21 {wd i : Nat} (h : wd - 5000 = 21 + i) : isW b n (wd - 5000) e = isW b n i e := by rw [h]; exact isW_21
theorem y_takesWord {wd i : Nat} (hi : wd - 5000 = 21 + i) (hr : RX b n I) (he : e ≤ n) (hc : TR b n e I) (h0 : I 150 13 = 0) (hw : 5000 ≤ wd ∧ wd < 5042) (h1 : isW b n i e = true → ∀ I', sN I I' → TR b n (tsp b n e) I' → kr (some (.int 1)) (mk w p r I' L)) (h2 : isW b n i e = false → kr (some (.int 0)) (mk w p r I L)) : Ev l X uX7_takesWord (d + 6) true 0 0 [.ref 150, .ref wd] (mk w p r I L) kr := by
  have p0 : Nat.blt 0 wd = true := Nat.ble_eq_true_of_le (by omega)
  refine Ev.of (by decide) (Nat.le_of_ble_eq_true rfl) ?_
  refine Wf.sAl tkX7_takesWord rfl rfl rfl ?_
  refine Wf.sAl tkX7_takesWord rfl rfl p0 ?_
  refine Wf.sCv (as := [.ref wd]) (rest := []) tkX7_takesWord rfl rfl rfl rfl ?_
  refine y_isWord (d := d) hr he hc h0 hw ?_
  rw [wd21 hi]
  refine Wf.sIf (x := bI (isW b n i e)) tkX7_takesWord rfl (fun z => ?_) (fun z => ?_)
  · refine Wf.gc tkX7_takesWord [] ?_
    conv => whnf
    refine y_next (d := d + 3) hr (tsp_b (b := b) he).2 hc.2.2.1 (fun I' hs hc' => ?_)
    conv => whnf
    exact ⟨Or.inr rfl, h1 (bI_t z) I' hs hc'⟩
  · refine Wf.gc tkX7_takesWord [] ?_
    conv => whnf
    exact ⟨Or.inl rfl, h2 (bI_f z)⟩
theorem y_must_f {wd : Nat} (hf : ¬ I 150 13 = 0) (h : kr none (mk w p r I L)) : Ev l X uX7_must (d + 7) true 0 0 [.ref 150, .ref wd] (mk w p r I L) kr := by
  refine Ev.of (by decide) (Nat.le_of_ble_eq_true rfl) ?_
  refine Wf.gc tkX7_must [] ?_
  conv => whnf
  refine b1 hf ?_
  conv => whnf
  exact h
theorem y_must {wd i : Nat} (hi : wd - 5000 = 21 + i) (hr : RX b n I) (he : e ≤ n) (hc : TR b n e I) (h0 : I 150 13 = 0) (hw : 5000 ≤ wd ∧ wd < 5042) (h1 : isW b n i e = true → ∀ I', sN I I' → TR b n (tsp b n e) I' → kr none (mk w p r I' L)) (h2 : isW b n i e = false → kr none (mk w p r (flR I 1 (tst b n e)) L)) : Ev l X uX7_must (d + 7) true 0 0 [.ref 150, .ref wd] (mk w p r I L) kr := by
  have p0 : Nat.blt 0 wd = true := Nat.ble_eq_true_of_le (by omega)
  refine Ev.of (by decide) (Nat.le_of_ble_eq_true rfl) ?_
  refine Wf.sAl tkX7_must rfl rfl rfl ?_
  refine Wf.sG tkX7_must rfl rfl ?_
  refine Wf.sIf (x := I 150 13) tkX7_must rfl (fun z => absurd h0 z) (fun _ => ?_)
  refine Wf.sAl tkX7_must rfl rfl rfl ?_
  refine Wf.sAl tkX7_must rfl rfl p0 ?_
  refine Wf.sCv (as := [.ref wd]) (rest := []) tkX7_must rfl rfl rfl rfl ?_
  refine y_takesWord (d := d) hi hr he hc h0 hw (fun q I' hs hc' => ?_) (fun q => ?_)
  · refine Wf.sIf (x := 1) tkX7_must rfl (fun _ => ?_) (fun z => absurd z (by decide))
    exact Wf.sVr tkX7_must rfl (h1 q I' hs hc')
  · refine Wf.sIf (x := 0) tkX7_must rfl (fun z => absurd rfl z) (fun _ => ?_)
    refine Wf.gc tkX7_must [] ?_
    conv => whnf
    refine y_wrong0 h0 ?_
    conv => whnf
    have q := h2 q
    unfold flR at q
    rw [← hc.2.1] at q
    exact q
theorem y_pass_f (hf : ¬ I 150 13 = 0) (h : kr none (mk w p r I L)) : Ev l X uX7_pass (d + 3) true 0 0 [.ref 150] (mk w p r I L) kr := by
  refine Ev.of (by decide) (Nat.le_of_ble_eq_true rfl) ?_
  refine Wf.gc tkX7_pass [] ?_
  conv => whnf
  refine b1 hf ?_
  conv => whnf
  exact h
theorem y_pass (hr : RX b n I) (he : e ≤ n) (hc : TR b n e I) (h0 : I 150 13 = 0) (h : ∀ I', sN I I' → TR b n (tsp b n e) I' → kr none (mk w p r I' L)) : Ev l X uX7_pass (d + 3) true 0 0 [.ref 150] (mk w p r I L) kr := by
  refine Ev.of (by decide) (Nat.le_of_ble_eq_true rfl) ?_
  refine Wf.gc tkX7_pass [] ?_
  conv => whnf
  refine b2 (fun q => q h0) ?_
  conv => whnf
  refine y_next (d := d) hr (tsp_b (b := b) he).2 hc.2.2.1 (fun I' hs hc' => ?_)
  conv => whnf
  exact h I' hs hc'
theorem y_in {x lo hi : Int32} {M : Mm} (h1 : lo ≤ x → x ≤ hi → kr (some (.int 1)) M) (h0 : ¬ (lo ≤ x ∧ x ≤ hi) → kr (some (.int 0)) M) : Ev l X uX7_in d true 0 0 [.int x, .int lo, .int hi] M kr := by
  refine Ev.of (by decide) (Nat.le_of_ble_eq_true rfl) ?_
  refine Wf.gc tkX7_in [] ?_
  conv => whnf
  refine ⟨fun c1 => ?_, fun c1 => ?_⟩
  · have c1 : x < lo := c1
    conv => whnf
    exact ⟨Or.inl rfl, h0 (fun z => absurd z.1 (Int32.not_le.mpr c1))⟩
  · have c1 : ¬ x < lo := c1
    conv => whnf
    refine ⟨fun c2 => ?_, fun c2 => ?_⟩
    · have c2 : hi < x := c2
      conv => whnf
      exact ⟨Or.inl rfl, h0 (fun z => absurd z.2 (Int32.not_le.mpr c2))⟩
    · have c2 : ¬ hi < x := c2
      conv => whnf
      exact ⟨Or.inr rfl, h1 (Int32.not_lt.mp c1) (Int32.not_lt.mp c2)⟩
theorem y_numberHere_f {lo hi : Int32} (hf : ¬ I 150 13 = 0) (h : kr (some (.int lo)) (mk w p r I L)) : Ev l X uX7_numberHere (d + 1) true 0 0 [.ref 150, .int lo, .int hi] (mk w p r I L) kr := by
  refine Ev.of (by decide) (Nat.le_of_ble_eq_true rfl) ?_
  refine Wf.gc tkX7_numberHere [] ?_
  conv => whnf
  refine b2' hf ?_
  conv => whnf
  exact h
set_option maxRecDepth 20000 in
theorem y_numberHere {lo hi : Nat} (hlo : lo < 1000) (hhi : hi < 1000) (he : e ≤ n) (hc : TR b n e I) (h0 : I 150 13 = 0) (h1 : bnd b n lo hi e = 0 → kr (some (.int (nI (tvl b n e)))) (mk w p r I L)) (h2 : bnd b n lo hi e ≠ 0 → kr (some (.int (nI lo))) (mk w p r (flR I (bnd b n lo hi e) (tst b n e)) L)) : Ev l X uX7_numberHere (d + 1) true 0 0 [.ref 150, .int (nI lo), .int (nI hi)] (mk w p r I L) kr := by
  have s4 := tso_5 (b := b) (n := n) (e := e)
  refine Ev.of (by decide) (Nat.le_of_ble_eq_true rfl) ?_
  unfold bnd at h1 h2
  have bad : ∀ (k : Nat) (J : Nat → Nat → Int32), J = flR I k (tst b n e) → kr (some (.int (nI lo))) (mk w p r (flR I k (tst b n e)) L) → Wf l X uX7_numberHere (d + 1) true (mC (mk w p r I L) + 0, mS (mk w p r I L) + 0) 50 [(0, .ref 150), (1, .int (nI lo)), (2, .int (nI hi))] [] (mk w p r J L) kr := by
    intro k J hJ q
    subst hJ
    refine Wf.gc tkX7_numberHere [] ?_
    conv => whnf
    refine b2' (flR_n (I := I) (k := k) (s := tst b n e)) ?_
    conv => whnf
    exact q
  refine Wf.gc tkX7_numberHere [50] ?_
  conv => whnf
  refine b1' h0 ?_
  conv => whnf
  refine ⟨fun z => ?_, fun z => ?_⟩
  · have z : I 150 6 = 3 := z
    have t2 : tso b n e = 2 := by
      rw [hc.1] at z
      rcases (show tso b n e = 0 ∨ tso b n e = 1 ∨ tso b n e = 2 ∨ tso b n e = 3 ∨ tso b n e = 4 by omega) with q | q | q | q | q
      · rw [q] at z; exact absurd z (by decide)
      · rw [q] at z; exact absurd z (by decide)
      · exact q
      · rw [q] at z; exact absurd z (by decide)
      · rw [q] at z; exact absurd z (by decide)
    rw [if_pos t2] at h1 h2
    have hv := (tvl_b he t2).1
    have h7 := hc.2.2.2.1 t2
    conv => whnf
    refine y_in ?_ ?_
    · intro z1 z2
      have z1 : nI lo ≤ I 150 7 := z1
      have z2 : I 150 7 ≤ nI hi := z2
      rw [h7, nI_leI (by omega) (by omega)] at z1 z2
      rw [if_pos ⟨z1, z2⟩] at h1
      conv => whnf
      refine b1 (by decide) ?_
      conv => whnf
      show Wf l X uX7_numberHere (d + 1) true (mC (mk w p r I L) + 0, mS (mk w p r I L) + 0) 50 [(0, .ref 150), (1, .int (nI lo)), (2, .int (nI hi))] [] (mk w p r I L) kr
      refine Wf.gc tkX7_numberHere [] ?_
      conv => whnf
      refine b1' h0 ?_
      conv => whnf
      have q := h1 rfl
      rw [← h7] at q
      exact q
    · intro z1
      have z1 : ¬ (nI lo ≤ I 150 7 ∧ I 150 7 ≤ nI hi) := z1
      rw [h7, nI_leI (by omega) (by omega), nI_leI (by omega) (by omega)] at z1
      rw [if_neg z1] at h2
      conv => whnf
      refine b2 (by decide) ?_
      conv => whnf
      refine y_wrong0 h0 ?_
      conv => whnf
      exact bad 4 _ (by unfold flR; rw [← hc.2.1]; rfl) (h2 (by decide))
  · have z : ¬ I 150 6 = 3 := z
    have t2 : ¬ tso b n e = 2 := fun q => by rw [hc.1, q] at z; exact absurd rfl z
    rw [if_neg t2] at h2
    conv => whnf
    refine y_wrong0 h0 ?_
    conv => whnf
    exact bad 1 _ (by unfold flR; rw [← hc.2.1]; rfl) (h2 (by decide))
theorem y_number_f {lo hi : Int32} (hf : ¬ I 150 13 = 0) (h : kr (some (.int lo)) (mk w p r I L)) : Ev l X uX7_number (d + 4) true 0 0 [.ref 150, .int lo, .int hi] (mk w p r I L) kr := by
  refine Ev.of (by decide) (Nat.le_of_ble_eq_true rfl) ?_
  refine Wf.gc tkX7_number [] ?_
  conv => whnf
  refine y_numberHere_f (d := d + 2) hf ?_
  conv => whnf
  refine y_pass_f (d := d) hf ?_
  conv => whnf
  exact h
theorem y_number {lo hi : Nat} (hlo : lo < 1000) (hhi : hi < 1000) (hr : RX b n I) (he : e ≤ n) (hc : TR b n e I) (h0 : I 150 13 = 0) (h1 : bnd b n lo hi e = 0 → ∀ I', sN I I' → TR b n (tsp b n e) I' → kr (some (.int (nI (tvl b n e)))) (mk w p r I' L)) (h2 : bnd b n lo hi e ≠ 0 → kr (some (.int (nI lo))) (mk w p r (flR I (bnd b n lo hi e) (tst b n e)) L)) : Ev l X uX7_number (d + 4) true 0 0 [.ref 150, .int (nI lo), .int (nI hi)] (mk w p r I L) kr := by
  refine Ev.of (by decide) (Nat.le_of_ble_eq_true rfl) ?_
  refine Wf.gc tkX7_number [] ?_
  conv => whnf
  refine y_numberHere (d := d + 2) hlo hhi he hc h0 (fun q => ?_) (fun q => ?_)
  · conv => whnf
    refine y_pass (d := d) hr he hc h0 (fun I' hs hc' => ?_)
    conv => whnf
    exact h1 q I' hs hc'
  · conv => whnf
    refine y_pass_f (d := d) flR_n ?_
    conv => whnf
    exact h2 q
theorem y_after_f {wd : Nat} {lo hi : Int32} (hw : 5000 ≤ wd ∧ wd < 5042) (hf : ¬ I 150 13 = 0) (h : kr (some (.int lo)) (mk w p r I L)) : Ev l X uX7_after (d + 8) true 0 0 [.ref 150, .ref wd, .int lo, .int hi] (mk w p r I L) kr := by
  have p0 : Nat.blt 0 wd = true := Nat.ble_eq_true_of_le (by omega)
  refine Ev.of (by decide) (Nat.le_of_ble_eq_true rfl) ?_
  refine Wf.sAl tkX7_after rfl rfl rfl ?_
  refine Wf.sAl tkX7_after rfl rfl p0 ?_
  refine Wf.sCv (as := [.ref wd]) (rest := []) tkX7_after rfl rfl rfl rfl ?_
  refine y_must_f (d := d) hf ?_
  refine Wf.gc tkX7_after [] ?_
  conv => whnf
  refine y_number_f (d := d + 3) hf ?_
  conv => whnf
  exact h
theorem y_after {wd i lo hi : Nat} (hi' : wd - 5000 = 21 + i) (hlo : lo < 1000) (hhi : hi < 1000) (hr : RX b n I) (he : e ≤ n) (hc : TR b n e I) (h0 : I 150 13 = 0) (hw : 5000 ≤ wd ∧ wd < 5042) (h1 : (lab b n i lo hi e).1 = 0 → ∀ I', sN I I' → TR b n (tsp b n (tsp b n e)) I' → lo ≤ tvl b n (tsp b n e) → tvl b n (tsp b n e) ≤ hi → kr (some (.int (nI (tvl b n (tsp b n e))))) (mk w p r I' L)) (h2 : (lab b n i lo hi e).1 ≠ 0 → ∀ I', sN I I' → kr (some (.int (nI lo))) (mk w p r (flR I' (lab b n i lo hi e).1 (lab b n i lo hi e).2) L)) : Ev l X uX7_after (d + 8) true 0 0 [.ref 150, .ref wd, .int (nI lo), .int (nI hi)] (mk w p r I L) kr := by
  have p0 : Nat.blt 0 wd = true := Nat.ble_eq_true_of_le (by omega)
  refine Ev.of (by decide) (Nat.le_of_ble_eq_true rfl) ?_
  refine Wf.sAl tkX7_after rfl rfl rfl ?_
  refine Wf.sAl tkX7_after rfl rfl p0 ?_
  refine Wf.sCv (as := [.ref wd]) (rest := []) tkX7_after rfl rfl rfl rfl ?_
  unfold lab at h1 h2
  refine y_must (d := d) hi' hr he hc h0 hw (fun q I' hs hc' => ?_) (fun q => ?_)
  · rw [if_pos q] at h1 h2
    refine Wf.gc tkX7_after [] ?_
    conv => whnf
    refine y_number (d := d + 3) hlo hhi (RX_sN hr hs) (tsp_b (b := b) he).2 hc' ((sN13 hs).trans h0) (fun q2 I2 hs2 hc2 => ?_) (fun q2 => ?_)
    · conv => whnf
      exact h1 q2 I2 (hs.tr hs2) hc2 (bnd_v q2).1 (bnd_v q2).2
    · conv => whnf
      exact h2 q2 I' hs
  · rw [if_neg (by rw [q]; decide)] at h2
    refine Wf.gc tkX7_after [] ?_
    conv => whnf
    refine y_number_f (d := d + 3) flR_n ?_
    conv => whnf
    exact h2 (show (1 : Nat) ≠ 0 by decide) I sN.rf
end RNM
end
section
/-! the reference's names -/
section RNA
variable {l : Launch} {X : Nat × (Nat → Int32)} {d : Nat} {w : Nat × Nat} {p r : Nat} {I : Nat → Nat → Int32} {L : Nat → Nat → Int64} {kr : KR} {b : Nat → Nat} {n e : Nat} {nm : List Nm}
/-- where the reference keeps a name -/
noncomputable def sl (x : Nm) : Nat := (if x.2.2.1 = 1 then 0 else if x.2.2.1 = 2 then 6 else 11) + x.2.2.2
/-- sorts and numbers of names -/
noncomputable def SI (nm : List Nm) : Prop := ∀ i, i < nm.length → ((nmD nm i).2.2.1 = 1 ∧ (nmD nm i).2.2.2 < 6) ∨ ((nmD nm i).2.2.1 = 2 ∧ (nmD nm i).2.2.2 < 5) ∨ ((nmD nm i).2.2.1 = 3 ∧ (nmD nm i).2.2.2 < 4)
/-- names are unlike, and kept apart -/
noncomputable def UN (b : Nat → Nat) (nm : List Nm) : Prop := ∀ i j, i < nm.length → j < nm.length → (sl (nmD nm i) = sl (nmD nm j) ∨ sameW b (nmD nm i).1 (nmD nm i).2.1 (nmD nm j).1 (nmD nm j).2.1 = true) → i = j
noncomputable def RN (b : Nat → Nat) (nm : List Nm) (I : Nat → Nat → Int32) : Prop := (∀ i, i < nm.length → I 154 (67 + sl (nmD nm i)) = nI (nmD nm i).2.1 ∧ (1 ≤ (nmD nm i).2.1 ∧ (nmD nm i).2.1 ≤ 8) ∧ ∀ j, j < (nmD nm i).2.1 → I 154 (82 + 8 * sl (nmD nm i) + j) = nI (b ((nmD nm i).1 + j)) ∧ b ((nmD nm i).1 + j) < 256) ∧ ∀ m, m < 15 → (∀ i, i < nm.length → sl (nmD nm i) ≠ m) → I 154 (67 + m) = 0
theorem sl_15 (h : SI nm) {i : Nat} (hi : i < nm.length) : sl (nmD nm i) < 15 := by
  unfold sl
  rcases h i hi with ⟨h1, h2⟩ | ⟨h1, h2⟩ | ⟨h1, h2⟩
  · rw [if_pos h1]; omega
  · rw [if_neg (by omega), if_pos h1]; omega
  · rw [if_neg (by omega), if_neg (by omega)]; omega
set_option maxHeartbeats 2000000 in
set_option maxRecDepth 20000 in
theorem y_mustName (hr : RX b n I) (he : e ≤ n) (hc : TR b n e I) (h0 : I 150 13 = 0) (h1 : tso b n e = 1 ∧ bgl b n e = false → kr none (mk w p r I L)) (h2 : ¬ (tso b n e = 1 ∧ bgl b n e = false) → kr none (mk w p r (flR I 1 (tst b n e)) L)) : Ev l X uX7_mustName (d + 6) true 0 0 [.ref 150] (mk w p r I L) kr := by
  have s4 := tso_5 (b := b) (n := n) (e := e)
  refine Ev.of (by decide) (Nat.le_of_ble_eq_true rfl) ?_
  have bad : ¬ (tso b n e = 1 ∧ bgl b n e = false) → Wf l X uX7_mustName (d + 6) true (mC (mk w p r I L) + 0, mS (mk w p r I L) + 0) 71 [(0, .ref 150)] [] (mk w p r I L) kr := by
    intro q
    refine Wf.gc tkX7_mustName [] ?_
    conv => whnf
    refine y_wrong0 h0 ?_
    conv => whnf
    have q := h2 q
    unfold flR at q
    rw [← hc.2.1] at q
    exact q
  refine Wf.gc tkX7_mustName [71] ?_
  conv => whnf
  refine ⟨fun z => ?_, fun z => ?_⟩
  · have z : ¬ I 150 6 = 2 := z
    conv => whnf
    exact bad (fun q => by rw [hc.1, q.1] at z; exact z rfl)
  have z : I 150 6 = 2 := z
  have t1 : tso b n e = 1 := by
    rw [hc.1] at z
    rcases (show tso b n e = 0 ∨ tso b n e = 1 ∨ tso b n e = 2 ∨ tso b n e = 3 ∨ tso b n e = 4 by omega) with q | q | q | q | q
    · rw [q] at z; exact absurd z (by decide)
    · exact q
    · rw [q] at z; exact absurd z (by decide)
    · rw [q] at z; exact absurd z (by decide)
    · rw [q] at z; exact absurd z (by decide)
  conv => whnf
  refine y_isWord (wd := 5021) (d := d) hr he hc h0 (by decide) ?_
  rw [show isW b n (5021 - 5000) e = isW b n 0 e from wd21 (wd := 5021) (i := 0) (by decide)]
  conv => whnf
  refine ⟨fun z => ?_, fun z => ?_⟩
  · have f0 := bI_t z
    conv => whnf
    exact bad (fun q => by have q := q.2; unfold bgl at q; rw [f0] at q; cases q)
  have g0 := bI_f z
  conv => whnf
  refine y_isWord (wd := 5022) (d := d) hr he hc h0 (by decide) ?_
  rw [show isW b n (5022 - 5000) e = isW b n 1 e from wd21 (wd := 5022) (i := 1) (by decide)]
  conv => whnf
  refine ⟨fun z => ?_, fun z => ?_⟩
  · have f1 := bI_t z
    conv => whnf
    exact bad (fun q => by have q := q.2; unfold bgl at q; rw [g0, f1] at q; cases q)
  have g1 := bI_f z
  conv => whnf
  refine y_isWord (wd := 5023) (d := d) hr he hc h0 (by decide) ?_
  rw [show isW b n (5023 - 5000) e = isW b n 2 e from wd21 (wd := 5023) (i := 2) (by decide)]
  conv => whnf
  refine ⟨fun z => ?_, fun z => ?_⟩
  · have f2 := bI_t z
    conv => whnf
    exact bad (fun q => by have q := q.2; unfold bgl at q; rw [g0, g1, f2] at q; cases q)
  have g2 := bI_f z
  conv => whnf
  refine y_isWord (wd := 5024) (d := d) hr he hc h0 (by decide) ?_
  rw [show isW b n (5024 - 5000) e = isW b n 3 e from wd21 (wd := 5024) (i := 3) (by decide)]
  conv => whnf
  refine ⟨fun z => ?_, fun z => ?_⟩
  · have f3 := bI_t z
    conv => whnf
    exact bad (fun q => by have q := q.2; unfold bgl at q; rw [g0, g1, g2, f3] at q; cases q)
  have g3 := bI_f z
  conv => whnf
  refine y_isWord (wd := 5025) (d := d) hr he hc h0 (by decide) ?_
  rw [show isW b n (5025 - 5000) e = isW b n 4 e from wd21 (wd := 5025) (i := 4) (by decide)]
  conv => whnf
  refine ⟨fun z => ?_, fun z => ?_⟩
  · have f4 := bI_t z
    conv => whnf
    exact bad (fun q => by have q := q.2; unfold bgl at q; rw [g0, g1, g2, g3, f4] at q; cases q)
  have g4 := bI_f z
  conv => whnf
  refine y_isWord (wd := 5026) (d := d) hr he hc h0 (by decide) ?_
  rw [show isW b n (5026 - 5000) e = isW b n 5 e from wd21 (wd := 5026) (i := 5) (by decide)]
  conv => whnf
  refine ⟨fun z => ?_, fun z => ?_⟩
  · have f5 := bI_t z
    conv => whnf
    exact bad (fun q => by have q := q.2; unfold bgl at q; rw [g0, g1, g2, g3, g4, f5] at q; cases q)
  have g5 := bI_f z
  conv => whnf
  refine y_isWord (wd := 5027) (d := d) hr he hc h0 (by decide) ?_
  rw [show isW b n (5027 - 5000) e = isW b n 6 e from wd21 (wd := 5027) (i := 6) (by decide)]
  conv => whnf
  refine ⟨fun z => ?_, fun z => ?_⟩
  · have g6 := bI_f z
    conv => whnf
    exact h1 ⟨t1, by unfold bgl; rw [g0, g1, g2, g3, g4, g5, g6]; rfl⟩
  · have f6 := bI_t z
    conv => whnf
    exact bad (fun q => by have q := q.2; unfold bgl at q; rw [g0, g1, g2, g3, g4, g5, f6] at q; cases q)
/-- the word at hand stands in slot m -/
noncomputable def slP (b : Nat → Nat) (n : Nat) (nm : List Nm) (e m : Nat) : Bool := (ff (fun i => Nat.beq (sl (nmD nm i)) m && sameW b (nmD nm i).1 (nmD nm i).2.1 (tst b n e) (tsp b n e - tst b n e)) nm.length 0).isSome
theorem slP_t {m : Nat} : slP b n nm e m = true ↔ ∃ i, i < nm.length ∧ sl (nmD nm i) = m ∧ sameW b (nmD nm i).1 (nmD nm i).2.1 (tst b n e) (tsp b n e - tst b n e) = true := by
  unfold slP
  constructor
  · intro h
    cases hf : ff (fun i => Nat.beq (sl (nmD nm i)) m && sameW b (nmD nm i).1 (nmD nm i).2.1 (tst b n e) (tsp b n e - tst b n e)) nm.length 0 with
    | none => rw [hf] at h; cases h
    | some i =>
      obtain ⟨-, h2, h3⟩ := ff_lt hf
      obtain ⟨h3, h4⟩ := andT h3
      exact ⟨i, by omega, Nat.eq_of_beq_eq_true h3, h4⟩
  · rintro ⟨i, h1, h2, h3⟩
    cases hf : ff (fun i => Nat.beq (sl (nmD nm i)) m && sameW b (nmD nm i).1 (nmD nm i).2.1 (tst b n e) (tsp b n e - tst b n e)) nm.length 0 with
    | some _ => rfl
    | none =>
      have := ff_none hf i (Nat.zero_le _) (by omega)
      have this : (Nat.beq (sl (nmD nm i)) m && sameW b (nmD nm i).1 (nmD nm i).2.1 (tst b n e) (tsp b n e - tst b n e)) = false := this
      rw [h2, Nat.beq_refl, h3] at this
      cases this
theorem same_tr {s k t m u v : Nat} (h1 : sameW b s k u v = true) (h2 : sameW b t m u v = true) : sameW b s k t m = true := by
  rw [sameW_iff] at h1 h2 ⊢
  refine ⟨h1.1.trans h2.1.symm, fun j hj => (h1.2 j hj).trans (h2.2 j (by omega)).symm⟩
theorem fnd_eq (hs : SI nm) (hu : UN b nm) : ff (slP b n nm e) 15 0 = (nlk b n nm e).map (fun i => sl (nmD nm i)) := by
  cases hk : nlk b n nm e with
  | none =>
    have no : ∀ m, slP b n nm e m = false := fun m => by
      cases hq : slP b n nm e m with
      | false => rfl
      | true =>
        obtain ⟨i, h1, -, h3⟩ := slP_t.mp hq
        have := ff_none hk i (Nat.zero_le _) (by omega)
        have this : sameW b (nmD nm i).1 (nmD nm i).2.1 (tst b n e) (tsp b n e - tst b n e) = false := this
        rw [h3] at this
        cases this
    cases hf : ff (slP b n nm e) 15 0 with
    | none => rfl
    | some m =>
      have := (ff_lt hf).2.2
      rw [no m] at this
      cases this
  | some i =>
    obtain ⟨-, h2, h3⟩ := ff_lt hk
    have h2 : i < nm.length := by omega
    have hP : slP b n nm e (sl (nmD nm i)) = true := slP_t.mpr ⟨i, h2, rfl, h3⟩
    cases hf : ff (slP b n nm e) 15 0 with
    | none =>
      have := ff_none hf (sl (nmD nm i)) (Nat.zero_le _) (by have := sl_15 hs h2; omega)
      rw [hP] at this
      cases this
    | some m =>
      obtain ⟨j, q1, q2, q3⟩ := slP_t.mp (ff_lt hf).2.2
      have e1 := hu i j h2 q1 (Or.inr (same_tr h3 q3))
      subst e1
      rw [← q2]
      rfl
noncomputable def oM : Option Nat → Int32
  | none => -1
  | some i => nI i
set_option maxHeartbeats 4000000 in
set_option maxRecDepth 20000 in
theorem y_find (hr : RX b n I) (he : e ≤ n) (hc : TR b n e I) (t1 : tso b n e = 1) (hs : SI nm) (hu : UN b nm) (hn : RN b nm I) (h : kr (some (.int (oM (ff (slP b n nm e) 15 0)))) (mk w p r I L)) : Ev l X uX7_find d true 0 0 [.ref 150] (mk w p r I L) kr := by
  obtain ⟨n8, l8⟩ := hc.2.2.2.2 t1
  obtain ⟨w8, w1, ws⟩ := word_b he t1
  have hsp := tsp_b (b := b) he
  refine Ev.of (by decide) (Nat.le_of_ble_eq_true rfl) ?_
  refine Wf.gc tkX7_find [2] ?_
  conv => whnf
  have loop := srch (e := 15) (P := slP b n nm e) (Wi := fun m => Wf l X uX7_find d true (mC (mk w p r I L) + 0, mS (mk w p r I L) + 0) 2 [(0, .ref 150), (1, .int (nI m))] [] (mk w p r I L) kr) (K := fun o => kr (some (.int (oM o))) (mk w p r I L)) ?_ ?_ 0 (Nat.zero_le _)
  · exact loop h
  · intro hK
    refine Wf.gc tkX7_find [] ?_
    conv => whnf
    refine b1' (by show (15 : Int32) ≤ nI 15; decide) ?_
    conv => whnf
    exact hK
  · intro m hm
    -- behind the letters
    have fin : ∀ (q : Bool) (v : Int32), (q = true → kr (some (.int (nI m))) (mk w p r I L)) → (q = false → Wf l X uX7_find d true (mC (mk w p r I L) + 0, mS (mk w p r I L) + 0) 2 [(0, .ref 150), (1, .int (nI (m + 1)))] [] (mk w p r I L) kr) → Wf l X uX7_find d true (mC (mk w p r I L) + 0, mS (mk w p r I L) + 0) 91 [(0, .ref 150), (1, .int (nI m)), (2, .int (bI q)), (3, .int v)] [] (mk w p r I L) kr := by
      intro q v j1 j2
      cases q with
      | true =>
        refine Wf.gc tkX7_find [2] ?_
        conv => whnf
        refine b2' (by decide) ?_
        conv => whnf
        exact j1 rfl
      | false =>
        have j2 := j2 rfl
        rw [← nI_1] at j2
        refine Wf.gc tkX7_find [2] ?_
        conv => whnf
        refine b1' rfl ?_
        conv => whnf
        refine Wf.keep [0, 1] ?_
        exact j2
    -- no letters are looked at
    have zero : (Wf l X uX7_find d true (mC (mk w p r I L) + 0, mS (mk w p r I L) + 0) 2 [(0, .ref 150), (1, .int (nI (m + 1)))] [] (mk w p r I L) kr) → Wf l X uX7_find d true (mC (mk w p r I L) + 0, mS (mk w p r I L) + 0) 40 [(0, .ref 150), (1, .int (nI m))] [] (mk w p r I L) kr := by
      intro j
      refine Wf.gc tkX7_find [91] ?_
      conv => whnf
      refine b2' (by show ¬ I 150 8 ≤ 0; rw [n8, show (0 : Int32) = nI 0 from rfl]; exact nI_ge (by omega) (by omega)) ?_
      conv => whnf
      refine b1' rfl ?_
      conv => whnf
      exact fin false 0 (fun q => by cases q) (fun _ => j)
    -- the head
    have head : (¬ (0 < I 154 (67 + m) ∧ I 154 (67 + m) = I 150 8) → Wf l X uX7_find d true (mC (mk w p r I L) + 0, mS (mk w p r I L) + 0) 40 [(0, .ref 150), (1, .int (nI m))] [] (mk w p r I L) kr) → ((0 < I 154 (67 + m) ∧ I 154 (67 + m) = I 150 8) → Wf l X uX7_find d true (mC (mk w p r I L) + 0, mS (mk w p r I L) + 0) 44 [(0, .ref 150), (1, .int (nI m)), (2, .int 1), (3, .int 0)] [] (mk w p r I L) kr) → Wf l X uX7_find d true (mC (mk w p r I L) + 0, mS (mk w p r I L) + 0) 2 [(0, .ref 150), (1, .int (nI m))] [] (mk w p r I L) kr := by
      intro j1 j2
      refine Wf.gc tkX7_find [40, 44] ?_
      conv => whnf
      refine b2' (by show ¬ (15 : Int32) ≤ nI m; rw [show (15 : Int32) = nI 15 from rfl]; exact nI_ge hm (by decide)) ?_
      conv => whnf
      refine ⟨67 + m, ⟨nI_add 67 m, by omega, show 67 + m < 202 by omega⟩, ?_⟩
      conv => whnf
      refine ⟨fun z => ?_, fun z => ?_⟩
      · have z : I 154 (67 + m) ≤ 0 := z
        conv => whnf
        exact j1 (fun q => Int32.not_lt.mpr z q.1)
      · have z : ¬ I 154 (67 + m) ≤ 0 := z
        conv => whnf
        refine ⟨67 + m, ⟨nI_add 67 m, by omega, show 67 + m < 202 by omega⟩, ?_⟩
        conv => whnf
        refine ⟨fun z2 => ?_, fun z2 => ?_⟩
        · have z2 : ¬ I 154 (67 + m) = I 150 8 := z2
          conv => whnf
          exact j1 (fun q => z2 q.2)
        · have z2 : I 154 (67 + m) = I 150 8 := z2
          conv => whnf
          exact j2 ⟨Int32.not_le.mp z, z2⟩
    -- is the slot used?
    by_cases hx : ∃ i, i < nm.length ∧ sl (nmD nm i) = m
    · obtain ⟨i, hi, rfl⟩ := hx
      obtain ⟨q1, ⟨q2, q3⟩, q4⟩ := hn.1 i hi
      have letters : (0 < I 154 (67 + sl (nmD nm i)) ∧ I 154 (67 + sl (nmD nm i)) = I 150 8) → (sameW b (nmD nm i).1 (nmD nm i).2.1 (tst b n e) (tsp b n e - tst b n e) = true → kr (some (.int (nI (sl (nmD nm i))))) (mk w p r I L)) → (sameW b (nmD nm i).1 (nmD nm i).2.1 (tst b n e) (tsp b n e - tst b n e) = false → Wf l X uX7_find d true (mC (mk w p r I L) + 0, mS (mk w p r I L) + 0) 2 [(0, .ref 150), (1, .int (nI (sl (nmD nm i) + 1)))] [] (mk w p r I L) kr) → Wf l X uX7_find d true (mC (mk w p r I L) + 0, mS (mk w p r I L) + 0) 44 [(0, .ref 150), (1, .int (nI (sl (nmD nm i)))), (2, .int 1), (3, .int 0)] [] (mk w p r I L) kr := by
        intro hk j1 j2
        have ek : (nmD nm i).2.1 = tsp b n e - tst b n e := by
          have := hk.2
          rw [q1, n8, nI_eq (by omega) (by omega)] at this
          exact this
        have es : ∀ o : Option Nat, o = ff (fun j => !(Nat.beq (b ((nmD nm i).1 + j)) (b (tst b n e + j)))) (nmD nm i).2.1 0 → sameW b (nmD nm i).1 (nmD nm i).2.1 (tst b n e) (tsp b n e - tst b n e) = o.isNone := fun o ho => by
          unfold sameW
          rw [← ek, Nat.beq_refl, Bool.true_and, ho]
        have lp := srch (e := (nmD nm i).2.1) (P := fun j => !(Nat.beq (b ((nmD nm i).1 + j)) (b (tst b n e + j)))) (Wi := fun j => Wf l X uX7_find d true (mC (mk w p r I L) + 0, mS (mk w p r I L) + 0) 44 [(0, .ref 150), (1, .int (nI (sl (nmD nm i)))), (2, .int 1), (3, .int (nI j))] [] (mk w p r I L) kr) (K := fun o => o = ff (fun j => !(Nat.beq (b ((nmD nm i).1 + j)) (b (tst b n e + j)))) (nmD nm i).2.1 0) ?_ ?_ 0 (Nat.zero_le _)
        · exact lp rfl
        · intro ho
          refine Wf.gc tkX7_find [91] ?_
          conv => whnf
          refine b1' (by show I 150 8 ≤ nI (nmD nm i).2.1; rw [n8, ek]; exact Int32.le_refl _) ?_
          conv => whnf
          exact fin true _ (fun _ => j1 (es none ho)) (fun q => by cases q)
        · intro j hj
          obtain ⟨c1, c2⟩ := q4 j hj
          have c3 := l8 j (by omega)
          have c4 := (hr.2.2 (tst b n e + j) (by omega)).1
          have hd2 : (b ((nmD nm i).1 + j) = b (tst b n e + j) → Wf l X uX7_find d true (mC (mk w p r I L) + 0, mS (mk w p r I L) + 0) 44 [(0, .ref 150), (1, .int (nI (sl (nmD nm i)))), (2, .int 1), (3, .int (nI (j + 1)))] [] (mk w p r I L) kr) → (¬ b ((nmD nm i).1 + j) = b (tst b n e + j) → sameW b (nmD nm i).1 (nmD nm i).2.1 (tst b n e) (tsp b n e - tst b n e) = false) → Wf l X uX7_find d true (mC (mk w p r I L) + 0, mS (mk w p r I L) + 0) 44 [(0, .ref 150), (1, .int (nI (sl (nmD nm i)))), (2, .int 1), (3, .int (nI j))] [] (mk w p r I L) kr := by
            intro g1 g2
            have s15 := sl_15 hs hi
            refine Wf.gc tkX7_find [44] ?_
            conv => whnf
            refine b2' (by show ¬ I 150 8 ≤ nI j; rw [n8]; exact nI_ge (by omega) (by omega)) ?_
            conv => whnf
            refine b2' (by decide) ?_
            conv => whnf
            refine ⟨82 + 8 * sl (nmD nm i) + j, ⟨by show (82 + 8 * nI (sl (nmD nm i)) + nI j : Int32) = _; rw [show (8 : Int32) = nI 8 from rfl, nI_mul, show (82 : Int32) = nI 82 from rfl, nI_add, nI_add], by omega, show _ < 202 by omega⟩, ?_⟩
            conv => whnf
            refine ⟨j, ix (N := 8) (by omega) (by decide), ?_⟩
            conv => whnf
            refine ⟨fun z => ?_, fun z => ?_⟩
            · have z : ¬ I 154 (82 + 8 * sl (nmD nm i) + j) = I 152 j := z
              rw [c1, c3, nI_eq (by omega) (by omega)] at z
              conv => whnf
              show Wf l X uX7_find d true (mC (mk w p r I L) + 0, mS (mk w p r I L) + 0) 44 [(0, .ref 150), (1, .int (nI (sl (nmD nm i)))), (2, .int 0), (3, .int (nI j + 1))] [] (mk w p r I L) kr
              refine Wf.gc tkX7_find [91] ?_
              conv => whnf
              refine ⟨fun z2 => ?_, fun z2 => ?_⟩
              · conv => whnf
                exact fin false _ (fun q => by cases q) (fun _ => j2 (g2 z))
              · conv => whnf
                refine b1' rfl ?_
                conv => whnf
                exact fin false _ (fun q => by cases q) (fun _ => j2 (g2 z))
            · have z : I 154 (82 + 8 * sl (nmD nm i) + j) = I 152 j := z
              rw [c1, c3, nI_eq (by omega) (by omega)] at z
              conv => whnf
              have g1 := g1 z
              rw [← nI_1] at g1
              exact g1
          refine ⟨fun hP ho => ?_, fun hP hW => ?_⟩
          · refine hd2 (fun q => ?_) (fun _ => es (some j) ho)
            have hP : (!(Nat.beq (b ((nmD nm i).1 + j)) (b (tst b n e + j)))) = true := hP
            rw [q, Nat.beq_refl] at hP
            cases hP
          · refine hd2 (fun _ => hW) (fun q => ?_)
            have hP : (!(Nat.beq (b ((nmD nm i).1 + j)) (b (tst b n e + j)))) = false := hP
            cases hq : Nat.beq (b ((nmD nm i).1 + j)) (b (tst b n e + j)) with
            | true => exact absurd (Nat.eq_of_beq_eq_true hq) q
            | false => rw [hq] at hP; cases hP
      have SLI : slP b n nm e (sl (nmD nm i)) = sameW b (nmD nm i).1 (nmD nm i).2.1 (tst b n e) (tsp b n e - tst b n e) → (slP b n nm e (sl (nmD nm i)) = true → kr (some (.int (nI (sl (nmD nm i))))) (mk w p r I L)) → (slP b n nm e (sl (nmD nm i)) = false → Wf l X uX7_find d true (mC (mk w p r I L) + 0, mS (mk w p r I L) + 0) 2 [(0, .ref 150), (1, .int (nI (sl (nmD nm i) + 1)))] [] (mk w p r I L) kr) → Wf l X uX7_find d true (mC (mk w p r I L) + 0, mS (mk w p r I L) + 0) 2 [(0, .ref 150), (1, .int (nI (sl (nmD nm i))))] [] (mk w p r I L) kr := by
        intro e0 j1 j2
        rw [e0] at j1 j2
        refine head (fun q => zero (j2 ?_)) (fun q => letters q j1 j2)
        cases hq : sameW b (nmD nm i).1 (nmD nm i).2.1 (tst b n e) (tsp b n e - tst b n e) with
        | false => rfl
        | true =>
          have ek := (sameW_iff.mp hq).1
          exact absurd ⟨by rw [q1, show (0 : Int32) = nI 0 from rfl, nI_ltI (by decide) (by omega)]; omega, by rw [q1, n8, ek]⟩ q
      have e0 : UN b nm → slP b n nm e (sl (nmD nm i)) = sameW b (nmD nm i).1 (nmD nm i).2.1 (tst b n e) (tsp b n e - tst b n e) := fun hu => by
        cases hq : sameW b (nmD nm i).1 (nmD nm i).2.1 (tst b n e) (tsp b n e - tst b n e) with
        | true => exact slP_t.mpr ⟨i, hi, rfl, hq⟩
        | false =>
          cases hz : slP b n nm e (sl (nmD nm i)) with
          | false => rfl
          | true =>
            obtain ⟨j, a1, a2, a3⟩ := slP_t.mp hz
            have := hu i j hi a1 (Or.inl a2.symm)
            subst this
            rw [a3] at hq
            cases hq
      exact ⟨fun hP hK => SLI (e0 hu) (fun _ => hK) (fun q => by rw [q] at hP; cases hP), fun hP hW => SLI (e0 hu) (fun q => by rw [q] at hP; cases hP) (fun _ => hW)⟩
    · have h0 : I 154 (67 + m) = 0 := hn.2 m hm (fun i hi q => hx ⟨i, hi, q⟩)
      have hP0 : slP b n nm e m = false := by
        cases hq : slP b n nm e m with
        | false => rfl
        | true =>
          obtain ⟨i, a1, a2, -⟩ := slP_t.mp hq
          exact absurd ⟨i, a1, a2⟩ hx
      refine ⟨fun hP _ => ?_, fun _ hW => ?_⟩
      · rw [hP0] at hP
        cases hP
      · exact head (fun _ => zero hW) (fun q => by rw [h0] at q; exact absurd q.1 (by decide))
end RNA
end
section
/-! the reference's new names, and names used -/
section RNN
variable {l : Launch} {X : Nat × (Nat → Int32)} {d : Nat} {w : Nat × Nat} {p r : Nat} {I : Nat → Nat → Int32} {L : Nat → Nat → Int64} {kr : KR} {b : Nat → Nat} {n e : Nat} {nm : List Nm}
/-- what a new name changes -/
noncomputable def sM (I I' : Nat → Nat → Int32) : Prop := ∀ a i, ¬ (a = 150 ∧ 4 ≤ i ∧ i ≤ 8) → a ≠ 152 → ¬ (a = 154 ∧ 67 ≤ i) → I' a i = I a i
theorem y_named_f {v u : Int32} (hf : ¬ I 150 13 = 0) (h : kr (some (.int 0)) (mk w p r I L)) : Ev l X uX7_named (d + 7) true 0 0 [.ref 150, .int v, .int u] (mk w p r I L) kr := by
  refine Ev.of (by decide) (Nat.le_of_ble_eq_true rfl) ?_
  refine Wf.gc tkX7_named [] ?_
  conv => whnf
  refine b2' hf ?_
  conv => whnf
  exact h
theorem nI_n0 {k : Nat} (h : k < 1000) : ¬ nI k < 0 := by
  rw [show (0 : Int32) = nI 0 from rfl, nI_ltI (by omega) (by decide)]
  omega
set_option maxHeartbeats 4000000 in
set_option maxRecDepth 20000 in
theorem y_newName {m so k : Nat} (hm : m < 15) (hsl : sl (nw b n e so k) = m) (hfr : ∀ i, i < nm.length → sl (nmD nm i) ≠ m) (hr : RX b n I) (he : e ≤ n) (hc : TR b n e I) (h0 : I 150 13 = 0) (hs : SI nm) (hu : UN b nm) (hn : RN b nm I) (h1 : tel b n nm e = 0 → ∀ I', sM I I' → TR b n (tsp b n e) I' → RN b (nm ++ [nw b n e so k]) I' → kr none (mk w p r I' L)) (h2 : tel b n nm e ≠ 0 → kr none (mk w p r (flR I (tel b n nm e) (tst b n e)) L)) : Ev l X uX7_newName (d + 7) true 0 0 [.ref 150, .int (nI m)] (mk w p r I L) kr := by
  unfold tel at h1 h2
  have hsp := tsp_b (b := b) he
  refine Ev.of (by decide) (Nat.le_of_ble_eq_true rfl) ?_
  have bad : ∀ (k : Nat) (J : Nat → Nat → Int32), J = flR I k (tst b n e) → kr none (mk w p r (flR I k (tst b n e)) L) → Wf l X uX7_newName (d + 7) true (mC (mk w p r I L) + 0, mS (mk w p r I L) + 0) 35 [(0, .ref 150), (1, .int (nI m))] [] (mk w p r J L) kr := by
    intro k J hJ q
    subst hJ
    refine Wf.gc tkX7_newName [] ?_
    conv => whnf
    refine b2' (flR_n (I := I) (k := k) (s := tst b n e)) ?_
    conv => whnf
    exact q
  refine Wf.gc tkX7_newName [35] ?_
  conv => whnf
  refine b1' h0 ?_
  conv => whnf
  refine y_mustName (d := d) hr he hc h0 (fun q => ?_) (fun q => ?_)
  · rw [if_pos q] at h1 h2
    obtain ⟨n8, l8⟩ := hc.2.2.2.2 q.1
    obtain ⟨w8, w1, ws⟩ := word_b he q.1
    conv => whnf
    refine b2 (fun z => z h0) ?_
    conv => whnf
    refine y_find (d := d + 6) hr he hc q.1 hs hu hn ?_
    rw [fnd_eq hs hu]
    cases hk : nlk b n nm e with
    | some i =>
      rw [hk] at h2
      obtain ⟨-, hi, -⟩ := ff_lt hk
      have hi : i < nm.length := by omega
      have s15 := sl_15 hs hi
      conv => whnf
      refine b2' (show ¬ nI (sl (nmD nm i)) < 0 from nI_n0 (by omega)) ?_
      conv => whnf
      refine y_wrong0 h0 ?_
      conv => whnf
      exact bad 3 _ (by unfold flR; rw [← hc.2.1]; rfl) (h2 (show (3 : Nat) ≠ 0 by decide))
    | none =>
      rw [hk] at h1
      conv => whnf
      refine b1' (show (-1 : Int32) < 0 by decide) ?_
      conv => whnf
      show Wf l X uX7_newName (d + 7) true (mC (mk w p r I L) + 0, mS (mk w p r I L) + 0) 35 [(0, .ref 150), (1, .int (nI m))] [] (mk w p r I L) kr
      refine Wf.gc tkX7_newName [45] ?_
      conv => whnf
      refine b1' h0 ?_
      conv => whnf
      have loop := down (fun j => ∀ K : Nat → Nat → Int32, (∀ a i, ¬ (a = 154 ∧ 82 + 8 * m ≤ i ∧ i < 90 + 8 * m) → K a i = I a i) → (∀ i, i < j → K 154 (82 + 8 * m + i) = nI (b (tst b n e + i))) → Wf l X uX7_newName (d + 7) true (mC (mk w p r I L) + 0, mS (mk w p r I L) + 0) 45 [(0, .ref 150), (1, .int (nI m)), (2, .int (nI j))] [] (mk w p r K L) kr) (tsp b n e - tst b n e) ?_ ?_ 0 (Nat.zero_le _)
      · exact loop I (fun _ _ _ => rfl) (fun i hi => absurd hi (Nat.not_lt_zero _))
      · intro K k1 k2
        have k8 : K 150 8 = nI (tsp b n e - tst b n e) := (k1 150 8 (by omega)).trans n8
        refine Wf.gc tkX7_newName [] ?_
        conv => whnf
        refine b1' (by show K 150 8 ≤ nI (tsp b n e - tst b n e); rw [k8]; exact Int32.le_refl _) ?_
        conv => whnf
        refine ⟨67 + m, ⟨nI_add 67 m, by omega, show 67 + m < 202 by omega⟩, ?_⟩
        conv => whnf
        have rx : RX b n (u2 K 154 (67 + m) (K 150 8)) := ⟨hr.1, by rw [u2_o (by omega), k1 150 3 (by omega)]; exact hr.2.1, fun j hj => ⟨(hr.2.2 j hj).1, by rw [u2_o (by omega), k1 151 j (by omega)]; exact (hr.2.2 j hj).2⟩⟩
        have q5 : u2 K 154 (67 + m) (K 150 8) 150 5 = nI (tsp b n e) := by rw [u2_o (by omega), k1 150 5 (by omega)]; exact hc.2.2.1
        refine y_next (d := d + 4) (e := tsp b n e) rx hsp.2 q5 (fun I' hs' hc' => ?_)
        conv => whnf
        have hs' : sN (u2 K 154 (67 + m) (K 150 8)) I' := hs'
        have o1 : ∀ a i, ¬ (a = 150 ∧ 4 ≤ i ∧ i ≤ 8) → a ≠ 152 → ¬ (a = 154 ∧ i = 67 + m) → ¬ (a = 154 ∧ 82 + 8 * m ≤ i ∧ i < 90 + 8 * m) → I' a i = I a i := fun a i z1 z2 z3 z4 => by rw [hs' a i z1 z2, u2_o z3, k1 a i z4]
        refine h1 rfl I' (fun a i z1 z2 z3 => o1 a i z1 z2 (by omega) (by omega)) hc' ⟨fun i hi => ?_, fun m' hm' hx => ?_⟩
        · rw [List.length_append] at hi
          have hi : i < nm.length + 1 := hi
          rcases Nat.lt_or_ge i nm.length with z5 | z5
          · obtain ⟨q1, q2, q4⟩ := hn.1 i z5
            have sn := hfr i z5
            have s15 := sl_15 hs z5
            rw [nmD_o z5]
            refine ⟨by rw [o1 154 _ (by omega) (by decide) (by omega) (by omega)]; exact q1, q2, fun j hj => ⟨?_, (q4 j hj).2⟩⟩
            rw [o1 154 _ (by omega) (by decide) (by omega) (by omega)]
            exact (q4 j hj).1
          · have e5 : i = nm.length := by omega
            subst e5
            rw [nmD_a, hsl]
            refine ⟨by rw [hs' 154 _ (by omega) (by decide), u2_s]; exact k8, ⟨w1, w8⟩, fun j hj => ?_⟩
            have hj : j < tsp b n e - tst b n e := hj
            refine ⟨?_, (hr.2.2 (tst b n e + j) (by omega)).1⟩
            rw [hs' 154 _ (by omega) (by decide), u2_o (by omega)]
            exact k2 j hj
        · have nm1 : m' ≠ m := fun q => by
            have := hx nm.length (by rw [List.length_append]; exact Nat.lt_succ_self _)
            rw [nmD_a, hsl] at this
            exact this q.symm
          rw [o1 154 _ (by omega) (by decide) (by omega) (by omega)]
          refine hn.2 m' hm' (fun i hi => ?_)
          have := hx i (by rw [List.length_append]; exact Nat.lt_succ_of_lt hi)
          rw [nmD_o hi] at this
          exact this
      · intro j hj ih K k1 k2
        have k8 : K 150 8 = nI (tsp b n e - tst b n e) := (k1 150 8 (by omega)).trans n8
        have ih := ih (u2 K 154 (82 + 8 * m + j) (K 152 j)) (fun a i z => by rw [u2_o (by omega)]; exact k1 a i z) (fun i hi => by
          rcases Nat.lt_or_ge i j with z | z
          · rw [u2_o (by omega)]; exact k2 i z
          · have : i = j := by omega
            subst this
            rw [u2_s, k1 152 i (by omega)]
            exact l8 i hj)
        rw [← nI_1] at ih
        refine Wf.gc tkX7_newName [45] ?_
        conv => whnf
        refine b2' (by show ¬ K 150 8 ≤ nI j; rw [k8]; exact nI_ge hj (by omega)) ?_
        conv => whnf
        refine ⟨j, ix (N := 8) (by omega) (by decide), ?_⟩
        conv => whnf
        refine ⟨82 + 8 * m + j, ⟨by show (82 + 8 * nI m + nI j : Int32) = _; rw [show (8 : Int32) = nI 8 from rfl, nI_mul, show (82 : Int32) = nI 82 from rfl, nI_add, nI_add], by omega, show _ < 202 by omega⟩, ?_⟩
        conv => whnf
        exact ih
  · rw [if_neg q] at h2
    conv => whnf
    refine b1 (flR_n (I := I) (k := 1) (s := tst b n e)) ?_
    conv => whnf
    exact bad 1 _ rfl (h2 (by decide))
theorem sl_so {so lo hi i : Nat} (hl : (so = 1 ∧ lo = 0 ∧ hi = 5) ∨ (so = 2 ∧ lo = 6 ∧ hi = 10)) (hs : SI nm) (hi' : i < nm.length) : ((lo ≤ sl (nmD nm i) ∧ sl (nmD nm i) ≤ hi) ↔ (nmD nm i).2.2.1 = so) ∧ ((nmD nm i).2.2.1 = so → sl (nmD nm i) - lo = (nmD nm i).2.2.2) := by
  unfold sl
  rcases hs i hi' with ⟨h1, h2⟩ | ⟨h1, h2⟩ | ⟨h1, h2⟩
  · rw [if_pos h1, h1]; omega
  · rw [if_neg (by omega), if_pos h1, h1]; omega
  · rw [if_neg (by omega), if_neg (by omega), h1]; omega
set_option maxHeartbeats 4000000 in
set_option maxRecDepth 20000 in
theorem y_named {so lo hi : Nat} (hl : (so = 1 ∧ lo = 0 ∧ hi = 5) ∨ (so = 2 ∧ lo = 6 ∧ hi = 10)) (hr : RX b n I) (he : e ≤ n) (hc : TR b n e I) (h0 : I 150 13 = 0) (hs : SI nm) (hu : UN b nm) (hn : RN b nm I) (h1 : (nam b n nm so e).1 = 0 → kr (some (.int (nI (nam b n nm so e).2))) (mk w p r I L)) (h2 : (nam b n nm so e).1 ≠ 0 → kr (some (.int 0)) (mk w p r (flR I (nam b n nm so e).1 (tst b n e)) L)) : Ev l X uX7_named (d + 7) true 0 0 [.ref 150, .int (nI lo), .int (nI hi)] (mk w p r I L) kr := by
  unfold nam at h1 h2
  refine Ev.of (by decide) (Nat.le_of_ble_eq_true rfl) ?_
  have bad : ∀ (k : Nat) (x : Int32) (J : Nat → Nat → Int32), J = flR I k (tst b n e) → kr (some (.int 0)) (mk w p r (flR I k (tst b n e)) L) → Wf l X uX7_named (d + 7) true (mC (mk w p r I L) + 0, mS (mk w p r I L) + 0) 45 [(0, .ref 150), (1, .int (nI lo)), (2, .int (nI hi)), (3, .int x)] [] (mk w p r J L) kr := by
    intro k x J hJ q
    subst hJ
    refine Wf.gc tkX7_named [] ?_
    conv => whnf
    refine b2' (flR_n (I := I) (k := k) (s := tst b n e)) ?_
    conv => whnf
    exact q
  refine Wf.gc tkX7_named [45] ?_
  conv => whnf
  refine b1' h0 ?_
  conv => whnf
  refine y_mustName (d := d) hr he hc h0 (fun q => ?_) (fun q => ?_)
  · rw [if_pos q] at h1 h2
    conv => whnf
    refine b1' h0 ?_
    conv => whnf
    refine y_find (d := d + 6) hr he hc q.1 hs hu hn ?_
    rw [fnd_eq hs hu]
    cases hk : nlk b n nm e with
    | some i =>
      rw [hk] at h1 h2
      obtain ⟨-, hi, -⟩ := ff_lt hk
      have hi : i < nm.length := by omega
      have s15 := sl_15 hs hi
      obtain ⟨g1, g2⟩ := sl_so hl hs hi
      conv => whnf
      refine y_in (fun z1 z2 => ?_) (fun z => ?_)
      · have z1 : nI lo ≤ nI (sl (nmD nm i)) := z1
        have z2 : nI (sl (nmD nm i)) ≤ nI _ := z2
        rw [nI_leI (by omega) (by omega)] at z1 z2
        have g := g1.mp ⟨z1, z2⟩
        have h1 : (if (nmD nm i).2.2.1 = so then (0, (nmD nm i).2.2.2) else ((2, 0) : Nat × Nat)).1 = 0 → kr (some (.int (nI (if (nmD nm i).2.2.1 = so then (0, (nmD nm i).2.2.2) else ((2, 0) : Nat × Nat)).2))) (mk w p r I L) := h1
        rw [if_pos g, ← g2 g, ← nI_sub z1] at h1
        conv => whnf
        refine b1 (by decide) ?_
        conv => whnf
        show Wf l X uX7_named (d + 7) true (mC (mk w p r I L) + 0, mS (mk w p r I L) + 0) 45 [(0, .ref 150), (1, .int (nI lo)), (2, .int (nI _)), (3, .int (nI (sl (nmD nm i))))] [] (mk w p r I L) kr
        refine Wf.gc tkX7_named [] ?_
        conv => whnf
        refine b1' h0 ?_
        conv => whnf
        exact h1 rfl
      · have z : ¬ (nI lo ≤ nI (sl (nmD nm i)) ∧ nI (sl (nmD nm i)) ≤ nI _) := z
        rw [nI_leI (by omega) (by omega), nI_leI (by omega) (by omega)] at z
        have g : ¬ (nmD nm i).2.2.1 = so := fun q => z (g1.mpr q)
        have h2 : (if (nmD nm i).2.2.1 = so then (0, (nmD nm i).2.2.2) else ((2, 0) : Nat × Nat)).1 ≠ 0 → kr (some (.int 0)) (mk w p r (flR I (if (nmD nm i).2.2.1 = so then (0, (nmD nm i).2.2.2) else ((2, 0) : Nat × Nat)).1 (tst b n e)) L) := h2
        rw [if_neg g] at h2
        conv => whnf
        refine b2 (by decide) ?_
        conv => whnf
        refine y_wrong0 h0 ?_
        conv => whnf
        exact bad 2 _ _ (by unfold flR; rw [← hc.2.1]; rfl) (h2 (show (2 : Nat) ≠ 0 by decide))
    | none =>
      rw [hk] at h2
      conv => whnf
      refine y_in (fun z1 z2 => ?_) (fun z => ?_)
      · have z1 : nI lo ≤ (-1 : Int32) := z1
        refine absurd z1 (Int32.not_le.mpr ?_)
        rcases hl with ⟨-, h, -⟩ | ⟨-, h, -⟩
        · subst h; decide
        · subst h; decide
      · conv => whnf
        refine b2 (by decide) ?_
        conv => whnf
        refine y_wrong0 h0 ?_
        conv => whnf
        exact bad 2 _ _ (by unfold flR; rw [← hc.2.1]; rfl) (h2 (show (2 : Nat) ≠ 0 by decide))
  · rw [if_neg q] at h2
    conv => whnf
    refine b2' (flR_n (I := I) (k := 1) (s := tst b n e)) ?_
    conv => whnf
    exact h2 (show (1 : Nat) ≠ 0 by decide)
/-- the kept rules with one name more -/
theorem SI_a {x : Nm} (hs : SI nm) (hx : (x.2.2.1 = 1 ∧ x.2.2.2 < 6) ∨ (x.2.2.1 = 2 ∧ x.2.2.2 < 5) ∨ (x.2.2.1 = 3 ∧ x.2.2.2 < 4)) : SI (nm ++ [x]) := by
  intro i hi
  rw [List.length_append] at hi
  have hi : i < nm.length + 1 := hi
  rcases Nat.lt_or_ge i nm.length with z5 | z5
  · rw [nmD_o z5]; exact hs i z5
  · have e5 : i = nm.length := by omega
    subst e5
    rw [nmD_a]; exact hx
theorem same_sy {s k t m : Nat} (h : sameW b s k t m = true) : sameW b t m s k = true := by
  rw [sameW_iff] at h ⊢
  exact ⟨h.1.symm, fun j hj => (h.2 j (by omega)).symm⟩
theorem UN_a {so k : Nat} (hu : UN b nm) (ht : tel b n nm e = 0) (hfr : ∀ i, i < nm.length → sl (nmD nm i) ≠ sl (nw b n e so k)) : UN b (nm ++ [nw b n e so k]) := by
  have no : ∀ i, i < nm.length → sameW b (nmD nm i).1 (nmD nm i).2.1 (tst b n e) (tsp b n e - tst b n e) = false := fun i hi => by
    unfold tel at ht
    by_cases q : tso b n e = 1 ∧ bgl b n e = false
    · rw [if_pos q] at ht
      cases hk : nlk b n nm e with
      | none => exact ff_none hk i (Nat.zero_le _) (by omega)
      | some j => rw [hk] at ht; cases ht
    · rw [if_neg q] at ht; cases ht
  intro i j hi hj h
  rw [List.length_append] at hi hj
  have hi : i < nm.length + 1 := hi
  have hj : j < nm.length + 1 := hj
  rcases Nat.lt_or_ge i nm.length with z5 | z5
  · rcases Nat.lt_or_ge j nm.length with z6 | z6
    · rw [nmD_o z5, nmD_o z6] at h
      exact hu i j z5 z6 h
    · have e6 : j = nm.length := by omega
      subst e6
      rw [nmD_o z5, nmD_a] at h
      rcases h with h | h
      · exact absurd h (hfr i z5)
      · exact absurd ((no i z5).symm.trans h) (by decide)
  · have e5 : i = nm.length := by omega
    rcases Nat.lt_or_ge j nm.length with z6 | z6
    · subst e5
      rw [nmD_a, nmD_o z6] at h
      rcases h with h | h
      · exact absurd h.symm (hfr j z6)
      · exact absurd ((no j z6).symm.trans (same_sy h)) (by decide)
    · omega
end RNN
end
section
/-! the reference's state behind some lines -/
section RST
variable {l : Launch} {X : Nat × (Nat → Int32)} {d : Nat} {w : Nat × Nat} {p r : Nat} {I : Nat → Nat → Int32} {L : Nat → Nat → Int64} {kr : KR} {b : Nat → Nat} {n e : Nat} {nm : List Nm} {F : Nat → Nat} {W : Int32}
noncomputable def FR (F : Nat → Nat) (W : Int32) (I : Nat → Nat → Int32) : Prop := (∀ k, k < 67 → k ≠ 10 → I 154 k = nI (F k)) ∧ I 154 10 = W ∧ (∀ c, c < 5 → I 156 (18 + c) = nI (F (300 + c))) ∧ (∀ f, f < 6 → I 156 f = nI (F (12 + 4 * f))) ∧ ∀ i, 6 ≤ i → i < 25 → (i < 18 ∨ 23 ≤ i) → I 156 i = 0
/-- numbers of names are those of lines read -/
noncomputable def KM (F : Nat → Nat) (nm : List Nm) : Prop := ∀ i, i < nm.length → ((nmD nm i).2.2.1 = 1 → (nmD nm i).2.2.2 < F 4) ∧ ((nmD nm i).2.2.1 = 2 → (nmD nm i).2.2.2 < F 5) ∧ ((nmD nm i).2.2.1 = 3 → (nmD nm i).2.2.2 < F 6)
noncomputable def SF (b : Nat → Nat) (n : Nat) (P : Ps) (I : Nat → Nat → Int32) : Prop := RX b n I ∧ P.2.2.2 ≤ n ∧ TR b n P.2.2.2 I ∧ I 150 13 = 0 ∧ FR P.1 P.2.1 I ∧ RN b P.2.2.1 I ∧ SI P.2.2.1 ∧ UN b P.2.2.1 ∧ KM P.1 P.2.2.1 ∧ (P.1 9 = 0 ↔ P.1 0 = 0)
/-- what a line may change -/
noncomputable def sQ (I I' : Nat → Nat → Int32) : Prop := (∀ a i, ¬ (a = 150 ∧ ((4 ≤ i ∧ i ≤ 10) ∨ i = 13)) → a ≠ 152 → a ≠ 154 → a ≠ 156 → I' a i = I a i) ∧ (I' 150 13 = 0 → I 150 13 = 0 ∧ I' 150 9 = I 150 9)
theorem sQ.rf : sQ I I := ⟨fun _ _ _ _ _ _ => rfl, fun h => ⟨h, rfl⟩⟩
theorem sQ.tr {I' I'' : Nat → Nat → Int32} (h : sQ I I') (h2 : sQ I' I'') : sQ I I'' := ⟨fun a i z1 z2 z3 z4 => (h2.1 a i z1 z2 z3 z4).trans (h.1 a i z1 z2 z3 z4), fun q => ⟨(h.2 (h2.2 q).1).1, (h2.2 q).2.trans (h.2 (h2.2 q).1).2⟩⟩
theorem sN.sQ {I' : Nat → Nat → Int32} (h : sN I I') : sQ I I' := ⟨fun a i z1 z2 _ _ => h a i (by omega) z2, fun q => ⟨(h 150 13 (by omega) (by decide)).symm.trans q, h 150 9 (by omega) (by decide)⟩⟩
theorem sM.sQ {I' : Nat → Nat → Int32} (h : sM I I') : sQ I I' := ⟨fun a i z1 z2 z3 _ => h a i (by omega) z2 (by omega), fun q => ⟨(h 150 13 (by omega) (by decide) (by omega)).symm.trans q, h 150 9 (by omega) (by decide) (by omega)⟩⟩
theorem sQ_fl {k s : Nat} : sQ I (flR I k s) := ⟨fun a i z1 _ _ _ => by unfold flR; rw [u2_o (by omega), u2_o (by omega), u2_o (by omega)], fun q => absurd q flR_n⟩
/-- rows' own places -/
noncomputable def sP (I I' : Nat → Nat → Int32) : Prop := ∀ a i, ¬ (a = 154 ∧ i < 67) → a ≠ 156 → I' a i = I a i
theorem sP.rf : sP I I := fun _ _ _ _ => rfl
theorem sP.tr {I' I'' : Nat → Nat → Int32} (h : sP I I') (h2 : sP I' I'') : sP I I'' := fun a i z1 z2 => (h2 a i z1 z2).trans (h a i z1 z2)
theorem sP.sQ {I' : Nat → Nat → Int32} (h : sP I I') : sQ I I' := ⟨fun a i _ _ z3 z4 => h a i (by omega) z4, fun q => ⟨(h 150 13 (by omega) (by decide)).symm.trans q, h 150 9 (by omega) (by decide)⟩⟩
theorem sP_4 {k : Nat} {v : Int32} (hk : k < 67) : sP I (u2 I 154 k v) := fun a i z1 _ => u2_o (by omega)
theorem sP_6 {k : Nat} {v : Int32} : sP I (u2 I 156 k v) := fun a i _ z2 => u2_o (by omega)
theorem RX_sP {I' : Nat → Nat → Int32} (hr : RX b n I) (hs : sP I I') : RX b n I' := ⟨hr.1, by rw [hs 150 3 (by omega) (by decide)]; exact hr.2.1, fun i hi => ⟨(hr.2.2 i hi).1, by rw [hs 151 i (by omega) (by decide)]; exact (hr.2.2 i hi).2⟩⟩
theorem TR_sP {I' : Nat → Nat → Int32} (hc : TR b n e I) (hs : sP I I') : TR b n e I' := ⟨by rw [hs 150 6 (by omega) (by decide)]; exact hc.1, by rw [hs 150 4 (by omega) (by decide)]; exact hc.2.1, by rw [hs 150 5 (by omega) (by decide)]; exact hc.2.2.1, fun q => by rw [hs 150 7 (by omega) (by decide)]; exact hc.2.2.2.1 q, fun q => ⟨by rw [hs 150 8 (by omega) (by decide)]; exact (hc.2.2.2.2 q).1, fun k hk => by rw [hs 152 k (by omega) (by decide)]; exact (hc.2.2.2.2 q).2 k hk⟩⟩
theorem RN_cg {I' : Nat → Nat → Int32} (hn : RN b nm I) (h : ∀ i, 67 ≤ i → I' 154 i = I 154 i) : RN b nm I' := ⟨fun i hi => by
  obtain ⟨h1, h2, h3⟩ := hn.1 i hi
  exact ⟨by rw [h _ (by omega)]; exact h1, h2, fun j hj => ⟨by rw [h _ (by omega)]; exact (h3 j hj).1, (h3 j hj).2⟩⟩, fun m hm hx => by rw [h _ (by omega)]; exact hn.2 m hm hx⟩
theorem RN_sP {I' : Nat → Nat → Int32} (hn : RN b nm I) (hs : sP I I') : RN b nm I' := RN_cg hn (fun i hi => hs 154 i (by omega) (by decide))
theorem RN_sN {I' : Nat → Nat → Int32} (hn : RN b nm I) (hs : sN I I') : RN b nm I' := RN_cg hn (fun i hi => hs 154 i (by omega) (by decide))
theorem RX_sM {I' : Nat → Nat → Int32} (hr : RX b n I) (hs : sM I I') : RX b n I' := ⟨hr.1, by rw [hs 150 3 (by omega) (by decide) (by omega)]; exact hr.2.1, fun i hi => ⟨(hr.2.2 i hi).1, by rw [hs 151 i (by omega) (by decide) (by omega)]; exact (hr.2.2 i hi).2⟩⟩
theorem FR_cg {I' : Nat → Nat → Int32} (h : FR F W I) (h4 : ∀ k, k < 67 → I' 154 k = I 154 k) (h6 : ∀ k, I' 156 k = I 156 k) : FR F W I' := ⟨fun k z1 z2 => by rw [h4 k z1]; exact h.1 k z1 z2, by rw [h4 10 (by decide)]; exact h.2.1, fun c hc => by rw [h6]; exact h.2.2.1 c hc, fun c hc => by rw [h6]; exact h.2.2.2.1 c hc, fun i z1 z2 z3 => by rw [h6]; exact h.2.2.2.2 i z1 z2 z3⟩
theorem FR_sN {I' : Nat → Nat → Int32} (h : FR F W I) (hs : sN I I') : FR F W I' := FR_cg h (fun k _ => hs 154 k (by omega) (by decide)) (fun k => hs 156 k (by omega) (by decide))
theorem FR_sM {I' : Nat → Nat → Int32} (h : FR F W I) (hs : sM I I') : FR F W I' := FR_cg h (fun k _ => hs 154 k (by omega) (by decide) (by omega)) (fun k => hs 156 k (by omega) (by decide) (by omega))
theorem FR_s {k v : Nat} (h : FR F W I) (hk : k < 67 ∧ k ≠ 10) (hh : k < 12 ∨ 33 ≤ k ∨ k % 4 ≠ 0) : FR (uF F k v) W (u2 I 154 k (nI v)) := by
  refine ⟨fun j z1 z2 => ?_, by rw [u2_o (by omega)]; exact h.2.1, fun c hc => by rw [u2_o (by omega), uF_o (by omega)]; exact h.2.2.1 c hc, fun f hf => by rw [u2_o (by omega), uF_o (by omega)]; exact h.2.2.2.1 f hf, fun i z1 z2 z3 => by rw [u2_o (by omega)]; exact h.2.2.2.2 i z1 z2 z3⟩
  by_cases q : j = k
  · subst q
    rw [u2_s, uF_s]
  · rw [u2_o (by omega), uF_o q]
    exact h.1 j z1 z2
theorem FR_W {V : Int32} (h : FR F W I) : FR F V (u2 I 154 10 V) := ⟨fun j z1 z2 => by rw [u2_o (by omega)]; exact h.1 j z1 z2, u2_s, fun c hc => by rw [u2_o (by omega)]; exact h.2.2.1 c hc, fun f hf => by rw [u2_o (by omega)]; exact h.2.2.2.1 f hf, fun i z1 z2 z3 => by rw [u2_o (by omega)]; exact h.2.2.2.2 i z1 z2 z3⟩
theorem FR_c {c v : Nat} (h : FR F W I) (hc : c < 5) : FR (uF F (300 + c) v) W (u2 I 156 (18 + c) (nI v)) := by
  refine ⟨fun j z1 z2 => by rw [u2_o (by omega), uF_o (by omega)]; exact h.1 j z1 z2, by rw [u2_o (by omega)]; exact h.2.1, fun j hj => ?_, fun f hf => by rw [u2_o (by omega), uF_o (by omega)]; exact h.2.2.2.1 f hf, fun i z1 z2 z3 => by rw [u2_o (by omega)]; exact h.2.2.2.2 i z1 z2 z3⟩
  by_cases q : j = c
  · subst q
    rw [u2_s, uF_s]
  · rw [u2_o (by omega), uF_o (by omega)]
    exact h.2.2.1 j hj
theorem KM_c {F' : Nat → Nat} (h : KM F nm) (h4 : F 4 ≤ F' 4) (h5 : F 5 ≤ F' 5) (h6 : F 6 ≤ F' 6) : KM F' nm := fun i hi => by
  obtain ⟨a1, a2, a3⟩ := h i hi
  exact ⟨fun q => by have := a1 q; omega, fun q => by have := a2 q; omega, fun q => by have := a3 q; omega⟩
theorem KM_a {x : Nm} (h : KM F nm) (hx : (x.2.2.1 = 1 → x.2.2.2 < F 4) ∧ (x.2.2.1 = 2 → x.2.2.2 < F 5) ∧ (x.2.2.1 = 3 → x.2.2.2 < F 6)) : KM F (nm ++ [x]) := by
  intro i hi
  rw [List.length_append] at hi
  have hi : i < nm.length + 1 := hi
  rcases Nat.lt_or_ge i nm.length with z5 | z5
  · rw [nmD_o z5]; exact h i z5
  · rw [show i = nm.length by omega, nmD_a]; exact hx
theorem and01 (x : Int32) : x &&& 1 = 0 ∨ x &&& 1 = 1 := by
  have e : (x &&& 1).toBitVec.toNat = x.toBitVec.toNat % 2 := by
    rw [Int32.toBitVec_and, BitVec.toNat_and]
    exact Nat.and_one_is_mod _
  rcases Nat.mod_two_eq_zero_or_one x.toBitVec.toNat with h | h
  · left
    apply Int32.toBitVec_inj.mp
    apply BitVec.eq_of_toNat_eq
    rw [e, h]
    rfl
  · right
    apply Int32.toBitVec_inj.mp
    apply BitVec.eq_of_toNat_eq
    rw [e, h]
    rfl
theorem y_hasBit {k : Nat} {M : Mm} (h : kr (some (.int (bI (isWl W k)))) M) : Ev l X uX7_hasBit d true 0 0 [.int W, .int (nI k)] M kr := by
  unfold isWl at h
  refine k_bit (fun z => ?_) (fun z => ?_)
  · have z : (W >>> (nI k &&& 31)) &&& 1 = 0 := (and01 _).resolve_right z
    rw [decide_eq_true z] at h
    exact h
  · have z : ¬ (W >>> (nI k &&& 31)) &&& 1 = 0 := fun q => by rw [z] at q; cases q
    rw [decide_eq_false z] at h
    exact h
theorem y_cellHere_f (hf : ¬ I 150 13 = 0) (h : kr (some (.int 0)) (mk w p r I L)) : Ev l X uX7_cellHere (d + 2) true 0 0 [.ref 150] (mk w p r I L) kr := by
  refine Ev.of (by decide) (Nat.le_of_ble_eq_true rfl) ?_
  refine Wf.gc tkX7_cellHere [] ?_
  conv => whnf
  refine ⟨0, ⟨rfl, by decide, show 0 < 202 by decide⟩, ?_⟩
  conv => whnf
  refine ⟨1, ⟨rfl, by decide, show 1 < 202 by decide⟩, ?_⟩
  conv => whnf
  refine y_numberHere_f (d := d) hf ?_
  conv => whnf
  exact h
theorem y_cellHere (hf : FR F W I) (hB : Bd F W nm) (hT : 0 < F 0) (he : e ≤ n) (hc : TR b n e I) (h0 : I 150 13 = 0) (h1 : bnd b n 0 (F 0 * F 1 - 1) e = 0 → kr (some (.int (nI (tvl b n e)))) (mk w p r I L)) (h2 : bnd b n 0 (F 0 * F 1 - 1) e ≠ 0 → kr (some (.int 0)) (mk w p r (flR I (bnd b n 0 (F 0 * F 1 - 1) e) (tst b n e)) L)) : Ev l X uX7_cellHere (d + 2) true 0 0 [.ref 150] (mk w p r I L) kr := by
  have hm : F 0 * F 1 ≤ 5 * 4 := Nat.mul_le_mul hB.1.1 hB.1.2.1
  have hm1 : 2 * 2 ≤ F 0 * F 1 := Nat.mul_le_mul (hB.2.2.2.2.2 hT).1 (hB.2.2.2.2.2 hT).2
  have ev : (I 154 0 * I 154 1 - 1 : Int32) = nI (F 0 * F 1 - 1) := by
    rw [hf.1 0 (by decide) (by decide), hf.1 1 (by decide) (by decide), nI_mul, show (1 : Int32) = nI 1 from rfl, nI_sub (by omega)]
  refine Ev.of (by decide) (Nat.le_of_ble_eq_true rfl) ?_
  refine Wf.gc tkX7_cellHere [] ?_
  conv => whnf
  refine ⟨0, ⟨rfl, by decide, show 0 < 202 by decide⟩, ?_⟩
  conv => whnf
  refine ⟨1, ⟨rfl, by decide, show 1 < 202 by decide⟩, ?_⟩
  conv => whnf
  show Ev l X uX7_numberHere (d + 1) true 0 0 [.ref 150, .int (nI 0), .int (I 154 0 * I 154 1 - 1)] (mk w p r I L) _
  rw [ev]
  refine y_numberHere (d := d) (by decide) (by omega) he hc h0 (fun q => ?_) (fun q => ?_)
  · conv => whnf
    exact h1 q
  · conv => whnf
    exact h2 q
end RST
end
section
/-! the reference's lines: close, wall; an open cell -/
section RLN
variable {l : Launch} {X : Nat × (Nat → Int32)} {d : Nat} {w : Nat × Nat} {p r : Nat} {I : Nat → Nat → Int32} {L : Nat → Nat → Int64} {kr : KR} {b : Nat → Nat} {n e : Nat} {nm : List Nm} {F : Nat → Nat} {W : Int32}
theorem flR_9 {k s : Nat} : flR I k s 150 9 = nI k := by unfold flR; rw [u2_o (by decide), u2_s]
theorem flR_10 {k s : Nat} : flR I k s 150 10 = nI s := by unfold flR; rw [u2_s]
/-- a line that failed -/
noncomputable def FE (I : Nat → Nat → Int32) (er : Nat × Nat) (I' : Nat → Nat → Int32) : Prop := sQ I I' ∧ I' 150 13 = 1 ∧ I' 150 9 = nI er.1 ∧ I' 150 10 = nI er.2
theorem FE_fl {I1 : Nat → Nat → Int32} {k s : Nat} (h : sQ I I1) : FE I (k, s) (flR I1 k s) := ⟨h.tr sQ_fl, flR_13, flR_9, flR_10⟩
theorem FE_sP {I1 I2 : Nat → Nat → Int32} {er : Nat × Nat} (h : FE I er I1) (hs : sP I1 I2) : FE I er I2 := ⟨h.1.tr hs.sQ, by rw [hs 150 13 (by omega) (by decide)]; exact h.2.1, by rw [hs 150 9 (by omega) (by decide)]; exact h.2.2.1, by rw [hs 150 10 (by omega) (by decide)]; exact h.2.2.2⟩
theorem FE_0 {er : Nat × Nat} {I' : Nat → Nat → Int32} (h : FE I er I') : ¬ I' 150 13 = 0 := by rw [h.2.1]; decide
theorem FE_tr {I1 I2 : Nat → Nat → Int32} {er : Nat × Nat} (h : sQ I I1) (h2 : FE I1 er I2) : FE I er I2 := ⟨h.tr h2.1, h2.2⟩
set_option maxHeartbeats 2000000 in
set_option maxRecDepth 20000 in
theorem y_wallLine (hB : Bd F W nm) (hT : 0 < F 0) (h5 : ¬ 5 ≤ F 3) (h6 : ¬ 0 < F 6) (hS : SF b n (F, W, nm, tn b n 1 e) I) (he : e ≤ n) (hE : ∀ er, lnWall b n F W nm e = .inl er → ∀ I', FE I er I' → kr none (mk w p r I' L)) (hO : ∀ P', lnWall b n F W nm e = .inr P' → ∀ I', sQ I I' → SF b n P' I' → kr none (mk w p r I' L)) : Ev l X uX7_wallLine (d + 4) true 0 0 [.ref 150] (mk w p r I L) kr := by
  obtain ⟨hr, he1, hc, h0, hf, hn, hs, hu, hk, h9⟩ := hS
  have he1 : tn b n 1 e ≤ n := he1
  have hc : TR b n (tn b n 1 e) I := hc
  have hf : FR F W I := hf
  unfold lnWall at hE hO
  rw [if_neg h5, if_neg h6] at hE hO
  refine Ev.of (by decide) (Nat.le_of_ble_eq_true rfl) ?_
  have bad : ∀ (v : Int32) (J : Nat → Nat → Int32), ¬ J 150 13 = 0 → kr none (mk w p r J L) → Wf l X uX7_wallLine (d + 4) true (mC (mk w p r I L) + 0, mS (mk w p r I L) + 0) 43 [(0, .ref 150), (1, .int v)] [] (mk w p r J L) kr := by
    intro v J hJ q
    refine Wf.gc tkX7_wallLine [] ?_
    conv => whnf
    refine y_pass_f (d := d) hJ ?_
    conv => whnf
    refine b2' hJ ?_
    conv => whnf
    exact q
  refine Wf.gc tkX7_wallLine [43] ?_
  conv => whnf
  refine b1' h0 ?_
  conv => whnf
  refine y_cellHere (d := d + 1) hf hB hT he1 hc h0 (fun q => ?_) (fun q => ?_)
  · rw [if_neg (fun z => z q)] at hE hO
    conv => whnf
    refine b2 (fun z => z h0) ?_
    conv => whnf
    refine ⟨10, ⟨rfl, by decide, show 10 < 202 by decide⟩, ?_⟩
    conv => whnf
    show Ev l X uX7_hasBit (d + 3) true 0 0 [.int (I 154 10), .int (nI (tvl b n (tn b n 1 e)))] (mk w p r I L) _
    rw [hf.2.1]
    refine y_hasBit ?_
    cases hw : isWl W (tvl b n (tn b n 1 e)) with
    | true =>
      rw [if_pos hw] at hE
      conv => whnf
      refine b2' (by decide) ?_
      conv => whnf
      refine y_wrong0 h0 ?_
      conv => whnf
      have eJ : u2 (u2 (u2 I 150 13 1) 150 9 3) 150 10 (I 150 4) = flR I 3 (tst b n (tn b n 1 e)) := by unfold flR; rw [← hc.2.1]; rfl
      show Wf l X uX7_wallLine (d + 4) true (mC (mk w p r I L) + 0, mS (mk w p r I L) + 0) 43 [(0, .ref 150), (1, .int (nI (tvl b n (tn b n 1 e))))] [] (mk w p r (u2 (u2 (u2 I 150 13 1) 150 9 3) 150 10 (I 150 4)) L) kr
      rw [eJ]
      exact bad _ _ flR_n (hE _ rfl _ (FE_fl sQ.rf))
    | false =>
      rw [if_neg (by rw [hw]; decide)] at hO
      conv => whnf
      refine b1' rfl ?_
      conv => whnf
      show Wf l X uX7_wallLine (d + 4) true (mC (mk w p r I L) + 0, mS (mk w p r I L) + 0) 43 [(0, .ref 150), (1, .int (nI (tvl b n (tn b n 1 e))))] [] (mk w p r I L) kr
      refine Wf.gc tkX7_wallLine [] ?_
      conv => whnf
      refine y_pass (d := d) hr he1 hc h0 (fun I' hs' hc' => ?_)
      have hc' : TR b n (tn b n 2 e) I' := hc'
      have f13 : I' 150 13 = 0 := (sN13 hs').trans h0
      have hf' := FR_sN hf hs'
      conv => whnf
      refine b1' f13 ?_
      conv => whnf
      refine ⟨10, ⟨rfl, by decide, show 10 < 202 by decide⟩, ?_⟩
      conv => whnf
      refine ⟨10, ⟨rfl, by decide, show 10 < 202 by decide⟩, ?_⟩
      conv => whnf
      refine ⟨3, ⟨rfl, by decide, show 3 < 202 by decide⟩, ?_⟩
      conv => whnf
      refine ⟨3, ⟨rfl, by decide, show 3 < 202 by decide⟩, ?_⟩
      conv => whnf
      show kr none (mk w p r (u2 (u2 I' 154 10 (I' 154 10 ||| ((1 : Int32) <<< (nI (tvl b n (tn b n 1 e)) &&& 31)))) 154 3 (u2 I' 154 10 (I' 154 10 ||| ((1 : Int32) <<< (nI (tvl b n (tn b n 1 e)) &&& 31))) 154 3 + 1)) L)
      rw [u2_o (by decide), hf'.2.1, hf'.1 3 (by decide) (by decide), nI_1]
      have sp : sP I' (u2 (u2 I' 154 10 (W ||| ((1 : Int32) <<< (nI (tvl b n (tn b n 1 e)) &&& 31)))) 154 3 (nI (F 3 + 1))) := (sP_4 (by decide)).tr (sP_4 (by decide))
      refine hO _ rfl _ (hs'.sQ.tr sp.sQ) ⟨RX_sP (RX_sN hr hs') sp, tn_b he 2, TR_sP hc' sp, by rw [sp 150 13 (by omega) (by decide)]; exact f13, FR_s (FR_W hf') (by decide) (by decide), RN_sP (RN_sN hn hs') sp, hs, hu, KM_c hk (Nat.le_refl _) (Nat.le_refl _) (Nat.le_refl _), h9⟩
  · rw [if_pos q] at hE
    conv => whnf
    refine b1 (flR_n (I := I) (k := bnd b n 0 (F 0 * F 1 - 1) (tn b n 1 e)) (s := tst b n (tn b n 1 e))) ?_
    conv => whnf
    exact bad _ _ flR_n (hE _ rfl _ (FE_fl sQ.rf))
theorem y_openCell_f (hf : ¬ I 150 13 = 0) (h : kr (some (.int 0)) (mk w p r I L)) : Ev l X uX7_openCell (d + 4) true 0 0 [.ref 150] (mk w p r I L) kr := by
  refine Ev.of (by decide) (Nat.le_of_ble_eq_true rfl) ?_
  refine Wf.gc tkX7_openCell [] ?_
  conv => whnf
  refine y_cellHere_f (d := d + 1) hf ?_
  conv => whnf
  refine b1 hf ?_
  conv => whnf
  refine y_pass_f (d := d) hf ?_
  conv => whnf
  exact h
set_option maxHeartbeats 2000000 in
set_option maxRecDepth 20000 in
theorem y_openCell (hB : Bd F W nm) (hT : 0 < F 0) (hr : RX b n I) (hf : FR F W I) (he : e ≤ n) (hc : TR b n e I) (h0 : I 150 13 = 0) (h1 : bnd b n 0 (F 0 * F 1 - 1) e = 0 → isWl W (tvl b n e) = false → ∀ I', sN I I' → TR b n (tsp b n e) I' → kr (some (.int (nI (tvl b n e)))) (mk w p r I' L)) (h2 : bnd b n 0 (F 0 * F 1 - 1) e ≠ 0 → kr (some (.int 0)) (mk w p r (flR I (bnd b n 0 (F 0 * F 1 - 1) e) (tst b n e)) L)) (h3 : bnd b n 0 (F 0 * F 1 - 1) e = 0 → isWl W (tvl b n e) = true → kr (some (.int (nI (tvl b n e)))) (mk w p r (flR I 7 (tst b n e)) L)) : Ev l X uX7_openCell (d + 4) true 0 0 [.ref 150] (mk w p r I L) kr := by
  refine Ev.of (by decide) (Nat.le_of_ble_eq_true rfl) ?_
  have bad : ∀ (v : Int32) (J : Nat → Nat → Int32), ¬ J 150 13 = 0 → kr (some (.int v)) (mk w p r J L) → Wf l X uX7_openCell (d + 4) true (mC (mk w p r I L) + 0, mS (mk w p r I L) + 0) 36 [(0, .ref 150), (1, .int v)] [] (mk w p r J L) kr := by
    intro v J hJ q
    refine Wf.gc tkX7_openCell [] ?_
    conv => whnf
    refine y_pass_f (d := d) hJ ?_
    conv => whnf
    exact q
  refine Wf.gc tkX7_openCell [36] ?_
  conv => whnf
  refine y_cellHere (d := d + 1) hf hB hT he hc h0 (fun q => ?_) (fun q => ?_)
  · conv => whnf
    refine b2 (fun z => z h0) ?_
    conv => whnf
    refine ⟨10, ⟨rfl, by decide, show 10 < 202 by decide⟩, ?_⟩
    conv => whnf
    show Ev l X uX7_hasBit (d + 3) true 0 0 [.int (I 154 10), .int (nI (tvl b n e))] (mk w p r I L) _
    rw [hf.2.1]
    refine y_hasBit ?_
    cases hw : isWl W (tvl b n e) with
    | true =>
      conv => whnf
      refine b2' (by decide) ?_
      conv => whnf
      refine y_wrong0 h0 ?_
      conv => whnf
      have eJ : u2 (u2 (u2 I 150 13 1) 150 9 7) 150 10 (I 150 4) = flR I 7 (tst b n e) := by unfold flR; rw [← hc.2.1]; rfl
      show Wf l X uX7_openCell (d + 4) true (mC (mk w p r I L) + 0, mS (mk w p r I L) + 0) 36 [(0, .ref 150), (1, .int (nI (tvl b n e)))] [] (mk w p r (u2 (u2 (u2 I 150 13 1) 150 9 7) 150 10 (I 150 4)) L) kr
      rw [eJ]
      exact bad _ _ flR_n (h3 q hw)
    | false =>
      conv => whnf
      refine b1' rfl ?_
      conv => whnf
      show Wf l X uX7_openCell (d + 4) true (mC (mk w p r I L) + 0, mS (mk w p r I L) + 0) 36 [(0, .ref 150), (1, .int (nI (tvl b n e)))] [] (mk w p r I L) kr
      refine Wf.gc tkX7_openCell [] ?_
      conv => whnf
      refine y_pass (d := d) hr he hc h0 (fun I' hs' hc' => ?_)
      conv => whnf
      exact h1 q hw I' hs' hc'
  · conv => whnf
    refine b1 (flR_n (I := I) (k := bnd b n 0 (F 0 * F 1 - 1) e) (s := tst b n e)) ?_
    conv => whnf
    exact bad _ _ flR_n (h2 q)
set_option maxHeartbeats 4000000 in
set_option maxRecDepth 20000 in
theorem y_closeLine (hB : Bd F W nm) (hS : SF b n (F, W, nm, e) I) (hE : ∀ er, (if 0 < F 0 then .inl (3, tst b n e) else lnClose b n F W nm e) = .inl er → ∀ I', FE I er I' → kr none (mk w p r I' L)) (hO : ∀ P', (if 0 < F 0 then .inl (3, tst b n e) else lnClose b n F W nm e) = .inr P' → ∀ I', sQ I I' → SF b n P' I' → kr none (mk w p r I' L)) : Ev l X uX7_closeLine (d + 9) true 0 0 [.ref 150] (mk w p r I L) kr := by
  obtain ⟨hr, he, hc, h0, hf, hn, hs, hu, hk, h9⟩ := hS
  have he : e ≤ n := he
  have hc : TR b n e I := hc
  have hf : FR F W I := hf
  have h9 : F 9 = 0 ↔ F 0 = 0 := h9
  have B9 := hB.2.1 9
  have hsp := tsp_b (b := b) he
  refine Ev.of (by decide) (Nat.le_of_ble_eq_true rfl) ?_
  have t74 : ∀ J : Nat → Nat → Int32, ¬ J 150 13 = 0 → kr none (mk w p r J L) → Wf l X uX7_closeLine (d + 9) true (mC (mk w p r I L) + 0, mS (mk w p r I L) + 0) 74 [(0, .ref 150)] [] (mk w p r J L) kr := by
    intro J hJ q
    refine Wf.gc tkX7_closeLine [] ?_
    conv => whnf
    refine b1 hJ ?_
    conv => whnf
    exact q
  have t59 : ∀ J : Nat → Nat → Int32, ¬ J 150 13 = 0 → (∀ J', sP J J' → kr none (mk w p r J' L)) → Wf l X uX7_closeLine (d + 9) true (mC (mk w p r I L) + 0, mS (mk w p r I L) + 0) 59 [(0, .ref 150)] [] (mk w p r J L) kr := by
    intro J hJ q
    refine Wf.gc tkX7_closeLine [74] ?_
    conv => whnf
    refine y_after_f (d := d) (by decide) hJ ?_
    conv => whnf
    refine ⟨2, ⟨rfl, by decide, show 2 < 202 by decide⟩, ?_⟩
    conv => whnf
    exact t74 (u2 J 154 2 0) (by rw [u2_o (by decide)]; exact hJ) (q _ (sP_4 (by decide)))
  have t45 : ∀ J : Nat → Nat → Int32, ¬ J 150 13 = 0 → (∀ J', sP J J' → kr none (mk w p r J' L)) → Wf l X uX7_closeLine (d + 9) true (mC (mk w p r I L) + 0, mS (mk w p r I L) + 0) 45 [(0, .ref 150)] [] (mk w p r J L) kr := by
    intro J hJ q
    refine Wf.gc tkX7_closeLine [59] ?_
    conv => whnf
    refine y_after_f (d := d) (by decide) hJ ?_
    conv => whnf
    refine ⟨1, ⟨rfl, by decide, show 1 < 202 by decide⟩, ?_⟩
    conv => whnf
    exact t59 (u2 J 154 1 2) (by rw [u2_o (by decide)]; exact hJ) (fun J' hj => q _ ((sP_4 (by decide)).tr hj))
  by_cases hT : 0 < F 0
  · rw [if_pos hT] at hE
    refine Wf.gc tkX7_closeLine [19] ?_
    conv => whnf
    refine ⟨9, ⟨rfl, by decide, show 9 < 202 by decide⟩, ?_⟩
    conv => whnf
    refine b2' (by show ¬ I 154 9 ≤ 0; rw [hf.1 9 (by decide) (by decide), show (0 : Int32) = nI 0 from rfl, nI_leI (by omega) (by decide)]; omega) ?_
    conv => whnf
    refine y_wrong0 h0 ?_
    conv => whnf
    have eJ : u2 (u2 (u2 I 150 13 1) 150 9 3) 150 10 (I 150 4) = flR I 3 (tst b n e) := by unfold flR; rw [← hc.2.1]; rfl
    show Wf l X uX7_closeLine (d + 9) true (mC (mk w p r I L) + 0, mS (mk w p r I L) + 0) 19 [(0, .ref 150)] [] (mk w p r (u2 (u2 (u2 I 150 13 1) 150 9 3) 150 10 (I 150 4)) L) kr
    rw [eJ]
    have fin := hE _ rfl _ (FE_fl (I := I) (I1 := I) (k := 3) (s := tst b n e) sQ.rf)
    refine Wf.gc tkX7_closeLine [] ?_
    conv => whnf
    refine b2' (flR_n (I := I) (k := 3) (s := tst b n e)) ?_
    conv => whnf
    exact fin
  · rw [if_neg hT] at hE hO
    unfold lnClose at hE hO
    refine Wf.gc tkX7_closeLine [19] ?_
    conv => whnf
    refine ⟨9, ⟨rfl, by decide, show 9 < 202 by decide⟩, ?_⟩
    conv => whnf
    refine b1' (by show I 154 9 ≤ 0; rw [hf.1 9 (by decide) (by decide), show (0 : Int32) = nI 0 from rfl, nI_leI (by omega) (by decide)]; omega) ?_
    conv => whnf
    show Wf l X uX7_closeLine (d + 9) true (mC (mk w p r I L) + 0, mS (mk w p r I L) + 0) 19 [(0, .ref 150)] [] (mk w p r I L) kr
    refine Wf.gc tkX7_closeLine [45] ?_
    conv => whnf
    refine b1' h0 ?_
    conv => whnf
    refine y_next (d := d + 6) (e := tsp b n e) hr hsp.2 hc.2.2.1 (fun I1 hs1 hc1 => ?_)
    have hc1 : TR b n (tn b n 1 e) I1 := hc1
    have g1 : I1 150 13 = 0 := (sN13 hs1).trans h0
    conv => whnf
    refine y_after (i := 7) (lo := 2) (hi := 5) (d := d) (by decide) (by decide) (by decide) (RX_sN hr hs1) (tn_b he 1) hc1 g1 (by decide) (fun q I2 hs2 hc2 z1 z2 => ?_) (fun q I2 hs2 => ?_)
    · rw [if_neg (fun z => z q)] at hE hO
      have hs2 : sN I I2 := hs1.tr hs2
      have hc2 : TR b n (tn b n 3 e) I2 := hc2
      have z1 : 2 ≤ tvl b n (tn b n 2 e) := z1
      conv => whnf
      refine ⟨0, ⟨rfl, by decide, show 0 < 202 by decide⟩, ?_⟩
      conv => whnf
      show Wf l X uX7_closeLine (d + 9) true (mC (mk w p r I L) + 0, mS (mk w p r I L) + 0) 45 [(0, .ref 150)] [] (mk w p r (u2 I2 154 0 (nI (tvl b n (tn b n 2 e)))) L) kr
      have sp3 : sP I2 (u2 I2 154 0 (nI (tvl b n (tn b n 2 e)))) := sP_4 (by decide)
      have f3 : FR (uF F 0 (tvl b n (tn b n 2 e))) W (u2 I2 154 0 (nI (tvl b n (tn b n 2 e)))) := FR_s (FR_sN hf hs2) (by decide) (by decide)
      generalize u2 I2 154 0 (nI (tvl b n (tn b n 2 e))) = I3 at sp3 f3 ⊢
      have q3 : sQ I I3 := hs2.sQ.tr sp3.sQ
      have r3 : RX b n I3 := RX_sP (RX_sN hr hs2) sp3
      have n3 : RN b nm I3 := RN_sP (RN_sN hn hs2) sp3
      have c3 : TR b n (tn b n 3 e) I3 := TR_sP hc2 sp3
      have g3 : I3 150 13 = 0 := by rw [sp3 150 13 (by omega) (by decide)]; exact (sN13 hs2).trans h0
      refine Wf.gc tkX7_closeLine [59] ?_
      conv => whnf
      refine y_after (i := 8) (lo := 2) (hi := 4) (d := d) (by decide) (by decide) (by decide) r3 (tn_b he 3) c3 g3 (by decide) (fun q I4 hs4 hc4 _ _ => ?_) (fun q I4 hs4 => ?_)
      · rw [if_neg (fun z => z q)] at hE hO
        have hc4 : TR b n (tn b n 5 e) I4 := hc4
        conv => whnf
        refine ⟨1, ⟨rfl, by decide, show 1 < 202 by decide⟩, ?_⟩
        conv => whnf
        show Wf l X uX7_closeLine (d + 9) true (mC (mk w p r I L) + 0, mS (mk w p r I L) + 0) 59 [(0, .ref 150)] [] (mk w p r (u2 I4 154 1 (nI (tvl b n (tn b n 4 e)))) L) kr
        have sp5 : sP I4 (u2 I4 154 1 (nI (tvl b n (tn b n 4 e)))) := sP_4 (by decide)
        have f5 : FR (uF (uF F 0 (tvl b n (tn b n 2 e))) 1 (tvl b n (tn b n 4 e))) W (u2 I4 154 1 (nI (tvl b n (tn b n 4 e)))) := FR_s (FR_sN f3 hs4) (by decide) (by decide)
        generalize u2 I4 154 1 (nI (tvl b n (tn b n 4 e))) = I5 at sp5 f5 ⊢
        have q5 : sQ I I5 := q3.tr (hs4.sQ.tr sp5.sQ)
        have r5 : RX b n I5 := RX_sP (RX_sN r3 hs4) sp5
        have n5 : RN b nm I5 := RN_sP (RN_sN n3 hs4) sp5
        have c5 : TR b n (tn b n 5 e) I5 := TR_sP hc4 sp5
        have g5 : I5 150 13 = 0 := by rw [sp5 150 13 (by omega) (by decide)]; exact (sN13 hs4).trans g3
        refine Wf.gc tkX7_closeLine [74] ?_
        conv => whnf
        refine y_after (i := 9) (lo := 0) (hi := 100) (d := d) (by decide) (by decide) (by decide) r5 (tn_b he 5) c5 g5 (by decide) (fun q I6 hs6 hc6 _ _ => ?_) (fun q I6 hs6 => ?_)
        · rw [if_neg (fun z => z q)] at hO
          have hc6 : TR b n (tn b n 7 e) I6 := hc6
          conv => whnf
          refine ⟨2, ⟨rfl, by decide, show 2 < 202 by decide⟩, ?_⟩
          conv => whnf
          show Wf l X uX7_closeLine (d + 9) true (mC (mk w p r I L) + 0, mS (mk w p r I L) + 0) 74 [(0, .ref 150)] [] (mk w p r (u2 I6 154 2 (nI (tvl b n (tn b n 6 e)))) L) kr
          have sp7 : sP I6 (u2 I6 154 2 (nI (tvl b n (tn b n 6 e)))) := sP_4 (by decide)
          have f7 : FR (uF (uF (uF F 0 (tvl b n (tn b n 2 e))) 1 (tvl b n (tn b n 4 e))) 2 (tvl b n (tn b n 6 e))) W (u2 I6 154 2 (nI (tvl b n (tn b n 6 e)))) := FR_s (FR_sN f5 hs6) (by decide) (by decide)
          generalize u2 I6 154 2 (nI (tvl b n (tn b n 6 e))) = I7 at sp7 f7 ⊢
          have g7 : I7 150 13 = 0 := by rw [sp7 150 13 (by omega) (by decide)]; exact (sN13 hs6).trans g5
          refine Wf.gc tkX7_closeLine [] ?_
          conv => whnf
          refine b2 (fun z => z g7) ?_
          conv => whnf
          refine ⟨9, ⟨rfl, by decide, show 9 < 202 by decide⟩, ?_⟩
          conv => whnf
          have sp8 : sP I7 (u2 I7 154 9 (nI 1)) := sP_4 (by decide)
          have sp : sP I6 (u2 I7 154 9 (nI 1)) := sp7.tr sp8
          exact hO _ rfl (u2 I7 154 9 (nI 1)) (q5.tr (hs6.sQ.tr sp.sQ)) ⟨RX_sP (RX_sN r5 hs6) sp, tn_b he 7, TR_sP hc6 sp, by rw [sp8 150 13 (by omega) (by decide)]; exact g7, FR_s f7 (by decide) (by decide), RN_sP (RN_sN n5 hs6) sp, hs, hu, KM_c hk (Nat.le_refl _) (Nat.le_refl _) (Nat.le_refl _), show ((1 : Nat) = 0 ↔ tvl b n (tn b n 2 e) = 0) by omega⟩
        · rw [if_pos q] at hE
          conv => whnf
          refine ⟨2, ⟨rfl, by decide, show 2 < 202 by decide⟩, ?_⟩
          conv => whnf
          exact t74 (u2 (flR I6 _ _) 154 2 0) (by rw [u2_o (by decide)]; exact flR_n) (hE _ rfl _ (FE_sP (FE_fl (q5.tr hs6.sQ)) (sP_4 (by decide))))
      · rw [if_pos q] at hE
        conv => whnf
        refine ⟨1, ⟨rfl, by decide, show 1 < 202 by decide⟩, ?_⟩
        conv => whnf
        exact t59 (u2 (flR I4 _ _) 154 1 2) (by rw [u2_o (by decide)]; exact flR_n) (fun J' hj => hE _ rfl _ (FE_sP (FE_fl (q3.tr hs4.sQ)) ((sP_4 (by decide)).tr hj)))
    · rw [if_pos q] at hE
      conv => whnf
      refine ⟨0, ⟨rfl, by decide, show 0 < 202 by decide⟩, ?_⟩
      conv => whnf
      exact t45 (u2 (flR I2 _ _) 154 0 2) (by rw [u2_o (by decide)]; exact flR_n) (fun J' hj => hE _ rfl _ (FE_sP (FE_fl (hs1.tr hs2).sQ) ((sP_4 (by decide)).tr hj)))
end RLN
end
section
/-! the reference's lines: dropped, unsure, walker -/
section RL2
variable {l : Launch} {X : Nat × (Nat → Int32)} {d : Nat} {w : Nat × Nat} {p r : Nat} {I : Nat → Nat → Int32} {L : Nat → Nat → Int64} {kr : KR} {b : Nat → Nat} {n e : Nat} {nm : List Nm} {F : Nat → Nat} {W : Int32}
theorem y_wallLine_f (hf : ¬ I 150 13 = 0) (h : kr none (mk w p r I L)) : Ev l X uX7_wallLine (d + 4) true 0 0 [.ref 150] (mk w p r I L) kr := by
  refine Ev.of (by decide) (Nat.le_of_ble_eq_true rfl) ?_
  refine Wf.gc tkX7_wallLine [] ?_
  conv => whnf
  refine b2' hf ?_
  conv => whnf
  exact h
theorem y_unsureLine_f (hf : ¬ I 150 13 = 0) (h : kr none (mk w p r I L)) : Ev l X uX7_unsureLine (d + 8) true 0 0 [.ref 150] (mk w p r I L) kr := by
  refine Ev.of (by decide) (Nat.le_of_ble_eq_true rfl) ?_
  refine Wf.gc tkX7_unsureLine [] ?_
  conv => whnf
  refine b2' hf ?_
  conv => whnf
  exact h
theorem y_walkerLine_f (hf : ¬ I 150 13 = 0) (h : kr none (mk w p r I L)) : Ev l X uX7_walkerLine (d + 8) true 0 0 [.ref 150] (mk w p r I L) kr := by
  refine Ev.of (by decide) (Nat.le_of_ble_eq_true rfl) ?_
  refine Wf.gc tkX7_walkerLine [] ?_
  conv => whnf
  refine b2' hf ?_
  conv => whnf
  exact h
theorem y_faceLine_f (hf : ¬ I 150 13 = 0) (h : kr none (mk w p r I L)) : Ev l X uX7_faceLine (d + 9) true 0 0 [.ref 150] (mk w p r I L) kr := by
  refine Ev.of (by decide) (Nat.le_of_ble_eq_true rfl) ?_
  refine Wf.gc tkX7_faceLine [] ?_
  conv => whnf
  refine b2' hf ?_
  conv => whnf
  exact h
theorem y_canonLine_f (hf : ¬ I 150 13 = 0) (h : kr none (mk w p r I L)) : Ev l X uX7_canonLine (d + 9) true 0 0 [.ref 150] (mk w p r I L) kr := by
  refine Ev.of (by decide) (Nat.le_of_ble_eq_true rfl) ?_
  refine Wf.gc tkX7_canonLine [] ?_
  conv => whnf
  refine b2' hf ?_
  conv => whnf
  exact h
theorem dr_35 {v : Int32} {bs : Nat × Nat} {J : Nat → Nat → Int32} (hJ : ¬ J 150 13 = 0) (q : kr none (mk w p r J L)) : Wf l X uX7_droppedLine (d + 9) true bs 35 [(0, .ref 150), (1, .int v)] [] (mk w p r J L) kr := by
  refine Wf.gc tkX7_droppedLine [] ?_
  conv => whnf
  refine y_pass_f (d := d + 5) hJ ?_
  conv => whnf
  refine y_after_f (d := d) (by decide) hJ ?_
  conv => whnf
  refine b2' hJ ?_
  conv => whnf
  exact q
theorem y_droppedLine_f (hf : ¬ I 150 13 = 0) (h : kr none (mk w p r I L)) : Ev l X uX7_droppedLine (d + 9) true 0 0 [.ref 150] (mk w p r I L) kr := by
  refine Ev.of (by decide) (Nat.le_of_ble_eq_true rfl) ?_
  refine Wf.gc tkX7_droppedLine [35] ?_
  conv => whnf
  refine y_named_f (d := d + 1) hf ?_
  conv => whnf
  refine b1 hf ?_
  conv => whnf
  exact dr_35 hf h
set_option maxHeartbeats 2000000 in
set_option maxRecDepth 20000 in
theorem y_droppedLine (hB : Bd F W nm) (hS : SF b n (F, W, nm, tn b n 1 e) I) (he : e ≤ n) (hE : ∀ er, lnDropped b n F W nm e = .inl er → ∀ I', FE I er I' → kr none (mk w p r I' L)) (hO : ∀ P', lnDropped b n F W nm e = .inr P' → ∀ I', sQ I I' → SF b n P' I' → kr none (mk w p r I' L)) : Ev l X uX7_droppedLine (d + 9) true 0 0 [.ref 150] (mk w p r I L) kr := by
  obtain ⟨hr, he1, hc, h0, hf, hn, hs, hu, hk, h9⟩ := hS
  have he1 : tn b n 1 e ≤ n := he1
  have hc : TR b n (tn b n 1 e) I := hc
  have hf : FR F W I := hf
  have h9 : F 9 = 0 ↔ F 0 = 0 := h9
  have BF := hB.2.1
  have f6 : (nam b n nm 1 (tn b n 1 e)).2 < 6 := nam_6 (fun i hi => (hB.2.2.2.2.1 i hi).2)
  unfold lnDropped at hE hO
  refine Ev.of (by decide) (Nat.le_of_ble_eq_true rfl) ?_
  refine Wf.gc tkX7_droppedLine [35] ?_
  conv => whnf
  refine y_named (so := 1) (lo := 0) (hi := 5) (d := d + 1) (by omega) hr he1 hc h0 hs hu hn (fun q => ?_) (fun q => ?_)
  · rw [if_neg (fun z => z q)] at hE hO
    generalize (nam b n nm 1 (tn b n 1 e)).2 = f at hE hO f6 ⊢
    have v6 : I 154 (61 + f) = nI (F (61 + f)) := hf.1 _ (by omega) (by omega)
    have b6 := BF (61 + f)
    conv => whnf
    refine b2 (fun z => z h0) ?_
    conv => whnf
    refine ⟨61 + f, ⟨nI_add 61 f, by omega, show 61 + f < 202 by omega⟩, ?_⟩
    conv => whnf
    refine ⟨fun z => ?_, fun z => ?_⟩
    · have z : I 154 (61 + f) ≤ 0 := z
      rw [v6, show (0 : Int32) = nI 0 from rfl, nI_leI (by omega) (by decide)] at z
      rw [if_neg (by omega)] at hE hO
      conv => whnf
      show Wf l X uX7_droppedLine (d + 9) true (mC (mk w p r I L) + 0, mS (mk w p r I L) + 0) 35 [(0, .ref 150), (1, .int (nI f))] [] (mk w p r I L) kr
      refine Wf.gc tkX7_droppedLine [] ?_
      conv => whnf
      refine y_pass (d := d + 5) hr he1 hc h0 (fun I1 hs1 hc1 => ?_)
      have hc1 : TR b n (tn b n 2 e) I1 := hc1
      have g1 : I1 150 13 = 0 := (sN13 hs1).trans h0
      conv => whnf
      refine y_after (i := 20) (lo := 1) (hi := 40) (d := d) (by decide) (by decide) (by decide) (RX_sN hr hs1) (tn_b he 2) hc1 g1 (by decide) (fun q I2 hs2 hc2 z1 z2 => ?_) (fun q I2 hs2 => ?_)
      · rw [if_neg (fun z => z q)] at hO
        have hs2 : sN I I2 := hs1.tr hs2
        have hc2 : TR b n (tn b n 4 e) I2 := hc2
        have g2 : I2 150 13 = 0 := (sN13 hs2).trans h0
        have f2 := FR_sN hf hs2
        conv => whnf
        refine b1' g2 ?_
        conv => whnf
        refine ⟨61 + f, ⟨nI_add 61 f, by omega, show 61 + f < 202 by omega⟩, ?_⟩
        conv => whnf
        refine ⟨8, ⟨rfl, by decide, show 8 < 202 by decide⟩, ?_⟩
        conv => whnf
        refine ⟨8, ⟨rfl, by decide, show 8 < 202 by decide⟩, ?_⟩
        conv => whnf
        show kr none (mk w p r (u2 (u2 I2 154 (61 + f) (nI (tvl b n (tn b n 3 e)))) 154 8 (u2 I2 154 (61 + f) (nI (tvl b n (tn b n 3 e))) 154 8 + 1)) L)
        rw [u2_o (by omega), f2.1 8 (by decide) (by decide), nI_1]
        have sp : sP I2 (u2 (u2 I2 154 (61 + f) (nI (tvl b n (tn b n 3 e)))) 154 8 (nI (F 8 + 1))) := (sP_4 (by omega)).tr (sP_4 (by decide))
        have km : KM (uF (uF F (61 + f) (tvl b n (tn b n 3 e))) 8 (F 8 + 1)) nm := KM_c hk (Nat.le_of_eq (by rw [uF_o (by decide), uF_o (by omega)])) (Nat.le_of_eq (by rw [uF_o (by decide), uF_o (by omega)])) (Nat.le_of_eq (by rw [uF_o (by decide), uF_o (by omega)]))
        have k9 : uF (uF F (61 + f) (tvl b n (tn b n 3 e))) 8 (F 8 + 1) 9 = 0 ↔ uF (uF F (61 + f) (tvl b n (tn b n 3 e))) 8 (F 8 + 1) 0 = 0 := by
          rw [uF_o (by decide), uF_o (by omega), uF_o (by decide), uF_o (by omega)]
          exact h9
        exact hO _ rfl _ (hs2.sQ.tr sp.sQ) ⟨RX_sP (RX_sN hr hs2) sp, tn_b he 4, TR_sP hc2 sp, by rw [sp 150 13 (by omega) (by decide)]; exact g2, FR_s (FR_s f2 (by omega) (by omega)) (by decide) (by decide), RN_sP (RN_sN hn hs2) sp, hs, hu, km, k9⟩
      · rw [if_pos q] at hE
        have fe := hE _ rfl _ (FE_fl (I := I) (I1 := I2) (k := (lab b n 20 1 40 (tn b n 2 e)).1) (s := (lab b n 20 1 40 (tn b n 2 e)).2) (hs1.tr hs2).sQ)
        conv => whnf
        refine b2' (flR_n (I := I2) (k := (lab b n 20 1 40 (tn b n 2 e)).1) (s := (lab b n 20 1 40 (tn b n 2 e)).2)) ?_
        conv => whnf
        exact fe
    · have z : ¬ I 154 (61 + f) ≤ 0 := z
      rw [v6, show (0 : Int32) = nI 0 from rfl, nI_leI (by omega) (by decide)] at z
      rw [if_pos (by omega)] at hE
      conv => whnf
      refine y_wrong0 h0 ?_
      conv => whnf
      have eJ : u2 (u2 (u2 I 150 13 1) 150 9 3) 150 10 (I 150 4) = flR I 3 (tst b n (tn b n 1 e)) := by unfold flR; rw [← hc.2.1]; rfl
      show Wf l X uX7_droppedLine (d + 9) true (mC (mk w p r I L) + 0, mS (mk w p r I L) + 0) 35 [(0, .ref 150), (1, .int (nI f))] [] (mk w p r (u2 (u2 (u2 I 150 13 1) 150 9 3) 150 10 (I 150 4)) L) kr
      rw [eJ]
      exact dr_35 flR_n (hE _ rfl _ (FE_fl sQ.rf))
  · rw [if_pos q] at hE
    conv => whnf
    refine b1 (flR_n (I := I) (k := (nam b n nm 1 (tn b n 1 e)).1) (s := tst b n (tn b n 1 e))) ?_
    conv => whnf
    exact dr_35 flR_n (hE _ rfl _ (FE_fl sQ.rf))
theorem wk_41 {v u : Int32} {bs : Nat × Nat} {J : Nat → Nat → Int32} (hJ : ¬ J 150 13 = 0) (q : kr none (mk w p r J L)) : Wf l X uX7_walkerLine (d + 8) true bs 46 [(0, .ref 150), (1, .int v), (2, .int u)] [] (mk w p r J L) kr := by
  refine Wf.gc tkX7_walkerLine [] ?_
  conv => whnf
  refine y_must_f (d := d) hJ ?_
  conv => whnf
  refine y_openCell_f (d := d + 3) hJ ?_
  conv => whnf
  refine b2' hJ ?_
  conv => whnf
  exact q
theorem wk_35 {v : Int32} {bs : Nat × Nat} {J : Nat → Nat → Int32} (hJ : ¬ J 150 13 = 0) (q : kr none (mk w p r J L)) : Wf l X uX7_walkerLine (d + 8) true bs 35 [(0, .ref 150), (1, .int v)] [] (mk w p r J L) kr := by
  refine Wf.gc tkX7_walkerLine [46] ?_
  conv => whnf
  refine y_must_f (d := d) hJ ?_
  conv => whnf
  refine y_openCell_f (d := d + 3) hJ ?_
  conv => whnf
  exact wk_41 hJ q
theorem sl_fr (hs : SI nm) (hk : KM F nm) (h4 : F 4 < 6) : ∀ i, i < nm.length → sl (nmD nm i) ≠ F 4 := fun i hi => by
  obtain ⟨k1, k2, k3⟩ := hk i hi
  unfold sl
  rcases hs i hi with ⟨h1, h2⟩ | ⟨h1, h2⟩ | ⟨h1, h2⟩
  · rw [if_pos h1]; have := k1 h1; omega
  · rw [if_neg (by omega), if_pos h1]; omega
  · rw [if_neg (by omega), if_neg (by omega)]; omega
theorem sl_fr5 (hs : SI nm) (hk : KM F nm) (h5 : F 5 < 5) : ∀ i, i < nm.length → sl (nmD nm i) ≠ 6 + F 5 := fun i hi => by
  obtain ⟨k1, k2, k3⟩ := hk i hi
  unfold sl
  rcases hs i hi with ⟨h1, h2⟩ | ⟨h1, h2⟩ | ⟨h1, h2⟩
  · rw [if_pos h1]; omega
  · rw [if_neg (by omega), if_pos h1]; have := k2 h1; omega
  · rw [if_neg (by omega), if_neg (by omega)]; omega
theorem sl_fr6 (hs : SI nm) (hk : KM F nm) : ∀ i, i < nm.length → sl (nmD nm i) ≠ 11 + F 6 := fun i hi => by
  obtain ⟨k1, k2, k3⟩ := hk i hi
  unfold sl
  rcases hs i hi with ⟨h1, h2⟩ | ⟨h1, h2⟩ | ⟨h1, h2⟩
  · rw [if_pos h1]; omega
  · rw [if_neg (by omega), if_pos h1]; omega
  · rw [if_neg (by omega), if_neg (by omega)]; have := k3 h1; omega
end RL2
end
section
/-! the reference's lines: walker, unsure -/
section RL3
variable {l : Launch} {X : Nat × (Nat → Int32)} {d : Nat} {w : Nat × Nat} {p r : Nat} {I : Nat → Nat → Int32} {L : Nat → Nat → Int64} {kr : KR} {b : Nat → Nat} {n e : Nat} {nm : List Nm} {F : Nat → Nat} {W : Int32}
set_option maxHeartbeats 4000000 in
set_option maxRecDepth 20000 in
theorem y_walkerLine (hB : Bd F W nm) (hT : 0 < F 0) (h4 : ¬ 4 ≤ F 6) (hS : SF b n (F, W, nm, tn b n 1 e) I) (he : e ≤ n) (hE : ∀ er, lnWalker b n F W nm e = .inl er → ∀ I', FE I er I' → kr none (mk w p r I' L)) (hO : ∀ P', lnWalker b n F W nm e = .inr P' → ∀ I', sQ I I' → SF b n P' I' → kr none (mk w p r I' L)) : Ev l X uX7_walkerLine (d + 8) true 0 0 [.ref 150] (mk w p r I L) kr := by
  obtain ⟨hr, he1, hc, h0, hf, hn, hs, hu, hk, h9⟩ := hS
  have he1 : tn b n 1 e ≤ n := he1
  have hc : TR b n (tn b n 1 e) I := hc
  have hf : FR F W I := hf
  have hk : KM F nm := hk
  have h9 : F 9 = 0 ↔ F 0 = 0 := h9
  unfold lnWalker at hE hO
  rw [if_neg h4] at hE hO
  have v6 : I 154 6 = nI (F 6) := hf.1 6 (by decide) (by decide)
  have i1 : (45 + 2 * nI (F 6) : Int32) = nI (45 + 2 * F 6) := by rw [show (2 : Int32) = nI 2 from rfl, nI_mul, show (45 : Int32) = nI 45 from rfl, nI_add]
  refine Ev.of (by decide) (Nat.le_of_ble_eq_true rfl) ?_
  refine Wf.gc tkX7_walkerLine [35] ?_
  conv => whnf
  refine b1' h0 ?_
  conv => whnf
  refine ⟨6, ⟨rfl, by decide, show 6 < 202 by decide⟩, ?_⟩
  conv => whnf
  refine ⟨6, ⟨rfl, by decide, show 6 < 202 by decide⟩, ?_⟩
  conv => whnf
  show Ev l X uX7_newName (d + 7) true 0 0 [.ref 150, .int (11 + I 154 6)] (mk w p r I L) _
  rw [v6, show (11 + nI (F 6) : Int32) = nI (11 + F 6) from nI_add 11 (F 6)]
  have fr6 := sl_fr6 hs hk
  refine y_newName (so := 3) (k := F 6) (d := d) (by omega) rfl fr6 hr he1 hc h0 hs hu hn (fun q I1 hs1 hc1 hn1 => ?_) (fun q => ?_)
  · rw [if_neg (fun z => z q)] at hE hO
    have hc1 : TR b n (tn b n 2 e) I1 := hc1
    have g1 : I1 150 13 = 0 := (hs1 150 13 (by omega) (by decide) (by omega)).trans h0
    have r1 := RX_sM hr hs1
    have f1 := FR_sM hf hs1
    conv => whnf
    show Wf l X uX7_walkerLine (d + 8) true (mC (mk w p r I L) + 0, mS (mk w p r I L) + 0) 35 [(0, .ref 150), (1, .int (45 + 2 * I 154 6))] [] (mk w p r I1 L) kr
    rw [v6, i1]
    refine Wf.gc tkX7_walkerLine [46] ?_
    conv => whnf
    refine y_must (i := 18) (d := d) (by decide) r1 (tn_b he 2) hc1 g1 (by decide) (fun q2 I2 hs2 hc2 => ?_) (fun q2 => ?_)
    · have hc2 : TR b n (tn b n 3 e) I2 := hc2
      have e1 : lab b n 18 0 (F 0 * F 1 - 1) (tn b n 2 e) = (bnd b n 0 (F 0 * F 1 - 1) (tn b n 3 e), tst b n (tn b n 3 e)) := by unfold lab; rw [if_pos q2]; rfl
      rw [e1] at hE hO
      conv => whnf
      refine y_openCell (d := d + 3) hB hT (RX_sN r1 hs2) (FR_sN f1 hs2) (tn_b he 3) hc2 ((sN13 hs2).trans g1) (fun q3 q4 I3 hs3 hc3 => ?_) (fun q3 => ?_) (fun q3 q4 => ?_)
      · rw [if_neg (fun z => z q3), if_neg (by rw [q4]; decide)] at hE hO
        have hs3 : sN I1 I3 := hs2.tr hs3
        have hc3 : TR b n (tn b n 4 e) I3 := hc3
        have g3 : I3 150 13 = 0 := (sN13 hs3).trans g1
        conv => whnf
        show Wf l X uX7_walkerLine (d + 8) true (mC (mk w p r I L) + 0, mS (mk w p r I L) + 0) 46 [(0, .ref 150), (1, .int (nI (45 + 2 * F 6))), (2, .int (nI (tvl b n (tn b n 3 e))))] [] (mk w p r I3 L) kr
        refine Wf.gc tkX7_walkerLine [] ?_
        conv => whnf
        refine y_must (i := 19) (d := d) (by decide) (RX_sN r1 hs3) (tn_b he 4) hc3 g3 (by decide) (fun q5 I4 hs4 hc4 => ?_) (fun q5 => ?_)
        · have hs4 : sN I1 I4 := hs3.tr hs4
          have hc4 : TR b n (tn b n 5 e) I4 := hc4
          have e2 : lab b n 19 0 (F 0 * F 1 - 1) (tn b n 4 e) = (bnd b n 0 (F 0 * F 1 - 1) (tn b n 5 e), tst b n (tn b n 5 e)) := by unfold lab; rw [if_pos q5]; rfl
          rw [e2] at hE hO
          conv => whnf
          refine y_openCell (d := d + 3) hB hT (RX_sN r1 hs4) (FR_sN f1 hs4) (tn_b he 5) hc4 ((sN13 hs4).trans g1) (fun q6 q7 I5 hs5 hc5 => ?_) (fun q6 => ?_) (fun q6 q7 => ?_)
          · rw [if_neg (fun z => z q6), if_neg (by rw [q7]; decide)] at hO
            have hs5 : sN I1 I5 := hs4.tr hs5
            have hc5 : TR b n (tn b n 6 e) I5 := hc5
            have g5 : I5 150 13 = 0 := (sN13 hs5).trans g1
            have f5 := FR_sN f1 hs5
            conv => whnf
            refine b1' g5 ?_
            conv => whnf
            refine ⟨45 + 2 * F 6, ⟨rfl, by omega, show 45 + 2 * F 6 < 202 by omega⟩, ?_⟩
            conv => whnf
            refine ⟨46 + 2 * F 6, ⟨by show (nI (45 + 2 * F 6) + 1 : Int32) = nI (46 + 2 * F 6); rw [nI_1, show 45 + 2 * F 6 + 1 = 46 + 2 * F 6 by omega], by omega, show 46 + 2 * F 6 < 202 by omega⟩, ?_⟩
            conv => whnf
            refine ⟨6, ⟨rfl, by decide, show 6 < 202 by decide⟩, ?_⟩
            conv => whnf
            refine ⟨6, ⟨rfl, by decide, show 6 < 202 by decide⟩, ?_⟩
            conv => whnf
            show kr none (mk w p r (u2 (u2 (u2 I5 154 (45 + 2 * F 6) (nI (tvl b n (tn b n 3 e)))) 154 (46 + 2 * F 6) (nI (tvl b n (tn b n 5 e)))) 154 6 (u2 (u2 I5 154 (45 + 2 * F 6) (nI (tvl b n (tn b n 3 e)))) 154 (46 + 2 * F 6) (nI (tvl b n (tn b n 5 e))) 154 6 + 1)) L)
            rw [u2_o (by omega), u2_o (by omega), f5.1 6 (by decide) (by decide), nI_1]
            have sp : sP I5 (u2 (u2 (u2 I5 154 (45 + 2 * F 6) (nI (tvl b n (tn b n 3 e)))) 154 (46 + 2 * F 6) (nI (tvl b n (tn b n 5 e)))) 154 6 (nI (F 6 + 1))) := ((sP_4 (by omega)).tr (sP_4 (by omega))).tr (sP_4 (by decide))
            have km : KM (uF (uF (uF F (45 + 2 * F 6) (tvl b n (tn b n 3 e))) (46 + 2 * F 6) (tvl b n (tn b n 5 e))) 6 (F 6 + 1)) (nm ++ [nw b n (tn b n 1 e) 3 (F 6)]) := KM_a (KM_c hk (Nat.le_of_eq (by rw [uF_o (by decide), uF_o (by omega), uF_o (by omega)])) (Nat.le_of_eq (by rw [uF_o (by decide), uF_o (by omega), uF_o (by omega)])) (by rw [uF_s]; omega)) ⟨fun z => absurd (show (3 : Nat) = 1 from z) (by decide), fun z => absurd (show (3 : Nat) = 2 from z) (by decide), fun _ => by rw [uF_s]; exact Nat.lt_succ_self _⟩
            have k9 : uF (uF (uF F (45 + 2 * F 6) (tvl b n (tn b n 3 e))) (46 + 2 * F 6) (tvl b n (tn b n 5 e))) 6 (F 6 + 1) 9 = 0 ↔ uF (uF (uF F (45 + 2 * F 6) (tvl b n (tn b n 3 e))) (46 + 2 * F 6) (tvl b n (tn b n 5 e))) 6 (F 6 + 1) 0 = 0 := by
              rw [uF_o (by decide), uF_o (by omega), uF_o (by omega), uF_o (by decide), uF_o (by omega), uF_o (by omega)]
              exact h9
            exact hO _ rfl _ (hs1.sQ.tr (hs5.sQ.tr sp.sQ)) ⟨RX_sP (RX_sN r1 hs5) sp, tn_b he 6, TR_sP hc5 sp, by rw [sp 150 13 (by omega) (by decide)]; exact g5, FR_s (FR_s (FR_s f5 (by omega) (by omega)) (by omega) (by omega)) (by decide) (by decide), RN_sP (RN_sN hn1 hs5) sp, SI_a hs (Or.inr (Or.inr ⟨rfl, show F 6 < 4 by omega⟩)), UN_a hu q fr6, km, k9⟩
          · rw [if_pos q6] at hE
            have fe := hE _ rfl _ (FE_fl (I := I) (I1 := I4) (k := bnd b n 0 (F 0 * F 1 - 1) (tn b n 5 e)) (s := tst b n (tn b n 5 e)) (hs1.sQ.tr hs4.sQ))
            conv => whnf
            refine b2' (flR_n (I := I4) (k := bnd b n 0 (F 0 * F 1 - 1) (tn b n 5 e)) (s := tst b n (tn b n 5 e))) ?_
            conv => whnf
            exact fe
          · rw [if_neg (fun z => z q6), if_pos q7] at hE
            have fe := hE _ rfl _ (FE_fl (I := I) (I1 := I4) (k := 7) (s := tst b n (tn b n 5 e)) (hs1.sQ.tr hs4.sQ))
            conv => whnf
            refine b2' (flR_n (I := I4) (k := 7) (s := tst b n (tn b n 5 e))) ?_
            conv => whnf
            exact fe
        · have e2 : lab b n 19 0 (F 0 * F 1 - 1) (tn b n 4 e) = (1, tst b n (tn b n 4 e)) := by unfold lab; rw [if_neg (by rw [q5]; decide)]
          rw [e2, if_pos (show (1 : Nat) ≠ 0 by decide)] at hE
          have fe := hE _ rfl _ (FE_fl (I := I) (I1 := I3) (k := 1) (s := tst b n (tn b n 4 e)) (hs1.sQ.tr hs3.sQ))
          conv => whnf
          refine y_openCell_f (d := d + 3) flR_n ?_
          conv => whnf
          refine b2' (flR_n (I := I3) (k := 1) (s := tst b n (tn b n 4 e))) ?_
          conv => whnf
          exact fe
      · rw [if_pos q3] at hE
        have fe := hE _ rfl _ (FE_fl (I := I) (I1 := I2) (k := bnd b n 0 (F 0 * F 1 - 1) (tn b n 3 e)) (s := tst b n (tn b n 3 e)) (hs1.sQ.tr hs2.sQ))
        conv => whnf
        exact wk_41 flR_n fe
      · rw [if_neg (fun z => z q3), if_pos q4] at hE
        have fe := hE _ rfl _ (FE_fl (I := I) (I1 := I2) (k := 7) (s := tst b n (tn b n 3 e)) (hs1.sQ.tr hs2.sQ))
        conv => whnf
        exact wk_41 flR_n fe
    · have e1 : lab b n 18 0 (F 0 * F 1 - 1) (tn b n 2 e) = (1, tst b n (tn b n 2 e)) := by unfold lab; rw [if_neg (by rw [q2]; decide)]
      rw [e1, if_pos (show (1 : Nat) ≠ 0 by decide)] at hE
      have fe := hE _ rfl _ (FE_fl (I := I) (I1 := I1) (k := 1) (s := tst b n (tn b n 2 e)) hs1.sQ)
      conv => whnf
      refine y_openCell_f (d := d + 3) flR_n ?_
      conv => whnf
      exact wk_41 flR_n fe
  · rw [if_pos q] at hE
    conv => whnf
    exact wk_35 flR_n (hE _ rfl _ (FE_fl sQ.rf))
theorem us_80 {v u t : Int32} {bs : Nat × Nat} {J : Nat → Nat → Int32} (hJ : ¬ J 150 13 = 0) (q : kr none (mk w p r J L)) : Wf l X uX7_unsureLine (d + 8) true bs 80 [(0, .ref 150), (1, .int v), (2, .int u), (3, .int t)] [] (mk w p r J L) kr := by
  refine Wf.gc tkX7_unsureLine [] ?_
  conv => whnf
  refine y_pass_f (d := d + 4) hJ ?_
  conv => whnf
  refine y_number_f (d := d + 3) hJ ?_
  conv => whnf
  refine b2' hJ ?_
  conv => whnf
  exact q
theorem us_32 {v u : Int32} {m : Nat} {bs : Nat × Nat} {J : Nat → Nat → Int32} (hm : m ≤ 4) (h7 : J 154 7 = nI m) (hJ : ¬ J 150 13 = 0) (q : kr none (mk w p r J L)) : ∀ j, j ≤ m → Wf l X uX7_unsureLine (d + 8) true bs 32 [(0, .ref 150), (1, .int v), (2, .int u), (3, .int (nI j))] [] (mk w p r J L) kr := by
  refine down (fun j => Wf l X uX7_unsureLine (d + 8) true bs 32 [(0, .ref 150), (1, .int v), (2, .int u), (3, .int (nI j))] [] (mk w p r J L) kr) m ?_ ?_
  · refine Wf.gc tkX7_unsureLine [80] ?_
    conv => whnf
    refine ⟨7, ⟨rfl, by decide, show 7 < 202 by decide⟩, ?_⟩
    conv => whnf
    refine b1' (by show J 154 7 ≤ nI m; rw [h7]; exact Int32.le_refl _) ?_
    conv => whnf
    exact us_80 hJ q
  · intro j hj ih
    rw [← nI_1] at ih
    refine Wf.gc tkX7_unsureLine [32] ?_
    conv => whnf
    refine ⟨7, ⟨rfl, by decide, show 7 < 202 by decide⟩, ?_⟩
    conv => whnf
    refine b2' (by show ¬ J 154 7 ≤ nI j; rw [h7]; exact nI_ge hj (by omega)) ?_
    conv => whnf
    refine b1 hJ ?_
    conv => whnf
    exact ih
set_option maxHeartbeats 4000000 in
set_option maxRecDepth 20000 in
theorem y_unsureLine (hB : Bd F W nm) (h4 : ¬ 4 ≤ F 7) (hS : SF b n (F, W, nm, tn b n 1 e) I) (he : e ≤ n) (hE : ∀ er, lnUnsure b n F W nm e = .inl er → ∀ I', FE I er I' → kr none (mk w p r I' L)) (hO : ∀ P', lnUnsure b n F W nm e = .inr P' → ∀ I', sQ I I' → SF b n P' I' → kr none (mk w p r I' L)) : Ev l X uX7_unsureLine (d + 8) true 0 0 [.ref 150] (mk w p r I L) kr := by
  obtain ⟨hr, he1, hc, h0, hf, hn, hs, hu, hk, h9⟩ := hS
  have he1 : tn b n 1 e ≤ n := he1
  have hc : TR b n (tn b n 1 e) I := hc
  have hf : FR F W I := hf
  have hk : KM F nm := hk
  have h9 : F 9 = 0 ↔ F 0 = 0 := h9
  have BF := hB.2.1
  have f6 : (nam b n nm 2 (tn b n 1 e)).2 < 6 := nam_6 (fun i hi => (hB.2.2.2.2.1 i hi).2)
  unfold lnUnsure at hE hO
  rw [if_neg h4] at hE hO
  have v7 : I 154 7 = nI (F 7) := hf.1 7 (by decide) (by decide)
  have i1 : (53 + 2 * nI (F 7) : Int32) = nI (53 + 2 * F 7) := by rw [show (2 : Int32) = nI 2 from rfl, nI_mul, show (53 : Int32) = nI 53 from rfl, nI_add]
  refine Ev.of (by decide) (Nat.le_of_ble_eq_true rfl) ?_
  refine Wf.gc tkX7_unsureLine [32] ?_
  conv => whnf
  refine b1' h0 ?_
  conv => whnf
  refine ⟨7, ⟨rfl, by decide, show 7 < 202 by decide⟩, ?_⟩
  conv => whnf
  refine y_named (so := 2) (lo := 6) (hi := 10) (d := d) (by omega) hr he1 hc h0 hs hu hn (fun q => ?_) (fun q => ?_)
  · rw [if_neg (fun z => z q)] at hE hO
    generalize (nam b n nm 2 (tn b n 1 e)).2 = c at hE hO f6 ⊢
    conv => whnf
    show Wf l X uX7_unsureLine (d + 8) true (mC (mk w p r I L) + 0, mS (mk w p r I L) + 0) 32 [(0, .ref 150), (1, .int (53 + 2 * I 154 7)), (2, .int (nI c)), (3, .int (nI 0))] [] (mk w p r I L) kr
    rw [v7, i1]
    have loop := srch (e := F 7) (P := fun u => Nat.beq (F (53 + 2 * u)) c) (Wi := fun j => Wf l X uX7_unsureLine (d + 8) true (mC (mk w p r I L) + 0, mS (mk w p r I L) + 0) 32 [(0, .ref 150), (1, .int (nI (53 + 2 * F 7))), (2, .int (nI c)), (3, .int (nI j))] [] (mk w p r I L) kr) (K := fun o => o = usd F c) ?_ ?_ 0 (Nat.zero_le _)
    · exact loop rfl
    · intro ho
      rw [if_neg (by rw [← ho]; decide)] at hE hO
      refine Wf.gc tkX7_unsureLine [80] ?_
      conv => whnf
      refine ⟨7, ⟨rfl, by decide, show 7 < 202 by decide⟩, ?_⟩
      conv => whnf
      refine b1' (by show I 154 7 ≤ nI (F 7); rw [v7]; exact Int32.le_refl _) ?_
      conv => whnf
      show Wf l X uX7_unsureLine (d + 8) true (mC (mk w p r I L) + 0, mS (mk w p r I L) + 0) 80 [(0, .ref 150), (1, .int (nI (53 + 2 * F 7))), (2, .int (nI c)), (3, .int (nI (F 7)))] [] (mk w p r I L) kr
      refine Wf.gc tkX7_unsureLine [] ?_
      conv => whnf
      refine y_pass (d := d + 4) hr he1 hc h0 (fun I1 hs1 hc1 => ?_)
      have hc1 : TR b n (tn b n 2 e) I1 := hc1
      have g1 : I1 150 13 = 0 := (sN13 hs1).trans h0
      conv => whnf
      refine y_number (lo := 1) (hi := 30) (d := d + 3) (by decide) (by decide) (RX_sN hr hs1) (tn_b he 2) hc1 g1 (fun q2 I2 hs2 hc2 => ?_) (fun q2 => ?_)
      · rw [if_neg (fun z => z q2)] at hO
        have hs2 : sN I I2 := hs1.tr hs2
        have hc2 : TR b n (tn b n 3 e) I2 := hc2
        have g2 : I2 150 13 = 0 := (sN13 hs2).trans h0
        have f2 := FR_sN hf hs2
        conv => whnf
        refine b1' g2 ?_
        conv => whnf
        refine ⟨53 + 2 * F 7, ⟨rfl, by omega, show 53 + 2 * F 7 < 202 by omega⟩, ?_⟩
        conv => whnf
        refine ⟨54 + 2 * F 7, ⟨by show (nI (53 + 2 * F 7) + 1 : Int32) = nI (54 + 2 * F 7); rw [nI_1, show 53 + 2 * F 7 + 1 = 54 + 2 * F 7 by omega], by omega, show 54 + 2 * F 7 < 202 by omega⟩, ?_⟩
        conv => whnf
        refine ⟨7, ⟨rfl, by decide, show 7 < 202 by decide⟩, ?_⟩
        conv => whnf
        refine ⟨7, ⟨rfl, by decide, show 7 < 202 by decide⟩, ?_⟩
        conv => whnf
        show kr none (mk w p r (u2 (u2 (u2 I2 154 (53 + 2 * F 7) (nI c)) 154 (54 + 2 * F 7) (nI (tvl b n (tn b n 2 e)))) 154 7 (u2 (u2 I2 154 (53 + 2 * F 7) (nI c)) 154 (54 + 2 * F 7) (nI (tvl b n (tn b n 2 e))) 154 7 + 1)) L)
        rw [u2_o (by omega), u2_o (by omega), f2.1 7 (by decide) (by decide), nI_1]
        have sp : sP I2 (u2 (u2 (u2 I2 154 (53 + 2 * F 7) (nI c)) 154 (54 + 2 * F 7) (nI (tvl b n (tn b n 2 e)))) 154 7 (nI (F 7 + 1))) := ((sP_4 (by omega)).tr (sP_4 (by omega))).tr (sP_4 (by decide))
        have km : KM (uF (uF (uF F (53 + 2 * F 7) c) (54 + 2 * F 7) (tvl b n (tn b n 2 e))) 7 (F 7 + 1)) nm := KM_c hk (Nat.le_of_eq (by rw [uF_o (by decide), uF_o (by omega), uF_o (by omega)])) (Nat.le_of_eq (by rw [uF_o (by decide), uF_o (by omega), uF_o (by omega)])) (Nat.le_of_eq (by rw [uF_o (by decide), uF_o (by omega), uF_o (by omega)]))
        have k9 : uF (uF (uF F (53 + 2 * F 7) c) (54 + 2 * F 7) (tvl b n (tn b n 2 e))) 7 (F 7 + 1) 9 = 0 ↔ uF (uF (uF F (53 + 2 * F 7) c) (54 + 2 * F 7) (tvl b n (tn b n 2 e))) 7 (F 7 + 1) 0 = 0 := by
          rw [uF_o (by decide), uF_o (by omega), uF_o (by omega), uF_o (by decide), uF_o (by omega), uF_o (by omega)]
          exact h9
        exact hO _ rfl _ (hs2.sQ.tr sp.sQ) ⟨RX_sP (RX_sN hr hs2) sp, tn_b he 3, TR_sP hc2 sp, by rw [sp 150 13 (by omega) (by decide)]; exact g2, FR_s (FR_s (FR_s f2 (by omega) (by omega)) (by omega) (by omega)) (by decide) (by decide), RN_sP (RN_sN hn hs2) sp, hs, hu, km, k9⟩
      · rw [if_pos q2] at hE
        have fe := hE _ rfl _ (FE_fl (I := I) (I1 := I1) (k := bnd b n 1 30 (tn b n 2 e)) (s := tst b n (tn b n 2 e)) hs1.sQ)
        conv => whnf
        refine b2' (flR_n (I := I1) (k := bnd b n 1 30 (tn b n 2 e)) (s := tst b n (tn b n 2 e))) ?_
        conv => whnf
        exact fe
    · intro j hj
      have vj : I 154 (53 + 2 * j) = nI (F (53 + 2 * j)) := hf.1 _ (by omega) (by omega)
      have bj := BF (53 + 2 * j)
      have stp : (F (53 + 2 * j) = c → Wf l X uX7_unsureLine (d + 8) true (mC (mk w p r I L) + 0, mS (mk w p r I L) + 0) 32 [(0, .ref 150), (1, .int (nI (53 + 2 * F 7))), (2, .int (nI c)), (3, .int (nI (j + 1)))] [] (mk w p r (flR I 3 (tst b n (tn b n 1 e))) L) kr) → (¬ F (53 + 2 * j) = c → Wf l X uX7_unsureLine (d + 8) true (mC (mk w p r I L) + 0, mS (mk w p r I L) + 0) 32 [(0, .ref 150), (1, .int (nI (53 + 2 * F 7))), (2, .int (nI c)), (3, .int (nI (j + 1)))] [] (mk w p r I L) kr) → Wf l X uX7_unsureLine (d + 8) true (mC (mk w p r I L) + 0, mS (mk w p r I L) + 0) 32 [(0, .ref 150), (1, .int (nI (53 + 2 * F 7))), (2, .int (nI c)), (3, .int (nI j))] [] (mk w p r I L) kr := by
        intro g1 g2
        rw [← nI_1] at g1 g2
        refine Wf.gc tkX7_unsureLine [32] ?_
        conv => whnf
        refine ⟨7, ⟨rfl, by decide, show 7 < 202 by decide⟩, ?_⟩
        conv => whnf
        refine b2' (by show ¬ I 154 7 ≤ nI j; rw [v7]; exact nI_ge hj (by omega)) ?_
        conv => whnf
        refine b2 (fun z => z h0) ?_
        conv => whnf
        refine ⟨53 + 2 * j, ⟨by show (53 + 2 * nI j : Int32) = nI (53 + 2 * j); rw [show (2 : Int32) = nI 2 from rfl, nI_mul, show (53 : Int32) = nI 53 from rfl, nI_add], by omega, show 53 + 2 * j < 202 by omega⟩, ?_⟩
        conv => whnf
        refine ⟨fun z => ?_, fun z => ?_⟩
        · have z : ¬ I 154 (53 + 2 * j) = nI c := z
          rw [vj, nI_eq (by omega) (by omega)] at z
          conv => whnf
          exact g2 z
        · have z : I 154 (53 + 2 * j) = nI c := z
          rw [vj, nI_eq (by omega) (by omega)] at z
          conv => whnf
          refine y_wrong0 h0 ?_
          conv => whnf
          have eJ : u2 (u2 (u2 I 150 13 1) 150 9 3) 150 10 (I 150 4) = flR I 3 (tst b n (tn b n 1 e)) := by unfold flR; rw [← hc.2.1]; rfl
          have g1 := g1 z
          rw [← eJ] at g1
          exact g1
      refine ⟨fun hP ho => stp (fun z => ?_) (fun z => ?_), fun hP ih => stp (fun z => ?_) (fun _ => ih)⟩
      · rw [if_pos (by rw [← ho]; rfl)] at hE
        exact us_32 (m := F 7) (by omega) (by unfold flR; rw [u2_o (by decide), u2_o (by decide), u2_o (by decide)]; exact v7) flR_n (hE _ rfl _ (FE_fl sQ.rf)) (j + 1) (by omega)
      · exact absurd (Nat.eq_of_beq_eq_true hP) z
      · have hP : Nat.beq (F (53 + 2 * j)) c = false := hP
        rw [z, Nat.beq_refl] at hP
        cases hP
  · rw [if_pos q] at hE
    conv => whnf
    show Wf l X uX7_unsureLine (d + 8) true (mC (mk w p r I L) + 0, mS (mk w p r I L) + 0) 32 [(0, .ref 150), (1, .int (53 + 2 * I 154 7)), (2, .int 0), (3, .int (nI 0))] [] (mk w p r (flR I (nam b n nm 2 (tn b n 1 e)).1 (tst b n (tn b n 1 e))) L) kr
    exact us_32 (m := F 7) (by omega) (by unfold flR; rw [u2_o (by decide), u2_o (by decide), u2_o (by decide)]; exact v7) flR_n (hE _ rfl _ (FE_fl sQ.rf)) 0 (Nat.zero_le _)
end RL3
end
section
/-! the reference's canon line -/
section RL4
variable {l : Launch} {X : Nat × (Nat → Int32)} {d : Nat} {w : Nat × Nat} {p r : Nat} {I : Nat → Nat → Int32} {L : Nat → Nat → Int64} {kr : KR} {b : Nat → Nat} {n e : Nat} {nm : List Nm} {F : Nat → Nat} {W : Int32}
set_option maxRecDepth 20000 in
theorem cn_72 {v u t : Int32} {bs : Nat × Nat} {J : Nat → Nat → Int32} (hJ : ¬ J 150 13 = 0) (q : kr none (mk w p r J L)) : Wf l X uX7_canonLine (d + 9) true bs 72 [(0, .ref 150), (1, .int v), (2, .int u), (3, .int t)] [] (mk w p r J L) kr := by
  refine Wf.gc tkX7_canonLine [] ?_
  conv => whnf
  refine y_pass_f (d := d + 5) hJ ?_
  conv => whnf
  refine y_after_f (d := d) (by decide) hJ ?_
  conv => whnf
  refine y_after_f (d := d) (by decide) hJ ?_
  conv => whnf
  refine b2' hJ ?_
  conv => whnf
  exact q
set_option maxRecDepth 20000 in
theorem cn_32 {u : Int32} {m : Nat} {bs : Nat × Nat} {J : Nat → Nat → Int32} (hm : m ≤ 5) (hJ : ¬ J 150 13 = 0) (q : kr none (mk w p r J L)) : ∀ j, j ≤ m → Wf l X uX7_canonLine (d + 9) true bs 32 [(0, .ref 150), (1, .int (nI m)), (2, .int u), (3, .int (nI j))] [] (mk w p r J L) kr := by
  refine down (fun j => Wf l X uX7_canonLine (d + 9) true bs 32 [(0, .ref 150), (1, .int (nI m)), (2, .int u), (3, .int (nI j))] [] (mk w p r J L) kr) m ?_ ?_
  · refine Wf.gc tkX7_canonLine [72] ?_
    conv => whnf
    refine b1' (Int32.le_refl _) ?_
    conv => whnf
    exact cn_72 hJ q
  · intro j hj ih
    rw [← nI_1] at ih
    refine Wf.gc tkX7_canonLine [32] ?_
    conv => whnf
    refine b2' (nI_ge hj (by omega)) ?_
    conv => whnf
    refine b1 hJ ?_
    conv => whnf
    exact ih
set_option maxRecDepth 20000 in
theorem cn_23 {m : Nat} {bs : Nat × Nat} {J : Nat → Nat → Int32} (hm : m ≤ 5) (hJ : ¬ J 150 13 = 0) (q : kr none (mk w p r J L)) : Wf l X uX7_canonLine (d + 9) true bs 23 [(0, .ref 150), (1, .int (nI m))] [] (mk w p r J L) kr := by
  refine Wf.gc tkX7_canonLine [32] ?_
  conv => whnf
  refine y_named_f (d := d + 1) hJ ?_
  conv => whnf
  exact cn_32 hm hJ q 0 (Nat.zero_le _)
set_option maxHeartbeats 4000000 in
set_option maxRecDepth 20000 in
theorem y_canonLine (hB : Bd F W nm) (h5 : ¬ 5 ≤ F 5) (hS : SF b n (F, W, nm, tn b n 1 e) I) (he : e ≤ n) (hE : ∀ er, lnCanon b n F W nm e = .inl er → ∀ I', FE I er I' → kr none (mk w p r I' L)) (hO : ∀ P', lnCanon b n F W nm e = .inr P' → ∀ I', sQ I I' → SF b n P' I' → kr none (mk w p r I' L)) : Ev l X uX7_canonLine (d + 9) true 0 0 [.ref 150] (mk w p r I L) kr := by
  obtain ⟨hr, he1, hc, h0, hf, hn, hs, hu, hk, h9⟩ := hS
  have he1 : tn b n 1 e ≤ n := he1
  have hc : TR b n (tn b n 1 e) I := hc
  have hf : FR F W I := hf
  have hk : KM F nm := hk
  have hs : SI nm := hs
  have hu : UN b nm := hu
  have hn : RN b nm I := hn
  have h9 : F 9 = 0 ↔ F 0 = 0 := h9
  have BF := hB.2.1
  unfold lnCanon at hE hO
  rw [if_neg h5] at hE hO
  have v5 : I 154 5 = nI (F 5) := hf.1 5 (by decide) (by decide)
  refine Ev.of (by decide) (Nat.le_of_ble_eq_true rfl) ?_
  refine Wf.gc tkX7_canonLine [23] ?_
  conv => whnf
  refine b1' h0 ?_
  conv => whnf
  refine ⟨5, ⟨rfl, by decide, show 5 < 202 by decide⟩, ?_⟩
  conv => whnf
  show Ev l X uX7_newName (d + 8) true 0 0 [.ref 150, .int (6 + I 154 5)] (mk w p r I L) _
  rw [v5, show (6 + nI (F 5) : Int32) = nI (6 + F 5) from nI_add 6 (F 5)]
  have fr5 := sl_fr5 hs hk (by omega)
  refine y_newName (so := 2) (k := F 5) (d := d + 1) (by omega) rfl fr5 hr he1 hc h0 hs hu hn (fun q I1 hs1 hc1 hn1 => ?_) (fun q => ?_)
  · rw [if_neg (fun z => z q)] at hE hO
    have hc1 : TR b n (tn b n 2 e) I1 := hc1
    have g1 : I1 150 13 = 0 := (hs1 150 13 (by omega) (by decide) (by omega)).trans h0
    have r1 := RX_sM hr hs1
    have f1 := FR_sM hf hs1
    have si1 : SI (nm ++ [nw b n (tn b n 1 e) 2 (F 5)]) := SI_a hs (Or.inr (Or.inl ⟨rfl, show F 5 < 5 by omega⟩))
    have un1 : UN b (nm ++ [nw b n (tn b n 1 e) 2 (F 5)]) := UN_a hu q fr5
    have f6 : (nam b n (nm ++ [nw b n (tn b n 1 e) 2 (F 5)]) 1 (tn b n 2 e)).2 < 6 := nam_6 (fun i hi => (nms_a hB.2.2.2.2.1 ⟨show 2 < 10 by decide, show F 5 < 6 by omega⟩ i hi).2)
    conv => whnf
    show Wf l X uX7_canonLine (d + 9) true (mC (mk w p r I L) + 0, mS (mk w p r I L) + 0) 23 [(0, .ref 150), (1, .int (I 154 5))] [] (mk w p r I1 L) kr
    rw [v5]
    refine Wf.gc tkX7_canonLine [32] ?_
    conv => whnf
    refine y_named (so := 1) (lo := 0) (hi := 5) (d := d + 1) (by omega) r1 (tn_b he 2) hc1 g1 si1 un1 hn1 (fun q2 => ?_) (fun q2 => ?_)
    · rw [if_neg (fun z => z q2)] at hE hO
      generalize (nam b n (nm ++ [nw b n (tn b n 1 e) 2 (F 5)]) 1 (tn b n 2 e)).2 = f at hE hO f6 ⊢
      conv => whnf
      show Wf l X uX7_canonLine (d + 9) true (mC (mk w p r I L) + 0, mS (mk w p r I L) + 0) 32 [(0, .ref 150), (1, .int (nI (F 5))), (2, .int (nI f)), (3, .int (nI 0))] [] (mk w p r I1 L) kr
      have loop := srch (e := F 5) (P := fun c => Nat.beq (F (300 + c)) f) (Wi := fun j => Wf l X uX7_canonLine (d + 9) true (mC (mk w p r I L) + 0, mS (mk w p r I L) + 0) 32 [(0, .ref 150), (1, .int (nI (F 5))), (2, .int (nI f)), (3, .int (nI j))] [] (mk w p r I1 L) kr) (K := fun o => o = toc F f) ?_ ?_ 0 (Nat.zero_le _)
      · exact loop rfl
      · intro ho
        rw [if_neg (by rw [← ho]; decide)] at hE hO
        refine Wf.gc tkX7_canonLine [72] ?_
        conv => whnf
        refine b1' (Int32.le_refl _) ?_
        conv => whnf
        show Wf l X uX7_canonLine (d + 9) true (mC (mk w p r I L) + 0, mS (mk w p r I L) + 0) 72 [(0, .ref 150), (1, .int (nI (F 5))), (2, .int (nI f)), (3, .int (nI (F 5)))] [] (mk w p r I1 L) kr
        refine Wf.gc tkX7_canonLine [] ?_
        conv => whnf
        refine y_pass (d := d + 5) r1 (tn_b he 2) hc1 g1 (fun I2 hs2 hc2 => ?_)
        have hc2 : TR b n (tn b n 3 e) I2 := hc2
        have g2 : I2 150 13 = 0 := (sN13 hs2).trans g1
        conv => whnf
        refine y_after (i := 16) (lo := 1) (hi := 30) (d := d) (by decide) (by decide) (by decide) (RX_sN r1 hs2) (tn_b he 3) hc2 g2 (by decide) (fun q3 I4 hs4 hc4 _ _ => ?_) (fun q3 I4 hs4 => ?_)
        · rw [if_neg (fun z => z q3)] at hE hO
          have hs4 : sN I1 I4 := hs2.tr hs4
          have hc4 : TR b n (tn b n 5 e) I4 := hc4
          have g4 : I4 150 13 = 0 := (sN13 hs4).trans g1
          conv => whnf
          refine y_after (i := 17) (lo := 1) (hi := 9) (d := d) (by decide) (by decide) (by decide) (RX_sN r1 hs4) (tn_b he 5) hc4 g4 (by decide) (fun q4 I3 hs3 hc3 _ _ => ?_) (fun q4 I3 hs3 => ?_)
          · rw [if_neg (fun z => z q4)] at hO
            have hs3 : sN I1 I3 := hs4.tr hs3
            have hc3 : TR b n (tn b n 7 e) I3 := hc3
            have g3 : I3 150 13 = 0 := (sN13 hs3).trans g1
            have f3 := FR_sN f1 hs3
            conv => whnf
            refine b1' g3 ?_
            conv => whnf
            refine ⟨18 + F 5, ⟨nI_add 18 (F 5), by omega, show 18 + F 5 < 25 by omega⟩, ?_⟩
            conv => whnf
            refine ⟨35 + 2 * F 5, ⟨by show (35 + 2 * nI (F 5) : Int32) = nI (35 + 2 * F 5); rw [show (2 : Int32) = nI 2 from rfl, nI_mul, show (35 : Int32) = nI 35 from rfl, nI_add], by omega, show 35 + 2 * F 5 < 202 by omega⟩, ?_⟩
            conv => whnf
            refine ⟨36 + 2 * F 5, ⟨by show (35 + 2 * nI (F 5) + 1 : Int32) = nI (36 + 2 * F 5); rw [show (2 : Int32) = nI 2 from rfl, nI_mul, show (35 : Int32) = nI 35 from rfl, nI_add, nI_1, show 35 + 2 * F 5 + 1 = 36 + 2 * F 5 by omega], by omega, show 36 + 2 * F 5 < 202 by omega⟩, ?_⟩
            conv => whnf
            refine ⟨5, ⟨rfl, by decide, show 5 < 202 by decide⟩, ?_⟩
            conv => whnf
            refine ⟨5, ⟨rfl, by decide, show 5 < 202 by decide⟩, ?_⟩
            conv => whnf
            show kr none (mk w p r (u2 (u2 (u2 (u2 I3 156 (18 + F 5) (nI f)) 154 (35 + 2 * F 5) (nI (tvl b n (tn b n 4 e)))) 154 (36 + 2 * F 5) (nI (tvl b n (tn b n 6 e)))) 154 5 ((u2 (u2 (u2 I3 156 (18 + F 5) (nI f)) 154 (35 + 2 * F 5) (nI (tvl b n (tn b n 4 e)))) 154 (36 + 2 * F 5) (nI (tvl b n (tn b n 6 e)))) 154 5 + 1)) L)
            rw [u2_o (by omega), u2_o (by omega), u2_o (by omega), f3.1 5 (by decide) (by decide), nI_1]
            have sp : sP I3 (u2 (u2 (u2 (u2 I3 156 (18 + F 5) (nI f)) 154 (35 + 2 * F 5) (nI (tvl b n (tn b n 4 e)))) 154 (36 + 2 * F 5) (nI (tvl b n (tn b n 6 e)))) 154 5 (nI (F 5 + 1))) := ((sP_6.tr (sP_4 (by omega))).tr (sP_4 (by omega))).tr (sP_4 (by decide))
            have km : KM (uF (uF (uF (uF F (300 + F 5) f) (35 + 2 * F 5) (tvl b n (tn b n 4 e))) (36 + 2 * F 5) (tvl b n (tn b n 6 e))) 5 (F 5 + 1)) (nm ++ [nw b n (tn b n 1 e) 2 (F 5)]) := KM_a (KM_c hk (Nat.le_of_eq (by rw [uF_o (by decide), uF_o (by omega), uF_o (by omega), uF_o (by omega)])) (by rw [uF_s]; omega) (Nat.le_of_eq (by rw [uF_o (by decide), uF_o (by omega), uF_o (by omega), uF_o (by omega)]))) ⟨fun z => absurd (show (2 : Nat) = 1 from z) (by decide), fun _ => by rw [uF_s]; exact Nat.lt_succ_self _, fun z => absurd (show (2 : Nat) = 3 from z) (by decide)⟩
            have k9 : (uF (uF (uF (uF F (300 + F 5) f) (35 + 2 * F 5) (tvl b n (tn b n 4 e))) (36 + 2 * F 5) (tvl b n (tn b n 6 e))) 5 (F 5 + 1)) 9 = 0 ↔ (uF (uF (uF (uF F (300 + F 5) f) (35 + 2 * F 5) (tvl b n (tn b n 4 e))) (36 + 2 * F 5) (tvl b n (tn b n 6 e))) 5 (F 5 + 1)) 0 = 0 := by
              rw [uF_o (by decide), uF_o (by omega), uF_o (by omega), uF_o (by omega), uF_o (by decide), uF_o (by omega), uF_o (by omega), uF_o (by omega)]
              exact h9
            exact hO _ rfl _ (hs1.sQ.tr (hs3.sQ.tr sp.sQ)) ⟨RX_sP (RX_sN r1 hs3) sp, tn_b he 7, TR_sP hc3 sp, by rw [sp 150 13 (by omega) (by decide)]; exact g3, FR_s (FR_s (FR_s (FR_c f3 (by omega)) (by omega) (by omega)) (by omega) (by omega)) (by decide) (by decide), RN_sP (RN_sN hn1 hs3) sp, si1, un1, km, k9⟩
          · rw [if_pos q4] at hE
            have fe := hE _ rfl _ (FE_fl (I := I) (I1 := I3) (k := (lab b n 17 1 9 (tn b n 5 e)).1) (s := (lab b n 17 1 9 (tn b n 5 e)).2) (hs1.sQ.tr (hs4.tr hs3).sQ))
            conv => whnf
            refine b2' (flR_n (I := I3) (k := (lab b n 17 1 9 (tn b n 5 e)).1) (s := (lab b n 17 1 9 (tn b n 5 e)).2)) ?_
            conv => whnf
            exact fe
        · rw [if_pos q3] at hE
          have fe := hE _ rfl _ (FE_fl (I := I) (I1 := I4) (k := (lab b n 16 1 30 (tn b n 3 e)).1) (s := (lab b n 16 1 30 (tn b n 3 e)).2) (hs1.sQ.tr (hs2.tr hs4).sQ))
          conv => whnf
          refine y_after_f (d := d) (by decide) flR_n ?_
          conv => whnf
          refine b2' (flR_n (I := I4) (k := (lab b n 16 1 30 (tn b n 3 e)).1) (s := (lab b n 16 1 30 (tn b n 3 e)).2)) ?_
          conv => whnf
          exact fe
      · intro j hj
        have vj : I1 156 (18 + j) = nI (F (300 + j)) := f1.2.2.1 j (by omega)
        have bj := BF (300 + j)
        have stp : (F (300 + j) = f → Wf l X uX7_canonLine (d + 9) true (mC (mk w p r I L) + 0, mS (mk w p r I L) + 0) 32 [(0, .ref 150), (1, .int (nI (F 5))), (2, .int (nI f)), (3, .int (nI (j + 1)))] [] (mk w p r (flR I1 3 (tst b n (tn b n 2 e))) L) kr) → (¬ F (300 + j) = f → Wf l X uX7_canonLine (d + 9) true (mC (mk w p r I L) + 0, mS (mk w p r I L) + 0) 32 [(0, .ref 150), (1, .int (nI (F 5))), (2, .int (nI f)), (3, .int (nI (j + 1)))] [] (mk w p r I1 L) kr) → Wf l X uX7_canonLine (d + 9) true (mC (mk w p r I L) + 0, mS (mk w p r I L) + 0) 32 [(0, .ref 150), (1, .int (nI (F 5))), (2, .int (nI f)), (3, .int (nI j))] [] (mk w p r I1 L) kr := by
          intro a1 a2
          rw [← nI_1] at a1 a2
          refine Wf.gc tkX7_canonLine [32] ?_
          conv => whnf
          refine b2' (nI_ge hj (by omega)) ?_
          conv => whnf
          refine b2 (fun z => z g1) ?_
          conv => whnf
          refine ⟨18 + j, ⟨nI_add 18 j, by omega, show 18 + j < 25 by omega⟩, ?_⟩
          conv => whnf
          refine ⟨fun z => ?_, fun z => ?_⟩
          · have z : ¬ I1 156 (18 + j) = nI f := z
            rw [vj, nI_eq (by omega) (by omega)] at z
            conv => whnf
            exact a2 z
          · have z : I1 156 (18 + j) = nI f := z
            rw [vj, nI_eq (by omega) (by omega)] at z
            conv => whnf
            refine y_wrong0 g1 ?_
            conv => whnf
            have eJ : u2 (u2 (u2 I1 150 13 1) 150 9 3) 150 10 (I1 150 4) = flR I1 3 (tst b n (tn b n 2 e)) := by unfold flR; rw [← hc1.2.1]; rfl
            have a1 := a1 z
            rw [← eJ] at a1
            exact a1
        refine ⟨fun hP ho => stp (fun z => ?_) (fun z => ?_), fun hP ih => stp (fun z => ?_) (fun _ => ih)⟩
        · rw [if_pos (by rw [← ho]; rfl)] at hE
          exact cn_32 (m := F 5) (by omega) flR_n (hE _ rfl _ (FE_fl hs1.sQ)) (j + 1) (by omega)
        · exact absurd (Nat.eq_of_beq_eq_true hP) z
        · have hP : Nat.beq (F (300 + j)) f = false := hP
          rw [z, Nat.beq_refl] at hP
          cases hP
    · rw [if_pos q2] at hE
      have fe := hE _ rfl _ (FE_fl (I := I) (I1 := I1) (k := (nam b n (nm ++ [nw b n (tn b n 1 e) 2 (F 5)]) 1 (tn b n 2 e)).1) (s := tst b n (tn b n 2 e)) hs1.sQ)
      conv => whnf
      exact cn_32 (m := F 5) (by omega) flR_n fe 0 (Nat.zero_le _)
  · rw [if_pos q] at hE
    have fe := hE _ rfl _ (FE_fl (I := I) (I1 := I) (k := tel b n nm (tn b n 1 e)) (s := tst b n (tn b n 1 e)) sQ.rf)
    conv => whnf
    show Wf l X uX7_canonLine (d + 9) true (mC (mk w p r I L) + 0, mS (mk w p r I L) + 0) 23 [(0, .ref 150), (1, .int (I 154 5))] [] (mk w p r (flR I (tel b n nm (tn b n 1 e)) (tst b n (tn b n 1 e))) L) kr
    rw [v5]
    exact cn_23 (by omega) flR_n fe
end RL4
end
