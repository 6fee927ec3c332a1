/-! the bounds behind each line -/
section BDM
variable {b : Nat → Nat} {n e : Nat} {nm : List Nm} {F : Nat → Nat} {W : Int32} {P' : Ps}
theorem B2_close (hB : B2 (F, W, nm, e)) (h : lnClose b n F W nm e = .inr P') : B2 P' ∧ P'.2.2.2 = tn b n 7 e := by
  obtain ⟨⟨⟨B0, B1, B3, B4, B5, B6, B7⟩, BF, Bp, Bn, Bs, Bt⟩, x, hx, hW, hp⟩ := hB
  unfold lnClose at h
  split at h
  · cases h
  rename_i c1
  split at h
  · cases h
  rename_i c2
  split at h
  · cases h
  rename_i c3
  cases h
  obtain ⟨v1, v2⟩ := lab_v c1
  obtain ⟨v3, v4⟩ := lab_v c2
  obtain ⟨v5, v6⟩ := lab_v c3
  have v1 : 2 ≤ tvl b n (tn b n 2 e) := v1
  have v2 : tvl b n (tn b n 2 e) ≤ 5 := v2
  have v3 : 2 ≤ tvl b n (tn b n 4 e) := v3
  have v4 : tvl b n (tn b n 4 e) ≤ 4 := v4
  have v6 : tvl b n (tn b n 6 e) ≤ 100 := v6
  exact ⟨⟨⟨⟨v2, v4, B3, B4, B5, B6, B7⟩, uF_lt (uF_lt (uF_lt (uF_lt BF (by omega)) (by omega)) (by omega)) (by decide), Bp, Bn, Bs, fun _ => ⟨v1, v3⟩⟩, x, hx, hW, hp⟩, rfl⟩
theorem B2_wall (hT : 0 < F 0) (hB : B2 (F, W, nm, e)) (h : lnWall b n F W nm e = .inr P') : B2 P' ∧ P'.2.2.2 = tn b n 2 e := by
  obtain ⟨⟨⟨B0, B1, B3, B4, B5, B6, B7⟩, BF, Bp, Bn, Bs, Bt⟩, hw⟩ := hB
  have hw : BW F W := hw
  have Bt : 0 < F 0 → 2 ≤ F 0 ∧ 2 ≤ F 1 := Bt
  have B0 : F 0 ≤ 5 := B0
  have B1 : F 1 ≤ 4 := B1
  have hc20 : F 0 * F 1 ≤ 5 * 4 := Nat.mul_le_mul B0 B1
  have hc4 : 2 * 2 ≤ F 0 * F 1 := Nat.mul_le_mul (Bt hT).1 (Bt hT).2
  unfold lnWall at h
  split at h
  · cases h
  rename_i c1
  split at h
  · cases h
  split at h
  · cases h
  rename_i c3
  split at h
  · cases h
  rename_i c4
  cases h
  obtain ⟨-, v2⟩ := bnd_v (Decidable.not_not.mp c3)
  have hf : isWl W (tvl b n (tn b n 1 e)) = false := by
    cases hq : isWl W (tvl b n (tn b n 1 e)) with
    | true => exact absurd hq c4
    | false => rfl
  have nb := BW_add (by omega) hw hf
  have e3 : uF F 3 (F 3 + 1) 3 = F 3 + 1 := rfl
  exact ⟨⟨⟨⟨B0, B1, by show F 3 + 1 ≤ 5; omega, B4, B5, B6, B7⟩, uF_lt BF (by omega), Bp_of nb (by dsimp only; rw [e3]; omega), Bn, Bs, Bt⟩, nb⟩, rfl⟩
theorem tvl_l {i lo hi : Nat} (h : ¬ (lab b n i lo hi e).1 ≠ 0) (hh : hi < 1000) : tvl b n (tsp b n e) < 1000 := by
  have := (lab_v h).2
  omega
theorem BW_c {F' : Nat → Nat} (h : BW F W) (e3 : F' 3 = F 3) : BW F' W := by
  obtain ⟨x, h1, h2, h3⟩ := h
  exact ⟨x, h1, h2, h3.trans e3.symm⟩
theorem B2_face (hT : 0 < F 0) (hB : B2 (F, W, nm, e)) (h : lnFace b n F W nm e = .inr P') : B2 P' ∧ P'.2.2.2 = tn b n 9 e := by
  obtain ⟨⟨⟨B0, B1, B3, B4, B5, B6, B7⟩, BF, Bp, Bn, Bs, Bt⟩, hw⟩ := hB
  have hw : BW F W := hw
  have Bs : ∀ i, i < nm.length → (nmD nm i).2.2.1 < 10 ∧ (nmD nm i).2.2.2 < 6 := Bs
  have Bn : nm.length = F 4 + F 5 + F 6 := Bn
  have Bt : 0 < F 0 → 2 ≤ F 0 ∧ 2 ≤ F 1 := Bt
  have B0 : F 0 ≤ 5 := B0
  have B1 : F 1 ≤ 4 := B1
  have B3 : F 3 ≤ 5 := B3
  have B5 : F 5 ≤ 5 := B5
  have B6 : F 6 ≤ 4 := B6
  have B7 : F 7 ≤ 4 := B7
  have hc20 : F 0 * F 1 ≤ 5 * 4 := Nat.mul_le_mul B0 B1
  unfold lnFace at h
  split at h
  · cases h
  rename_i c1
  split at h
  · cases h
  split at h
  · cases h
  rename_i kd hk
  split at h
  · cases h
  rename_i c4
  split at h
  · cases h
  rename_i c5
  split at h
  · cases h
  rename_i c6
  split at h
  · cases h
  cases h
  have k3 := kin_3 hk
  have w4 : tvl b n (tn b n 4 e) < 1000 := tvl_l c4 (by decide)
  have w5 : tvl b n (tn b n 6 e) < 1000 := tvl_l c5 (by decide)
  have w6 : tvl b n (tn b n 8 e) < 1000 := tvl_l c6 (by omega)
  have o : ∀ j, j < 10 → j ≠ 4 → uF (uF (uF (uF (uF F (11 + 4 * F 4) kd) (12 + 4 * F 4) (tvl b n (tn b n 4 e))) (13 + 4 * F 4) (tvl b n (tn b n 6 e))) (14 + 4 * F 4) (tvl b n (tn b n 8 e))) 4 (F 4 + 1) j = F j := fun j h1 h2 => PC_face_o (by omega)
  refine ⟨⟨⟨⟨?_, ?_, ?_, ?_, ?_, ?_, ?_⟩, uF_lt (uF_lt (uF_lt (uF_lt (uF_lt BF (by omega)) w4) w5) w6) (by omega), ?_, ?_, ?_, ?_⟩, BW_c hw (o 3 (by decide) (by decide))⟩, rfl⟩
  · dsimp only; rw [o 0 (by decide) (by decide)]; exact B0
  · dsimp only; rw [o 1 (by decide) (by decide)]; exact B1
  · dsimp only; rw [o 3 (by decide) (by decide)]; exact B3
  · show F 4 + 1 ≤ 6; omega
  · dsimp only; rw [o 5 (by decide) (by decide)]; exact B5
  · dsimp only; rw [o 6 (by decide) (by decide)]; exact B6
  · dsimp only; rw [o 7 (by decide) (by decide)]; exact B7
  · dsimp only; rw [o 3 (by decide) (by decide)]; exact Bp
  · dsimp only; rw [o 5 (by decide) (by decide), o 6 (by decide) (by decide), List.length_append]
    show nm.length + 1 = F 4 + 1 + F 5 + F 6
    omega
  · exact nms_a Bs ⟨show 1 < 10 by decide, show F 4 < 6 by omega⟩
  · dsimp only; rw [o 0 (by decide) (by decide), o 1 (by decide) (by decide)]; exact Bt
theorem B2_canon (hB : B2 (F, W, nm, e)) (h : lnCanon b n F W nm e = .inr P') : B2 P' ∧ P'.2.2.2 = tn b n 7 e := by
  obtain ⟨⟨⟨B0, B1, B3, B4, B5, B6, B7⟩, BF, Bp, Bn, Bs, Bt⟩, hw⟩ := hB
  have hw : BW F W := hw
  have Bs : ∀ i, i < nm.length → (nmD nm i).2.2.1 < 10 ∧ (nmD nm i).2.2.2 < 6 := Bs
  have Bn : nm.length = F 4 + F 5 + F 6 := Bn
  unfold lnCanon at h
  split at h
  · cases h
  rename_i c1
  split at h
  · cases h
  split at h
  · cases h
  split at h
  · cases h
  split at h
  · cases h
  rename_i c4
  split at h
  · cases h
  rename_i c5
  cases h
  have Bs2 := nms_a (x := nw b n (tn b n 1 e) 2 (F 5)) Bs ⟨show 2 < 10 by decide, show F 5 < 6 by omega⟩
  have f6 : (nam b n (nm ++ [nw b n (tn b n 1 e) 2 (F 5)]) 1 (tn b n 2 e)).2 < 6 := nam_6 (fun i hi => (Bs2 i hi).2)
  have w4 : tvl b n (tn b n 4 e) < 1000 := tvl_l c4 (by decide)
  have w5 : tvl b n (tn b n 6 e) < 1000 := tvl_l c5 (by decide)
  have o : ∀ j, j < 10 → j ≠ 5 → uF (uF (uF (uF F (300 + F 5) (nam b n (nm ++ [nw b n (tn b n 1 e) 2 (F 5)]) 1 (tn b n 2 e)).2) (35 + 2 * F 5) (tvl b n (tn b n 4 e))) (36 + 2 * F 5) (tvl b n (tn b n 6 e))) 5 (F 5 + 1) j = F j := fun j h1 h2 => PC_canon_o (by omega)
  refine ⟨⟨⟨⟨?_, ?_, ?_, ?_, ?_, ?_, ?_⟩, uF_lt (uF_lt (uF_lt (uF_lt BF (by omega)) w4) w5) (by omega), ?_, ?_, ?_, ?_⟩, BW_c hw (o 3 (by decide) (by decide))⟩, rfl⟩
  · dsimp only; rw [o 0 (by decide) (by decide)]; exact B0
  · dsimp only; rw [o 1 (by decide) (by decide)]; exact B1
  · dsimp only; rw [o 3 (by decide) (by decide)]; exact B3
  · dsimp only; rw [o 4 (by decide) (by decide)]; exact B4
  · show F 5 + 1 ≤ 5; omega
  · dsimp only; rw [o 6 (by decide) (by decide)]; exact B6
  · dsimp only; rw [o 7 (by decide) (by decide)]; exact B7
  · dsimp only; rw [o 3 (by decide) (by decide)]; exact Bp
  · dsimp only; rw [o 4 (by decide) (by decide), o 6 (by decide) (by decide), List.length_append]
    show nm.length + 1 = F 4 + (F 5 + 1) + F 6
    omega
  · exact Bs2
  · dsimp only; rw [o 0 (by decide) (by decide), o 1 (by decide) (by decide)]; exact Bt
theorem B2_walker (hB : B2 (F, W, nm, e)) (h : lnWalker b n F W nm e = .inr P') : B2 P' ∧ P'.2.2.2 = tn b n 6 e := by
  obtain ⟨⟨⟨B0, B1, B3, B4, B5, B6, B7⟩, BF, Bp, Bn, Bs, Bt⟩, hw⟩ := hB
  have hw : BW F W := hw
  have Bs : ∀ i, i < nm.length → (nmD nm i).2.2.1 < 10 ∧ (nmD nm i).2.2.2 < 6 := Bs
  have Bn : nm.length = F 4 + F 5 + F 6 := Bn
  have B0 : F 0 ≤ 5 := B0
  have B1 : F 1 ≤ 4 := B1
  have hc20 : F 0 * F 1 ≤ 5 * 4 := Nat.mul_le_mul B0 B1
  unfold lnWalker at h
  split at h
  · cases h
  rename_i c1
  split at h
  · cases h
  split at h
  · cases h
  rename_i c4
  split at h
  · cases h
  split at h
  · cases h
  rename_i c5
  split at h
  · cases h
  cases h
  have w4 : tvl b n (tn b n 3 e) < 1000 := tvl_l c4 (by omega)
  have w5 : tvl b n (tn b n 5 e) < 1000 := tvl_l c5 (by omega)
  have o : ∀ j, j < 10 → j ≠ 6 → uF (uF (uF F (45 + 2 * F 6) (tvl b n (tn b n 3 e))) (46 + 2 * F 6) (tvl b n (tn b n 5 e))) 6 (F 6 + 1) j = F j := fun j h1 h2 => PC_walker_o (by omega)
  refine ⟨⟨⟨⟨?_, ?_, ?_, ?_, ?_, ?_, ?_⟩, uF_lt (uF_lt (uF_lt BF w4) w5) (by omega), ?_, ?_, ?_, ?_⟩, BW_c hw (o 3 (by decide) (by decide))⟩, rfl⟩
  · dsimp only; rw [o 0 (by decide) (by decide)]; exact B0
  · dsimp only; rw [o 1 (by decide) (by decide)]; exact B1
  · dsimp only; rw [o 3 (by decide) (by decide)]; exact B3
  · dsimp only; rw [o 4 (by decide) (by decide)]; exact B4
  · dsimp only; rw [o 5 (by decide) (by decide)]; exact B5
  · show F 6 + 1 ≤ 4; omega
  · dsimp only; rw [o 7 (by decide) (by decide)]; exact B7
  · dsimp only; rw [o 3 (by decide) (by decide)]; exact Bp
  · dsimp only; rw [o 4 (by decide) (by decide), o 5 (by decide) (by decide), List.length_append]
    show nm.length + 1 = F 4 + F 5 + (F 6 + 1)
    omega
  · exact nms_a Bs ⟨show 3 < 10 by decide, show F 6 < 6 by omega⟩
  · dsimp only; rw [o 0 (by decide) (by decide), o 1 (by decide) (by decide)]; exact Bt
theorem B2_unsure (hB : B2 (F, W, nm, e)) (h : lnUnsure b n F W nm e = .inr P') : B2 P' ∧ P'.2.2.2 = tn b n 3 e := by
  obtain ⟨⟨⟨B0, B1, B3, B4, B5, B6, B7⟩, BF, Bp, Bn, Bs, Bt⟩, hw⟩ := hB
  have hw : BW F W := hw
  have Bs : ∀ i, i < nm.length → (nmD nm i).2.2.1 < 10 ∧ (nmD nm i).2.2.2 < 6 := Bs
  unfold lnUnsure at h
  split at h
  · cases h
  rename_i c1
  split at h
  · cases h
  split at h
  · cases h
  split at h
  · cases h
  rename_i c4
  cases h
  have f6 : (nam b n nm 2 (tn b n 1 e)).2 < 6 := nam_6 (fun i hi => (Bs i hi).2)
  have w4 := (bnd_v (Decidable.not_not.mp c4)).2
  have o : ∀ j, j < 10 → j ≠ 7 → uF (uF (uF F (53 + 2 * F 7) (nam b n nm 2 (tn b n 1 e)).2) (54 + 2 * F 7) (tvl b n (tn b n 2 e))) 7 (F 7 + 1) j = F j := fun j h1 h2 => PC_unsure_o (by omega)
  refine ⟨⟨⟨⟨?_, ?_, ?_, ?_, ?_, ?_, ?_⟩, uF_lt (uF_lt (uF_lt BF (by omega)) (by omega)) (by omega), ?_, ?_, ?_, ?_⟩, BW_c hw (o 3 (by decide) (by decide))⟩, rfl⟩
  · dsimp only; rw [o 0 (by decide) (by decide)]; exact B0
  · dsimp only; rw [o 1 (by decide) (by decide)]; exact B1
  · dsimp only; rw [o 3 (by decide) (by decide)]; exact B3
  · dsimp only; rw [o 4 (by decide) (by decide)]; exact B4
  · dsimp only; rw [o 5 (by decide) (by decide)]; exact B5
  · dsimp only; rw [o 6 (by decide) (by decide)]; exact B6
  · show F 7 + 1 ≤ 4; omega
  · dsimp only; rw [o 3 (by decide) (by decide)]; exact Bp
  · dsimp only; rw [o 4 (by decide) (by decide), o 5 (by decide) (by decide), o 6 (by decide) (by decide)]; exact Bn
  · exact Bs
  · dsimp only; rw [o 0 (by decide) (by decide), o 1 (by decide) (by decide)]; exact Bt
theorem B2_dropped (F8 : F 8 + 1 < 1000) (hB : B2 (F, W, nm, e)) (h : lnDropped b n F W nm e = .inr P') : B2 P' ∧ P'.2.2.2 = tn b n 4 e := by
  obtain ⟨⟨⟨B0, B1, B3, B4, B5, B6, B7⟩, BF, Bp, Bn, Bs, Bt⟩, hw⟩ := hB
  have hw : BW F W := hw
  unfold lnDropped at h
  split at h
  · cases h
  split at h
  · cases h
  split at h
  · cases h
  rename_i c4
  cases h
  have w4 : tvl b n (tn b n 3 e) < 1000 := tvl_l c4 (by decide)
  have o : ∀ j, j < 10 → j ≠ 8 → uF (uF F (61 + (nam b n nm 1 (tn b n 1 e)).2) (tvl b n (tn b n 3 e))) 8 (F 8 + 1) j = F j := fun j h1 h2 => by rw [uF_o h2, uF_o (by omega)]
  refine ⟨⟨⟨⟨?_, ?_, ?_, ?_, ?_, ?_, ?_⟩, uF_lt (uF_lt BF w4) F8, ?_, ?_, Bs, ?_⟩, BW_c hw (o 3 (by decide) (by decide))⟩, rfl⟩
  · dsimp only; rw [o 0 (by decide) (by decide)]; exact B0
  · dsimp only; rw [o 1 (by decide) (by decide)]; exact B1
  · dsimp only; rw [o 3 (by decide) (by decide)]; exact B3
  · dsimp only; rw [o 4 (by decide) (by decide)]; exact B4
  · dsimp only; rw [o 5 (by decide) (by decide)]; exact B5
  · dsimp only; rw [o 6 (by decide) (by decide)]; exact B6
  · dsimp only; rw [o 7 (by decide) (by decide)]; exact B7
  · dsimp only; rw [o 3 (by decide) (by decide)]; exact Bp
  · dsimp only; rw [o 4 (by decide) (by decide), o 5 (by decide) (by decide), o 6 (by decide) (by decide)]; exact Bn
  · dsimp only; rw [o 0 (by decide) (by decide), o 1 (by decide) (by decide)]; exact Bt
end BDM
