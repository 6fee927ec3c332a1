set_option maxRecDepth 20000 in
theorem vh_lowI {l : Launch} {X : Nat × (Nat → Int32)} {P : Pk} {e : Int} (d : Nat) : Vc l X U0 P e (d + 0) ((153, [(1, lLo, lHi, []), (1, 1, lHi, []), (0, iLo, iHi, [])], []), [], [(some (1, lLo, lHi, []), [], [])]) := by
  intro av M kr hI he hb hf hr
  obtain ⟨x, y, z, rfl, h1, h2⟩ := gbs_LLI hb
  have hk : ∀ r : Int64, kr (some (.long r)) M := fun r => hr _ M (Jv.rf hI he) ⟨_, List.mem_singleton.mpr rfl, ⟨rfl, i64_lo r, i64_hi r⟩, fun x hx => absurd hx List.not_mem_nil, fun x hx => absurd hx List.not_mem_nil⟩
  show Ev l X uX7_lowest (d + 0) true 0 0 _ M kr
  refine Ev.of (by decide) (Nat.le_of_ble_eq_true rfl) ?_
  refine Wf.sLl tkX7_lowest rfl rfl ?_
  refine Wf.sLs tkX7_lowest rfl rfl ?_
  refine Wf.sLl tkX7_lowest rfl rfl ?_
  refine Wf.sLs tkX7_lowest rfl rfl ?_
  refine lw_loop hk (x.toInt.natAbs + 1) y x [] (Nat.lt_succ_self _) ?_ (Or.inl rfl)
  intro w
  rw [w] at h1
  exact absurd h1 (by decide)
theorem kpw0 {ms ms' : Md3} {M M' : Mm} (h : kp ms M M') (hs : ms.all (fun m => ina ms' m.1 m.2.1 m.2.2) = true) : kp ms' M M' := by
  intro a k hk
  refine h a k ?_
  cases hq : inm ms a k with
  | false => rfl
  | true =>
    obtain ⟨m, hm, h4⟩ := List.any_eq_true.mp hq
    obtain ⟨h4, h5⟩ := andT h4
    obtain ⟨h5, h6⟩ := andT h5
    have h7 := ina_in (List.all_eq_true.mp hs m hm) (Nat.le_of_ble_eq_true h5) (Nat.le_of_ble_eq_true h6)
    rw [Nat.eq_of_beq_eq_true h4] at h7
    rw [h7] at hk
    cases hk
theorem gfi {M : Mm} {n k : Nat} {lo hi : Int} (g : lo ≤ (mI M n k).toInt ∧ (mI M n k).toInt ≤ hi) : gf M (n, k, 0, lo, hi, []) := ⟨rfl, g.1, g.2⟩
/-- a contract by the number of canons -/
theorem byC {l : Launch} {X : Nat × (Nat → Int32)} {d m : Nat} {bs : List AB} {ms : Md3} {ps : List Po} (F : Nat → List Fa) (hF : ∀ C : Nat, C < 6 → ∀ (M : Mm), Iv Pt0 M → eO 1 M → (mI M 153 5).toInt = (C : Int) → ∀ f ∈ F C, gf M f) (hv : ∀ C : Nat, C < 6 → ∃ ms' : Md3, Vc l X U0 Pt0 1 d ((m, bs, F C), ms', ps) ∧ ms'.all (fun m => ina ms m.1 m.2.1 m.2.2) = true) : Vc l X U0 Pt0 1 d ((m, bs, []), ms, ps) := by
  intro av M kr hI he hb _ hr
  have b := hI.2.2.2 153 5 (by decide)
  have b : (0 : Int) ≤ (mI M 153 5).toInt ∧ (mI M 153 5).toInt ≤ 5 := b
  obtain ⟨C, hC⟩ : ∃ C : Nat, (mI M 153 5).toInt = (C : Int) := ⟨(mI M 153 5).toInt.toNat, by omega⟩
  have hC6 : C < 6 := by omega
  obtain ⟨ms', h2, h1⟩ := hv C hC6
  exact h2 av M kr hI he hb (hF C hC6 M hI he hC) (fun r M' hJ hp => hr r M' ⟨hJ.1, hJ.2.1, kpw0 hJ.2.2.1 h1, hJ.2.2.2⟩ hp)
noncomputable def dfC : Nat → List Fa
  | 0 => [(153, 5, (0, 0, 0, []))]
  | 1 => [(153, 5, (0, 1, 1, [])), (153, 36, (0, 1, 30, []))]
  | 2 => [(153, 5, (0, 2, 2, [])), (153, 36, (0, 1, 30, [])), (153, 38, (0, 1, 30, []))]
  | 3 => [(153, 5, (0, 3, 3, [])), (153, 36, (0, 1, 30, [])), (153, 38, (0, 1, 30, [])), (153, 40, (0, 1, 30, []))]
  | 4 => [(153, 5, (0, 4, 4, [])), (153, 36, (0, 1, 30, [])), (153, 38, (0, 1, 30, [])), (153, 40, (0, 1, 30, [])), (153, 42, (0, 1, 30, []))]
  | _ => [(153, 5, (0, 5, 5, [])), (153, 36, (0, 1, 30, [])), (153, 38, (0, 1, 30, [])), (153, 40, (0, 1, 30, [])), (153, 42, (0, 1, 30, [])), (153, 44, (0, 1, 30, []))]
noncomputable def tfC : Nat → List Fa
  | 0 => [(153, 5, (0, 0, 0, []))]
  | 1 => [(153, 5, (0, 1, 1, []))]
  | 2 => [(153, 5, (0, 2, 2, []))]
  | 3 => [(153, 5, (0, 3, 3, []))]
  | 4 => [(153, 5, (0, 4, 4, []))]
  | _ => [(153, 5, (0, 5, 5, []))]
theorem dfC_ok : ∀ C : Nat, C < 6 → ∀ (M : Mm), Iv Pt0 M → eO 1 M → (mI M 153 5).toInt = (C : Int) → ∀ f ∈ dfC C, gf M f := by
  intro C hC M hI he e5
  have u0 : (0 : Int) ≤ (mI M 153 36).toInt ∧ (mI M 153 36).toInt ≤ 30 := hI.2.2.2 153 36 (by decide)
  have u1 : (0 : Int) ≤ (mI M 153 38).toInt ∧ (mI M 153 38).toInt ≤ 30 := hI.2.2.2 153 38 (by decide)
  have u2 : (0 : Int) ≤ (mI M 153 40).toInt ∧ (mI M 153 40).toInt ≤ 30 := hI.2.2.2 153 40 (by decide)
  have u3 : (0 : Int) ≤ (mI M 153 42).toInt ∧ (mI M 153 42).toInt ≤ 30 := hI.2.2.2 153 42 (by decide)
  have u4 : (0 : Int) ≤ (mI M 153 44).toInt ∧ (mI M 153 44).toInt ≤ 30 := hI.2.2.2 153 44 (by decide)
  have q := he rfl
  have q0 : (0 : Int) < (mI M 153 5).toInt → (1 : Int) ≤ (mI M 153 36).toInt := q 0 (by decide)
  have q1 : (1 : Int) < (mI M 153 5).toInt → (1 : Int) ≤ (mI M 153 38).toInt := q 1 (by decide)
  have q2 : (2 : Int) < (mI M 153 5).toInt → (1 : Int) ≤ (mI M 153 40).toInt := q 2 (by decide)
  have q3 : (3 : Int) < (mI M 153 5).toInt → (1 : Int) ≤ (mI M 153 42).toInt := q 3 (by decide)
  have q4 : (4 : Int) < (mI M 153 5).toInt → (1 : Int) ≤ (mI M 153 44).toInt := q 4 (by decide)
  rcases (show C = 0 ∨ C = 1 ∨ C = 2 ∨ C = 3 ∨ C = 4 ∨ C = 5 by omega) with rfl | rfl | rfl | rfl | rfl | rfl
  · intro f hf
    have hf : f ∈ ([(153, 5, (0, 0, 0, []))] : List Fa) := hf
    obtain rfl := List.mem_singleton.mp hf
    exact gfi ⟨by omega, by omega⟩
  · intro f hf
    have hf : f ∈ ([(153, 5, (0, 1, 1, [])), (153, 36, (0, 1, 30, []))] : List Fa) := hf
    rcases List.mem_cons.mp hf with rfl | hf
    · exact gfi ⟨by omega, by omega⟩
    obtain rfl := List.mem_singleton.mp hf
    exact gfi ⟨q0 (by omega), u0.2⟩
  · intro f hf
    have hf : f ∈ ([(153, 5, (0, 2, 2, [])), (153, 36, (0, 1, 30, [])), (153, 38, (0, 1, 30, []))] : List Fa) := hf
    rcases List.mem_cons.mp hf with rfl | hf
    · exact gfi ⟨by omega, by omega⟩
    rcases List.mem_cons.mp hf with rfl | hf
    · exact gfi ⟨q0 (by omega), u0.2⟩
    obtain rfl := List.mem_singleton.mp hf
    exact gfi ⟨q1 (by omega), u1.2⟩
  · intro f hf
    have hf : f ∈ ([(153, 5, (0, 3, 3, [])), (153, 36, (0, 1, 30, [])), (153, 38, (0, 1, 30, [])), (153, 40, (0, 1, 30, []))] : List Fa) := hf
    rcases List.mem_cons.mp hf with rfl | hf
    · exact gfi ⟨by omega, by omega⟩
    rcases List.mem_cons.mp hf with rfl | hf
    · exact gfi ⟨q0 (by omega), u0.2⟩
    rcases List.mem_cons.mp hf with rfl | hf
    · exact gfi ⟨q1 (by omega), u1.2⟩
    obtain rfl := List.mem_singleton.mp hf
    exact gfi ⟨q2 (by omega), u2.2⟩
  · intro f hf
    have hf : f ∈ ([(153, 5, (0, 4, 4, [])), (153, 36, (0, 1, 30, [])), (153, 38, (0, 1, 30, [])), (153, 40, (0, 1, 30, [])), (153, 42, (0, 1, 30, []))] : List Fa) := hf
    rcases List.mem_cons.mp hf with rfl | hf
    · exact gfi ⟨by omega, by omega⟩
    rcases List.mem_cons.mp hf with rfl | hf
    · exact gfi ⟨q0 (by omega), u0.2⟩
    rcases List.mem_cons.mp hf with rfl | hf
    · exact gfi ⟨q1 (by omega), u1.2⟩
    rcases List.mem_cons.mp hf with rfl | hf
    · exact gfi ⟨q2 (by omega), u2.2⟩
    obtain rfl := List.mem_singleton.mp hf
    exact gfi ⟨q3 (by omega), u3.2⟩
  · intro f hf
    have hf : f ∈ ([(153, 5, (0, 5, 5, [])), (153, 36, (0, 1, 30, [])), (153, 38, (0, 1, 30, [])), (153, 40, (0, 1, 30, [])), (153, 42, (0, 1, 30, [])), (153, 44, (0, 1, 30, []))] : List Fa) := hf
    rcases List.mem_cons.mp hf with rfl | hf
    · exact gfi ⟨by omega, by omega⟩
    rcases List.mem_cons.mp hf with rfl | hf
    · exact gfi ⟨q0 (by omega), u0.2⟩
    rcases List.mem_cons.mp hf with rfl | hf
    · exact gfi ⟨q1 (by omega), u1.2⟩
    rcases List.mem_cons.mp hf with rfl | hf
    · exact gfi ⟨q2 (by omega), u2.2⟩
    rcases List.mem_cons.mp hf with rfl | hf
    · exact gfi ⟨q3 (by omega), u3.2⟩
    obtain rfl := List.mem_singleton.mp hf
    exact gfi ⟨q4 (by omega), u4.2⟩
theorem tfC_ok : ∀ C : Nat, C < 6 → ∀ (M : Mm), Iv Pt0 M → eO 1 M → (mI M 153 5).toInt = (C : Int) → ∀ f ∈ tfC C, gf M f := by
  intro C hC M hI he e5
  rcases (show C = 0 ∨ C = 1 ∨ C = 2 ∨ C = 3 ∨ C = 4 ∨ C = 5 by omega) with rfl | rfl | rfl | rfl | rfl | rfl
  · intro f hf
    have hf : f ∈ ([(153, 5, (0, 0, 0, []))] : List Fa) := hf
    obtain rfl := List.mem_singleton.mp hf
    exact gfi ⟨by omega, by omega⟩
  · intro f hf
    have hf : f ∈ ([(153, 5, (0, 1, 1, []))] : List Fa) := hf
    obtain rfl := List.mem_singleton.mp hf
    exact gfi ⟨by omega, by omega⟩
  · intro f hf
    have hf : f ∈ ([(153, 5, (0, 2, 2, []))] : List Fa) := hf
    obtain rfl := List.mem_singleton.mp hf
    exact gfi ⟨by omega, by omega⟩
  · intro f hf
    have hf : f ∈ ([(153, 5, (0, 3, 3, []))] : List Fa) := hf
    obtain rfl := List.mem_singleton.mp hf
    exact gfi ⟨by omega, by omega⟩
  · intro f hf
    have hf : f ∈ ([(153, 5, (0, 4, 4, []))] : List Fa) := hf
    obtain rfl := List.mem_singleton.mp hf
    exact gfi ⟨by omega, by omega⟩
  · intro f hf
    have hf : f ∈ ([(153, 5, (0, 5, 5, []))] : List Fa) := hf
    obtain rfl := List.mem_singleton.mp hf
    exact gfi ⟨by omega, by omega⟩
noncomputable def Kc270 : Con := ((146, [(2, 0, 0, [150])], []), [(150, 0, 0), (150, 11, 11)], [(none, [], [])])
set_option maxRecDepth 20000 in
theorem vc270 {l : Launch} {X : Nat × (Nat → Int32)} (d : Nat) : Vc l X U0 Pt0 1 d Kc270 :=
  ckf (d := d) (Ks := []) (cy := 152) (cd := cdX7_good) (nl := 1) (fuel := 1000) (Hs := []) (by decide +kernel) (by decide +kernel) (fun na b => by rw [← ceX7_good]; exact tkX7_good) (fun _ h => absurd h List.not_mem_nil) (cpyX d) (by decide +kernel)
noncomputable def Kc271 : Con := ((149, [(0, iLo, iHi, []), (0, 0, 0, []), (0, (-1), 5, [])], []), [], [(some (0, 0, 0, []), [], []), (some (0, 1, 1, []), [(0, 0, 5), (2, 0, 5)], [])])
set_option maxRecDepth 20000 in
theorem vc271 {l : Launch} {X : Nat × (Nat → Int32)} (d : Nat) : Vc l X U0 Pt0 1 d Kc271 :=
  ckf (d := d) (Ks := []) (cy := 152) (cd := cdX7_in) (nl := 3) (fuel := 1000) (Hs := []) (by decide +kernel) (by decide +kernel) (fun na b => by rw [← ceX7_in]; exact tkX7_in) (fun _ h => absurd h List.not_mem_nil) (cpyX d) (by decide +kernel)
noncomputable def Kc272 : Con := ((185, [(2, 0, 0, [150]), (0, iLo, iHi, [])], []), [], [(some (0, 0, 0, []), [], []), (some (0, 1, 1, []), [(1, 0, 5)], [])])
set_option maxRecDepth 20000 in
theorem vc272 {l : Launch} {X : Nat × (Nat → Int32)} (d : Nat) : Vc l X U0 Pt0 1 (d + 1) Kc272 :=
  ckf (d := d) (Ks := [Kc271]) (cy := 152) (cd := cdX7_isFace) (nl := 2) (fuel := 1000) (Hs := []) (by decide +kernel) (by decide +kernel) (fun na b => by rw [← ceX7_isFace]; exact tkX7_isFace) (List.forall_mem_cons.mpr ⟨vc271 d, fun _ h => absurd h List.not_mem_nil⟩) (cpyX d) (by decide +kernel)
noncomputable def Kc273 : Con := ((147, [(2, 0, 0, [150]), (0, iLo, iHi, [])], []), [(150, 11, 11)], [(some (0, (-1), (-1), []), [], [])])
set_option maxRecDepth 20000 in
theorem vc273 {l : Launch} {X : Nat × (Nat → Int32)} (d : Nat) : Vc l X U0 Pt0 1 d Kc273 :=
  ckf (d := d) (Ks := []) (cy := 152) (cd := cdX7_no) (nl := 2) (fuel := 1000) (Hs := []) (by decide +kernel) (by decide +kernel) (fun na b => by rw [← ceX7_no]; exact tkX7_no) (fun _ h => absurd h List.not_mem_nil) (cpyX d) (by decide +kernel)
noncomputable def Kc274 : Con := ((149, [(0, iLo, iHi, []), (0, 0, 0, []), (0, 6, 6, [])], []), [], [(some (0, 0, 0, []), [], []), (some (0, 1, 1, []), [(0, 0, 6)], [])])
set_option maxRecDepth 20000 in
theorem vc274 {l : Launch} {X : Nat × (Nat → Int32)} (d : Nat) : Vc l X U0 Pt0 1 d Kc274 :=
  ckf (d := d) (Ks := []) (cy := 152) (cd := cdX7_in) (nl := 3) (fuel := 1000) (Hs := []) (by decide +kernel) (by decide +kernel) (fun na b => by rw [← ceX7_in]; exact tkX7_in) (fun _ h => absurd h List.not_mem_nil) (cpyX d) (by decide +kernel)
noncomputable def Kc275 : Con := ((197, [(2, 0, 0, [150]), (0, iLo, iHi, [])], []), [], [(some (0, (-2), (-2), []), [], []), (some (0, 0, 4, []), [], [])])
set_option maxRecDepth 20000 in
theorem vc275 {l : Launch} {X : Nat × (Nat → Int32)} (d : Nat) : Vc l X U0 Pt0 1 d Kc275 :=
  ckf (d := d) (Ks := []) (cy := 152) (cd := cdX7_canonOf) (nl := 3) (fuel := 1000) (Hs := [((2, 0), ([(0, (2, 0, 0, [150])), (1, (0, 1, 0, [])), (2, (0, 2, 0, []))], [], [(0, 0), (iLo, iHi), (0, 5)], []), [(0, 1, 0), (0, 2, 0)], (10, [(2, (-2))]), [])]) (by decide +kernel) (by decide +kernel) (fun na b => by rw [← ceX7_canonOf]; exact tkX7_canonOf) (fun _ h => absurd h List.not_mem_nil) (cpyX d) (by decide +kernel)
noncomputable def Kc276 : Con := ((198, [(2, 0, 0, [150]), (0, iLo, iHi, []), (0, iLo, iHi, [])], []), [(150, 0, 0), (150, 11, 11)], [(some (0, (-1), (-1), []), [], []), (some (0, iLo, iHi, []), [(1, 0, 5), (2, 0, 6)], []), (some (0, (-2), (-2), []), [(1, 0, 5), (2, 5, 5)], [])])
set_option maxRecDepth 20000 in
theorem vc276 {l : Launch} {X : Nat × (Nat → Int32)} (d : Nat) : Vc l X U0 Pt0 1 (d + 2) Kc276 :=
  ckf (d := (d + 1)) (Ks := [Kc270, Kc272, Kc273, Kc274, Kc275]) (cy := 152) (cd := cdX7_face) (nl := 3) (fuel := 1000) (Hs := []) (by decide +kernel) (by decide +kernel) (fun na b => by rw [← ceX7_face]; exact tkX7_face) (List.forall_mem_cons.mpr ⟨vc270 (d + 1), List.forall_mem_cons.mpr ⟨vc272 d, List.forall_mem_cons.mpr ⟨vc273 (d + 1), List.forall_mem_cons.mpr ⟨vc274 (d + 1), List.forall_mem_cons.mpr ⟨vc275 (d + 1), fun _ h => absurd h List.not_mem_nil⟩⟩⟩⟩⟩) (cpyX (d + 1)) (by decide +kernel)
noncomputable def Kc277 : Con := ((149, [(0, iLo, iHi, []), (0, 0, 0, []), (0, (-1), 4, [])], []), [], [(some (0, 0, 0, []), [], []), (some (0, 1, 1, []), [(0, 0, 4), (2, 0, 4)], [])])
set_option maxRecDepth 20000 in
theorem vc277 {l : Launch} {X : Nat × (Nat → Int32)} (d : Nat) : Vc l X U0 Pt0 1 d Kc277 :=
  ckf (d := d) (Ks := []) (cy := 152) (cd := cdX7_in) (nl := 3) (fuel := 1000) (Hs := []) (by decide +kernel) (by decide +kernel) (fun na b => by rw [← ceX7_in]; exact tkX7_in) (fun _ h => absurd h List.not_mem_nil) (cpyX d) (by decide +kernel)
noncomputable def Kc278 : Con := ((186, [(2, 0, 0, [150]), (0, iLo, iHi, [])], []), [], [(some (0, 0, 0, []), [], []), (some (0, 1, 1, []), [(1, 0, 4)], [])])
set_option maxRecDepth 20000 in
theorem vc278 {l : Launch} {X : Nat × (Nat → Int32)} (d : Nat) : Vc l X U0 Pt0 1 (d + 1) Kc278 :=
  ckf (d := d) (Ks := [Kc277]) (cy := 152) (cd := cdX7_isCanon) (nl := 2) (fuel := 1000) (Hs := []) (by decide +kernel) (by decide +kernel) (fun na b => by rw [← ceX7_isCanon]; exact tkX7_isCanon) (List.forall_mem_cons.mpr ⟨vc277 d, fun _ h => absurd h List.not_mem_nil⟩) (cpyX d) (by decide +kernel)
noncomputable def Kc279 : Con := ((149, [(0, iLo, iHi, []), (0, 0, 0, []), (0, 2, 2, [])], []), [], [(some (0, 0, 0, []), [], []), (some (0, 1, 1, []), [(0, 0, 2)], [])])
set_option maxRecDepth 20000 in
theorem vc279 {l : Launch} {X : Nat × (Nat → Int32)} (d : Nat) : Vc l X U0 Pt0 1 d Kc279 :=
  ckf (d := d) (Ks := []) (cy := 152) (cd := cdX7_in) (nl := 3) (fuel := 1000) (Hs := []) (by decide +kernel) (by decide +kernel) (fun na b => by rw [← ceX7_in]; exact tkX7_in) (fun _ h => absurd h List.not_mem_nil) (cpyX d) (by decide +kernel)
noncomputable def Kc280 : Con := ((199, [(2, 0, 0, [150]), (0, iLo, iHi, []), (0, iLo, iHi, [])], []), [(150, 0, 0), (150, 11, 11)], [(some (0, (-1), (-1), []), [], []), (some (0, 0, 30, []), [(1, 0, 4), (2, 0, 2)], [])])
set_option maxRecDepth 20000 in
theorem vc280 {l : Launch} {X : Nat × (Nat → Int32)} (d : Nat) : Vc l X U0 Pt0 1 (d + 2) Kc280 :=
  ckf (d := (d + 1)) (Ks := [Kc270, Kc278, Kc273, Kc279]) (cy := 152) (cd := cdX7_canon) (nl := 3) (fuel := 1000) (Hs := []) (by decide +kernel) (by decide +kernel) (fun na b => by rw [← ceX7_canon]; exact tkX7_canon) (List.forall_mem_cons.mpr ⟨vc270 (d + 1), List.forall_mem_cons.mpr ⟨vc278 d, List.forall_mem_cons.mpr ⟨vc273 (d + 1), List.forall_mem_cons.mpr ⟨vc279 (d + 1), fun _ h => absurd h List.not_mem_nil⟩⟩⟩⟩) (cpyX (d + 1)) (by decide +kernel)
noncomputable def Kc281 : Con := ((187, [(2, 0, 0, [150])], []), [], [(some (0, 0, 20, []), [], [])])
set_option maxRecDepth 20000 in
theorem vc281 {l : Launch} {X : Nat × (Nat → Int32)} (d : Nat) : Vc l X U0 Pt0 1 d Kc281 :=
  ckf (d := d) (Ks := []) (cy := 152) (cd := cdX7_cells) (nl := 1) (fuel := 1000) (Hs := []) (by decide +kernel) (by decide +kernel) (fun na b => by rw [← ceX7_cells]; exact tkX7_cells) (fun _ h => absurd h List.not_mem_nil) (cpyX d) (by decide +kernel)
noncomputable def Kc282 : Con := ((149, [(0, iLo, iHi, []), (0, 0, 0, []), (0, (-1), 19, [])], []), [], [(some (0, 0, 0, []), [], []), (some (0, 1, 1, []), [(0, 0, 19), (2, 0, 19)], [])])
set_option maxRecDepth 20000 in
theorem vc282 {l : Launch} {X : Nat × (Nat → Int32)} (d : Nat) : Vc l X U0 Pt0 1 d Kc282 :=
  ckf (d := d) (Ks := []) (cy := 152) (cd := cdX7_in) (nl := 3) (fuel := 1000) (Hs := []) (by decide +kernel) (by decide +kernel) (fun na b => by rw [← ceX7_in]; exact tkX7_in) (fun _ h => absurd h List.not_mem_nil) (cpyX d) (by decide +kernel)
noncomputable def Kc283 : Con := ((188, [(2, 0, 0, [150]), (0, iLo, iHi, [])], []), [], [(some (0, 0, 0, []), [], []), (some (0, 1, 1, []), [(1, 0, 19)], [])])
set_option maxRecDepth 20000 in
theorem vc283 {l : Launch} {X : Nat × (Nat → Int32)} (d : Nat) : Vc l X U0 Pt0 1 (d + 1) Kc283 :=
  ckf (d := d) (Ks := [Kc281, Kc282]) (cy := 152) (cd := cdX7_isCell) (nl := 2) (fuel := 1000) (Hs := []) (by decide +kernel) (by decide +kernel) (fun na b => by rw [← ceX7_isCell]; exact tkX7_isCell) (List.forall_mem_cons.mpr ⟨vc281 d, List.forall_mem_cons.mpr ⟨vc282 d, fun _ h => absurd h List.not_mem_nil⟩⟩) (cpyX d) (by decide +kernel)
noncomputable def Kc284 : Con := ((149, [(0, iLo, iHi, []), (0, 0, 0, []), (0, 3, 3, [])], []), [], [(some (0, 0, 0, []), [], []), (some (0, 1, 1, []), [(0, 0, 3)], [])])
set_option maxRecDepth 20000 in
theorem vc284 {l : Launch} {X : Nat × (Nat → Int32)} (d : Nat) : Vc l X U0 Pt0 1 d Kc284 :=
  ckf (d := d) (Ks := []) (cy := 152) (cd := cdX7_in) (nl := 3) (fuel := 1000) (Hs := []) (by decide +kernel) (by decide +kernel) (fun na b => by rw [← ceX7_in]; exact tkX7_in) (fun _ h => absurd h List.not_mem_nil) (cpyX d) (by decide +kernel)
noncomputable def Kc285 : Con := ((200, [(2, 0, 0, [150]), (0, iLo, iHi, [])], []), [], [(some (0, (-2), (-2), []), [], []), (some (0, 0, 5, []), [], [])])
set_option maxRecDepth 20000 in
theorem vc285 {l : Launch} {X : Nat × (Nat → Int32)} (d : Nat) : Vc l X U0 Pt0 1 d Kc285 :=
  ckf (d := d) (Ks := []) (cy := 152) (cd := cdX7_faceOver) (nl := 3) (fuel := 1000) (Hs := [((2, 0), ([(0, (2, 0, 0, [150])), (1, (0, 1, 0, [])), (2, (0, 2, 0, []))], [], [(0, 0), (iLo, iHi), (0, 6)], []), [(0, 1, 0), (0, 2, 0)], (12, [(2, (-2))]), [])]) (by decide +kernel) (by decide +kernel) (fun na b => by rw [← ceX7_faceOver]; exact tkX7_faceOver) (fun _ h => absurd h List.not_mem_nil) (cpyX d) (by decide +kernel)
noncomputable def Kc286 : Con := ((149, [(0, iLo, iHi, []), (0, 0, 0, []), (0, 1, 4, [])], []), [], [(some (0, 0, 0, []), [], []), (some (0, 1, 1, []), [(0, 0, 4)], [])])
set_option maxRecDepth 20000 in
theorem vc286 {l : Launch} {X : Nat × (Nat → Int32)} (d : Nat) : Vc l X U0 Pt0 1 d Kc286 :=
  ckf (d := d) (Ks := []) (cy := 152) (cd := cdX7_in) (nl := 3) (fuel := 1000) (Hs := []) (by decide +kernel) (by decide +kernel) (fun na b => by rw [← ceX7_in]; exact tkX7_in) (fun _ h => absurd h List.not_mem_nil) (cpyX d) (by decide +kernel)
noncomputable def Kc287 : Con := ((149, [(0, iLo, iHi, []), (0, 0, 0, []), (0, (-1), 3, [])], []), [], [(some (0, 0, 0, []), [], []), (some (0, 1, 1, []), [(0, 0, 3), (2, 0, 3)], [])])
set_option maxRecDepth 20000 in
theorem vc287 {l : Launch} {X : Nat × (Nat → Int32)} (d : Nat) : Vc l X U0 Pt0 1 d Kc287 :=
  ckf (d := d) (Ks := []) (cy := 152) (cd := cdX7_in) (nl := 3) (fuel := 1000) (Hs := []) (by decide +kernel) (by decide +kernel) (fun na b => by rw [← ceX7_in]; exact tkX7_in) (fun _ h => absurd h List.not_mem_nil) (cpyX d) (by decide +kernel)
noncomputable def Kc288 : Con := ((150, [(0, iLo, iHi, []), (0, iLo, iHi, [])], []), [], [(some (0, 0, 0, []), [], []), (some (0, 1, 1, []), [], [])])
set_option maxRecDepth 20000 in
theorem vc288 {l : Launch} {X : Nat × (Nat → Int32)} (d : Nat) : Vc l X U0 Pt0 1 d Kc288 :=
  ckf (d := d) (Ks := []) (cy := 152) (cd := cdX7_hasBit) (nl := 2) (fuel := 1000) (Hs := []) (by decide +kernel) (by decide +kernel) (fun na b => by rw [← ceX7_hasBit]; exact tkX7_hasBit) (fun _ h => absurd h List.not_mem_nil) (cpyX d) (by decide +kernel)
noncomputable def Kc289 : Con := ((201, [(2, 0, 0, [150]), (0, iLo, iHi, [])], []), [], [(some (0, 0, 0, []), [], []), (some (0, 1, 1, []), [], [])])
set_option maxRecDepth 20000 in
theorem vc289 {l : Launch} {X : Nat × (Nat → Int32)} (d : Nat) : Vc l X U0 Pt0 1 (d + 1) Kc289 :=
  ckf (d := d) (Ks := [Kc288]) (cy := 152) (cd := cdX7_isWall) (nl := 2) (fuel := 1000) (Hs := []) (by decide +kernel) (by decide +kernel) (fun na b => by rw [← ceX7_isWall]; exact tkX7_isWall) (List.forall_mem_cons.mpr ⟨vc288 d, fun _ h => absurd h List.not_mem_nil⟩) (cpyX d) (by decide +kernel)
noncomputable def Kc290 : Con := ((202, [(2, 0, 0, [150]), (0, iLo, iHi, []), (0, iLo, iHi, [])], []), [], [(some (0, (-2), (-2), []), [], []), (some (0, 0, 19, []), [], [])])
set_option maxRecDepth 20000 in
theorem vc290 {l : Launch} {X : Nat × (Nat → Int32)} (d : Nat) : Vc l X U0 Pt0 1 (d + 2) Kc290 :=
  ckf (d := (d + 1)) (Ks := [Kc286, Kc287, Kc289]) (cy := 152) (cd := cdX7_stepFrom) (nl := 5) (fuel := 1000) (Hs := []) (by decide +kernel) (by decide +kernel) (fun na b => by rw [← ceX7_stepFrom]; exact tkX7_stepFrom) (List.forall_mem_cons.mpr ⟨vc286 (d + 1), List.forall_mem_cons.mpr ⟨vc287 (d + 1), List.forall_mem_cons.mpr ⟨vc289 d, fun _ h => absurd h List.not_mem_nil⟩⟩⟩) (cpyX (d + 1)) (by decide +kernel)
noncomputable def Kc291 : Con := ((203, [(2, 0, 0, [150]), (0, iLo, iHi, [])], []), [], [(some (0, iLo, iHi, []), [], [])])
set_option maxRecDepth 20000 in
theorem vc291 {l : Launch} {X : Nat × (Nat → Int32)} (d : Nat) : Vc l X U0 Pt0 1 (d + 3) Kc291 :=
  ckf (d := (d + 2)) (Ks := [Kc290]) (cy := 152) (cd := cdX7_beside) (nl := 4) (fuel := 1000) (Hs := [((4, 0), ([(0, (2, 0, 0, [150])), (1, (0, 1, 0, [])), (2, (0, 2, 0, [])), (3, (0, 3, 0, []))], [], [(0, 0), (iLo, iHi), (iLo, iHi), (0, 4)], []), [(0, 1, 0), (0, 2, 0), (0, 3, 0)], (8, [(3, (-2))]), [])]) (by decide +kernel) (by decide +kernel) (fun na b => by rw [← ceX7_beside]; exact tkX7_beside) (List.forall_mem_cons.mpr ⟨vc290 d, fun _ h => absurd h List.not_mem_nil⟩) (cpyX (d + 2)) (by decide +kernel)
noncomputable def Kc292 : Con := ((204, [(2, 0, 0, [150]), (0, iLo, iHi, []), (0, iLo, iHi, [])], []), [(150, 0, 0), (150, 11, 11), (150, 26, 26)], [(some (0, (-1), (-1), []), [], []), (some (0, iLo, iHi, []), [(1, 0, 19), (2, 0, 3)], []), (some (0, (-2), (-2), []), [(1, 0, 19), (2, 1, 1)], [])])
set_option maxRecDepth 20000 in
theorem vc292 {l : Launch} {X : Nat × (Nat → Int32)} (d : Nat) : Vc l X U0 Pt0 1 (d + 4) Kc292 :=
  ckf (d := (d + 3)) (Ks := [Kc270, Kc283, Kc273, Kc284, Kc285, Kc291]) (cy := 152) (cd := cdX7_cell) (nl := 3) (fuel := 1000) (Hs := []) (by decide +kernel) (by decide +kernel) (fun na b => by rw [← ceX7_cell]; exact tkX7_cell) (List.forall_mem_cons.mpr ⟨vc270 (d + 3), List.forall_mem_cons.mpr ⟨vc283 (d + 2), List.forall_mem_cons.mpr ⟨vc273 (d + 3), List.forall_mem_cons.mpr ⟨vc284 (d + 3), List.forall_mem_cons.mpr ⟨vc285 (d + 3), List.forall_mem_cons.mpr ⟨vc291 d, fun _ h => absurd h List.not_mem_nil⟩⟩⟩⟩⟩⟩) (cpyX (d + 3)) (by decide +kernel)
noncomputable def Kc293 : Con := ((205, [(2, 0, 0, [150])], []), [(150, 0, 0), (150, 11, 11)], [(some (0, iLo, iHi, []), [], [])])
set_option maxRecDepth 20000 in
theorem vc293 {l : Launch} {X : Nat × (Nat → Int32)} (d : Nat) : Vc l X U0 Pt0 1 (d + 1) Kc293 :=
  ckf (d := d) (Ks := [Kc270]) (cy := 152) (cd := cdX7_burden) (nl := 3) (fuel := 1000) (Hs := [((21, 0), ([(0, (2, 0, 0, [150])), (1, (0, 1, 0, [])), (2, (0, 2, 0, []))], [], [(0, 0), (iLo, iHi), (0, 6)], []), [(0, 1, 0), (0, 2, 0)], (12, [(2, (-2))]), [])]) (by decide +kernel) (by decide +kernel) (fun na b => by rw [← ceX7_burden]; exact tkX7_burden) (List.forall_mem_cons.mpr ⟨vc270 d, fun _ h => absurd h List.not_mem_nil⟩) (cpyX d) (by decide +kernel)
noncomputable def Kc294 : Con := ((149, [(0, iLo, iHi, []), (0, 0, 0, []), (0, 60, 60, [])], []), [], [(some (0, 0, 0, []), [], []), (some (0, 1, 1, []), [(0, 0, 60)], [])])
set_option maxRecDepth 20000 in
theorem vc294 {l : Launch} {X : Nat × (Nat → Int32)} (d : Nat) : Vc l X U0 Pt0 1 d Kc294 :=
  ckf (d := d) (Ks := []) (cy := 152) (cd := cdX7_in) (nl := 3) (fuel := 1000) (Hs := []) (by decide +kernel) (by decide +kernel) (fun na b => by rw [← ceX7_in]; exact tkX7_in) (fun _ h => absurd h List.not_mem_nil) (cpyX d) (by decide +kernel)
noncomputable def Kc295 : Con := ((190, [(2, 0, 0, [150]), (0, 0, 0, []), (0, 0, 0, [])], []), [], [(some (0, 1, 1, []), [], [])])
set_option maxRecDepth 20000 in
theorem vc295 {l : Launch} {X : Nat × (Nat → Int32)} (d : Nat) : Vc l X U0 Pt0 1 d Kc295 :=
  ckf (d := d) (Ks := []) (cy := 152) (cd := cdX7_why) (nl := 3) (fuel := 1000) (Hs := []) (by decide +kernel) (by decide +kernel) (fun na b => by rw [← ceX7_why]; exact tkX7_why) (fun _ h => absurd h List.not_mem_nil) (cpyX d) (by decide +kernel)
noncomputable def Kc296 : Con := ((190, [(2, 0, 0, [150]), (0, 0, 0, []), (0, 1, 1, [])], []), [], [(some (0, 1, 1, []), [], [])])
set_option maxRecDepth 20000 in
theorem vc296 {l : Launch} {X : Nat × (Nat → Int32)} (d : Nat) : Vc l X U0 Pt0 1 d Kc296 :=
  ckf (d := d) (Ks := []) (cy := 152) (cd := cdX7_why) (nl := 3) (fuel := 1000) (Hs := []) (by decide +kernel) (by decide +kernel) (fun na b => by rw [← ceX7_why]; exact tkX7_why) (fun _ h => absurd h List.not_mem_nil) (cpyX d) (by decide +kernel)
noncomputable def Kc297 : Con := ((206, [(2, 0, 0, [150]), (0, 0, 0, []), (0, 0, 0, []), (0, iLo, iHi, [])], []), [], [(some (0, 1, 1, []), [], [])])
set_option maxRecDepth 20000 in
theorem vc297 {l : Launch} {X : Nat × (Nat → Int32)} (d : Nat) : Vc l X U0 Pt0 1 (d + 1) Kc297 :=
  ckf (d := d) (Ks := [Kc294, Kc295, Kc296]) (cy := 152) (cd := cdX7_aheadWhy) (nl := 4) (fuel := 1000) (Hs := []) (by decide +kernel) (by decide +kernel) (fun na b => by rw [← ceX7_aheadWhy]; exact tkX7_aheadWhy) (List.forall_mem_cons.mpr ⟨vc294 d, List.forall_mem_cons.mpr ⟨vc295 d, List.forall_mem_cons.mpr ⟨vc296 d, fun _ h => absurd h List.not_mem_nil⟩⟩⟩) (cpyX d) (by decide +kernel)
noncomputable def Kc298 : Con := ((190, [(2, 0, 0, [150]), (0, 1, 1, []), (0, 0, 0, [])], []), [], [(some (0, 2, 2, []), [], [])])
set_option maxRecDepth 20000 in
theorem vc298 {l : Launch} {X : Nat × (Nat → Int32)} (d : Nat) : Vc l X U0 Pt0 1 d Kc298 :=
  ckf (d := d) (Ks := []) (cy := 152) (cd := cdX7_why) (nl := 3) (fuel := 1000) (Hs := []) (by decide +kernel) (by decide +kernel) (fun na b => by rw [← ceX7_why]; exact tkX7_why) (fun _ h => absurd h List.not_mem_nil) (cpyX d) (by decide +kernel)
noncomputable def Kc299 : Con := ((190, [(2, 0, 0, [150]), (0, 1, 1, []), (0, 1, 1, [])], []), [], [(some (0, 0, 0, []), [], [])])
set_option maxRecDepth 20000 in
theorem vc299 {l : Launch} {X : Nat × (Nat → Int32)} (d : Nat) : Vc l X U0 Pt0 1 d Kc299 :=
  ckf (d := d) (Ks := []) (cy := 152) (cd := cdX7_why) (nl := 3) (fuel := 1000) (Hs := []) (by decide +kernel) (by decide +kernel) (fun na b => by rw [← ceX7_why]; exact tkX7_why) (fun _ h => absurd h List.not_mem_nil) (cpyX d) (by decide +kernel)
noncomputable def Kc300 : Con := ((206, [(2, 0, 0, [150]), (0, 1, 1, []), (0, 0, 0, []), (0, iLo, iHi, [])], []), [], [(some (0, 2, 2, []), [], []), (some (0, 0, 0, []), [(3, 0, 60)], [])])
set_option maxRecDepth 20000 in
theorem vc300 {l : Launch} {X : Nat × (Nat → Int32)} (d : Nat) : Vc l X U0 Pt0 1 (d + 1) Kc300 :=
  ckf (d := d) (Ks := [Kc294, Kc298, Kc299]) (cy := 152) (cd := cdX7_aheadWhy) (nl := 4) (fuel := 1000) (Hs := []) (by decide +kernel) (by decide +kernel) (fun na b => by rw [← ceX7_aheadWhy]; exact tkX7_aheadWhy) (List.forall_mem_cons.mpr ⟨vc294 d, List.forall_mem_cons.mpr ⟨vc298 d, List.forall_mem_cons.mpr ⟨vc299 d, fun _ h => absurd h List.not_mem_nil⟩⟩⟩) (cpyX d) (by decide +kernel)
noncomputable def Kc301 : Con := ((191, [(2, 0, 0, [150]), (0, iLo, iHi, [])], []), [(160, 0, 4)], [(none, [], [])])
set_option maxRecDepth 20000 in
theorem vc301 {l : Launch} {X : Nat × (Nat → Int32)} (d : Nat) : Vc l X U0 Pt0 1 (d + 1) Kc301 :=
  ckf (d := d) (Ks := [Kc288]) (cy := 152) (cd := cdX7_vexedBy) (nl := 3) (fuel := 1000) (Hs := [((2, 0), ([(0, (2, 0, 0, [150])), (1, (0, 1, 0, [])), (2, (0, 2, 0, []))], [], [(0, 0), (iLo, iHi), (0, 5)], []), [(0, 1, 0), (0, 2, 0)], (31, [(2, (-3))]), []), ((37, 2), ([(0, (2, 0, 0, [150])), (1, (0, 1, 0, [])), (2, (0, 2, 0, []))], [], [(0, 0), (iLo, iHi), (0, 4)], []), [(0, 1, 0), (0, 2, 0)], (12, [(2, (-3))]), [])]) (by decide +kernel) (by decide +kernel) (fun na b => by rw [← ceX7_vexedBy]; exact tkX7_vexedBy) (List.forall_mem_cons.mpr ⟨vc288 d, fun _ h => absurd h List.not_mem_nil⟩) (cpyX d) (by decide +kernel)
noncomputable def Kc302 : Con := ((192, [(2, 0, 0, [150]), (2, 0, 0, [161]), (0, 0, 5, [])], []), [], [(some (0, iLo, iHi, []), [], [])])
set_option maxRecDepth 20000 in
theorem vc302 {l : Launch} {X : Nat × (Nat → Int32)} (d : Nat) : Vc l X U0 Pt0 1 d Kc302 :=
  ckf (d := d) (Ks := []) (cy := 152) (cd := cdX7_letsGo) (nl := 6) (fuel := 1000) (Hs := []) (by decide +kernel) (by decide +kernel) (fun na b => by rw [← ceX7_letsGo]; exact tkX7_letsGo) (fun _ h => absurd h List.not_mem_nil) (cpyX d) (by decide +kernel)
noncomputable def Kc303 : Con := ((193, [(2, 0, 0, [150]), (2, 0, 0, [161]), (0, iLo, iHi, [])], [(153, 5, (0, 0, 0, []))]), [(161, 0, 17), (161, 23, 24)], [(none, [], [])])
set_option maxRecDepth 20000 in
theorem vc303 {l : Launch} {X : Nat × (Nat → Int32)} (d : Nat) : Vc l X U0 Pt0 1 (d + 1) Kc303 :=
  ckf (d := d) (Ks := [Kc302]) (cy := 152) (cd := cdX7_dayOn) (nl := 5) (fuel := 1000) (Hs := [((15, 0), ([(0, (2, 0, 0, [150])), (1, (2, 0, 0, [161])), (2, (0, 1, 0, [])), (3, (0, 0, 0, []))], [], [(0, 0), (iLo, iHi), (0, 0)], [(153, 5, (0, 2, 0, []))]), [(0, 2, 0), (2, 153, 5)], (22, []), []), ((89, 0), ([(0, (2, 0, 0, [150])), (1, (2, 0, 0, [161])), (3, (0, 1, 0, []))], [], [(0, 0), (0, 6), (0, 0)], [(153, 5, (0, 2, 0, []))]), [(0, 3, 0), (2, 153, 5)], (18, [(1, (-3))]), [])]) (by decide +kernel) (by decide +kernel) (fun na b => by rw [← ceX7_dayOn]; exact tkX7_dayOn) (List.forall_mem_cons.mpr ⟨vc302 d, fun _ h => absurd h List.not_mem_nil⟩) (cpyX d) (by decide +kernel)
noncomputable def Kc304 : Con := ((193, [(2, 0, 0, [150]), (2, 0, 0, [161]), (0, iLo, iHi, [])], [(153, 5, (0, 1, 1, [])), (153, 36, (0, 1, 30, []))]), [(161, 0, 17), (161, 23, 24)], [(none, [], [])])
set_option maxRecDepth 20000 in
theorem vc304 {l : Launch} {X : Nat × (Nat → Int32)} (d : Nat) : Vc l X U0 Pt0 1 (d + 1) Kc304 :=
  ckf (d := d) (Ks := [Kc302]) (cy := 152) (cd := cdX7_dayOn) (nl := 5) (fuel := 1000) (Hs := [((15, 2), ([(0, (2, 0, 0, [150])), (1, (2, 0, 0, [161])), (2, (0, 1, 0, [])), (3, (0, 2, 0, []))], [], [(0, 0), (iLo, iHi), (0, 1), (1, 1), (1, 30)], [(153, 5, (0, 3, 0, [])), (153, 36, (0, 4, 0, []))]), [(0, 2, 0), (0, 3, 0), (2, 153, 5), (2, 153, 36)], (25, [(2, (-3))]), []), ((89, 0), ([(0, (2, 0, 0, [150])), (1, (2, 0, 0, [161])), (3, (0, 1, 0, []))], [], [(0, 0), (0, 6), (1, 1), (1, 30)], [(153, 5, (0, 2, 0, [])), (153, 36, (0, 3, 0, []))]), [(0, 3, 0), (2, 153, 5), (2, 153, 36)], (18, [(1, (-3))]), [])]) (by decide +kernel) (by decide +kernel) (fun na b => by rw [← ceX7_dayOn]; exact tkX7_dayOn) (List.forall_mem_cons.mpr ⟨vc302 d, fun _ h => absurd h List.not_mem_nil⟩) (cpyX d) (by decide +kernel)
noncomputable def Kc305 : Con := ((193, [(2, 0, 0, [150]), (2, 0, 0, [161]), (0, iLo, iHi, [])], [(153, 5, (0, 2, 2, [])), (153, 36, (0, 1, 30, [])), (153, 38, (0, 1, 30, []))]), [(161, 0, 17), (161, 23, 24)], [(none, [], [])])
set_option maxRecDepth 20000 in
theorem vc305 {l : Launch} {X : Nat × (Nat → Int32)} (d : Nat) : Vc l X U0 Pt0 1 (d + 1) Kc305 :=
  ckf (d := d) (Ks := [Kc302]) (cy := 152) (cd := cdX7_dayOn) (nl := 5) (fuel := 1000) (Hs := [((15, 2), ([(0, (2, 0, 0, [150])), (1, (2, 0, 0, [161])), (2, (0, 1, 0, [])), (3, (0, 2, 0, []))], [], [(0, 0), (iLo, iHi), (0, 2), (2, 2), (1, 30), (1, 30)], [(153, 5, (0, 3, 0, [])), (153, 36, (0, 4, 0, [])), (153, 38, (0, 5, 0, []))]), [(0, 2, 0), (0, 3, 0), (2, 153, 5), (2, 153, 36), (2, 153, 38)], (28, [(2, (-3))]), []), ((89, 0), ([(0, (2, 0, 0, [150])), (1, (2, 0, 0, [161])), (3, (0, 1, 0, []))], [], [(0, 0), (0, 6), (2, 2), (1, 30), (1, 30)], [(153, 5, (0, 2, 0, [])), (153, 36, (0, 3, 0, [])), (153, 38, (0, 4, 0, []))]), [(0, 3, 0), (2, 153, 5), (2, 153, 36), (2, 153, 38)], (18, [(1, (-3))]), [])]) (by decide +kernel) (by decide +kernel) (fun na b => by rw [← ceX7_dayOn]; exact tkX7_dayOn) (List.forall_mem_cons.mpr ⟨vc302 d, fun _ h => absurd h List.not_mem_nil⟩) (cpyX d) (by decide +kernel)
noncomputable def Kc306 : Con := ((193, [(2, 0, 0, [150]), (2, 0, 0, [161]), (0, iLo, iHi, [])], [(153, 5, (0, 3, 3, [])), (153, 36, (0, 1, 30, [])), (153, 38, (0, 1, 30, [])), (153, 40, (0, 1, 30, []))]), [(161, 0, 17), (161, 23, 24)], [(none, [], [])])
set_option maxRecDepth 20000 in
theorem vc306 {l : Launch} {X : Nat × (Nat → Int32)} (d : Nat) : Vc l X U0 Pt0 1 (d + 1) Kc306 :=
  ckf (d := d) (Ks := [Kc302]) (cy := 152) (cd := cdX7_dayOn) (nl := 5) (fuel := 1000) (Hs := [((15, 2), ([(0, (2, 0, 0, [150])), (1, (2, 0, 0, [161])), (2, (0, 1, 0, [])), (3, (0, 2, 0, []))], [], [(0, 0), (iLo, iHi), (0, 3), (3, 3), (1, 30), (1, 30), (1, 30)], [(153, 5, (0, 3, 0, [])), (153, 36, (0, 4, 0, [])), (153, 38, (0, 5, 0, [])), (153, 40, (0, 6, 0, []))]), [(0, 2, 0), (0, 3, 0), (2, 153, 5), (2, 153, 36), (2, 153, 38), (2, 153, 40)], (31, [(2, (-3))]), []), ((89, 0), ([(0, (2, 0, 0, [150])), (1, (2, 0, 0, [161])), (3, (0, 1, 0, []))], [], [(0, 0), (0, 6), (3, 3), (1, 30), (1, 30), (1, 30)], [(153, 5, (0, 2, 0, [])), (153, 36, (0, 3, 0, [])), (153, 38, (0, 4, 0, [])), (153, 40, (0, 5, 0, []))]), [(0, 3, 0), (2, 153, 5), (2, 153, 36), (2, 153, 38), (2, 153, 40)], (18, [(1, (-3))]), [])]) (by decide +kernel) (by decide +kernel) (fun na b => by rw [← ceX7_dayOn]; exact tkX7_dayOn) (List.forall_mem_cons.mpr ⟨vc302 d, fun _ h => absurd h List.not_mem_nil⟩) (cpyX d) (by decide +kernel)
noncomputable def Kc307 : Con := ((193, [(2, 0, 0, [150]), (2, 0, 0, [161]), (0, iLo, iHi, [])], [(153, 5, (0, 4, 4, [])), (153, 36, (0, 1, 30, [])), (153, 38, (0, 1, 30, [])), (153, 40, (0, 1, 30, [])), (153, 42, (0, 1, 30, []))]), [(161, 0, 17), (161, 23, 24)], [(none, [], [])])
set_option maxRecDepth 20000 in
theorem vc307 {l : Launch} {X : Nat × (Nat → Int32)} (d : Nat) : Vc l X U0 Pt0 1 (d + 1) Kc307 :=
  ckf (d := d) (Ks := [Kc302]) (cy := 152) (cd := cdX7_dayOn) (nl := 5) (fuel := 1000) (Hs := [((15, 2), ([(0, (2, 0, 0, [150])), (1, (2, 0, 0, [161])), (2, (0, 1, 0, [])), (3, (0, 2, 0, []))], [], [(0, 0), (iLo, iHi), (0, 4), (4, 4), (1, 30), (1, 30), (1, 30), (1, 30)], [(153, 5, (0, 3, 0, [])), (153, 36, (0, 4, 0, [])), (153, 38, (0, 5, 0, [])), (153, 40, (0, 6, 0, [])), (153, 42, (0, 7, 0, []))]), [(0, 2, 0), (0, 3, 0), (2, 153, 5), (2, 153, 36), (2, 153, 38), (2, 153, 40), (2, 153, 42)], (34, [(2, (-3))]), []), ((89, 0), ([(0, (2, 0, 0, [150])), (1, (2, 0, 0, [161])), (3, (0, 1, 0, []))], [], [(0, 0), (0, 6), (4, 4), (1, 30), (1, 30), (1, 30), (1, 30)], [(153, 5, (0, 2, 0, [])), (153, 36, (0, 3, 0, [])), (153, 38, (0, 4, 0, [])), (153, 40, (0, 5, 0, [])), (153, 42, (0, 6, 0, []))]), [(0, 3, 0), (2, 153, 5), (2, 153, 36), (2, 153, 38), (2, 153, 40), (2, 153, 42)], (18, [(1, (-3))]), [])]) (by decide +kernel) (by decide +kernel) (fun na b => by rw [← ceX7_dayOn]; exact tkX7_dayOn) (List.forall_mem_cons.mpr ⟨vc302 d, fun _ h => absurd h List.not_mem_nil⟩) (cpyX d) (by decide +kernel)
noncomputable def Kc308 : Con := ((193, [(2, 0, 0, [150]), (2, 0, 0, [161]), (0, iLo, iHi, [])], [(153, 5, (0, 5, 5, [])), (153, 36, (0, 1, 30, [])), (153, 38, (0, 1, 30, [])), (153, 40, (0, 1, 30, [])), (153, 42, (0, 1, 30, [])), (153, 44, (0, 1, 30, []))]), [(161, 0, 17), (161, 23, 24)], [(none, [], [])])
set_option maxRecDepth 20000 in
theorem vc308 {l : Launch} {X : Nat × (Nat → Int32)} (d : Nat) : Vc l X U0 Pt0 1 (d + 1) Kc308 :=
  ckf (d := d) (Ks := [Kc302]) (cy := 152) (cd := cdX7_dayOn) (nl := 5) (fuel := 1000) (Hs := [((15, 2), ([(0, (2, 0, 0, [150])), (1, (2, 0, 0, [161])), (2, (0, 1, 0, [])), (3, (0, 2, 0, []))], [], [(0, 0), (iLo, iHi), (0, 5), (5, 5), (1, 30), (1, 30), (1, 30), (1, 30), (1, 30)], [(153, 5, (0, 3, 0, [])), (153, 36, (0, 4, 0, [])), (153, 38, (0, 5, 0, [])), (153, 40, (0, 6, 0, [])), (153, 42, (0, 7, 0, [])), (153, 44, (0, 8, 0, []))]), [(0, 2, 0), (0, 3, 0), (2, 153, 5), (2, 153, 36), (2, 153, 38), (2, 153, 40), (2, 153, 42), (2, 153, 44)], (37, [(2, (-3))]), []), ((89, 0), ([(0, (2, 0, 0, [150])), (1, (2, 0, 0, [161])), (3, (0, 1, 0, []))], [], [(0, 0), (0, 6), (5, 5), (1, 30), (1, 30), (1, 30), (1, 30), (1, 30)], [(153, 5, (0, 2, 0, [])), (153, 36, (0, 3, 0, [])), (153, 38, (0, 4, 0, [])), (153, 40, (0, 5, 0, [])), (153, 42, (0, 6, 0, [])), (153, 44, (0, 7, 0, []))]), [(0, 3, 0), (2, 153, 5), (2, 153, 36), (2, 153, 38), (2, 153, 40), (2, 153, 42), (2, 153, 44)], (18, [(1, (-3))]), [])]) (by decide +kernel) (by decide +kernel) (fun na b => by rw [← ceX7_dayOn]; exact tkX7_dayOn) (List.forall_mem_cons.mpr ⟨vc302 d, fun _ h => absurd h List.not_mem_nil⟩) (cpyX d) (by decide +kernel)
noncomputable def Kc309 : Con := ((193, [(2, 0, 0, [150]), (2, 0, 0, [161]), (0, iLo, iHi, [])], []), [(161, 0, 17), (161, 23, 24)], [(none, [], [])])
set_option maxRecDepth 20000 in
theorem vc309 {l : Launch} {X : Nat × (Nat → Int32)} (d : Nat) : Vc l X U0 Pt0 1 (d + 1) Kc309 := byC dfC dfC_ok (fun C hC => by
  rcases (show C = 0 ∨ C = 1 ∨ C = 2 ∨ C = 3 ∨ C = 4 ∨ C = 5 by omega) with rfl | rfl | rfl | rfl | rfl | rfl
  · exact ⟨_, vc303 d, by decide⟩
  · exact ⟨_, vc304 d, by decide⟩
  · exact ⟨_, vc305 d, by decide⟩
  · exact ⟨_, vc306 d, by decide⟩
  · exact ⟨_, vc307 d, by decide⟩
  · exact ⟨_, vc308 d, by decide⟩)
noncomputable def Kc310 : Con := ((194, [(2, 0, 0, [150]), (0, iLo, iHi, [])], []), [(160, 0, 4), (161, 0, 24)], [(none, [], [])])
set_option maxRecDepth 20000 in
theorem vc310 {l : Launch} {X : Nat × (Nat → Int32)} (d : Nat) : Vc l X U0 Pt0 1 (d + 2) Kc310 :=
  ckf (d := (d + 1)) (Ks := [Kc301, Kc309]) (cy := 152) (cd := cdX7_daysOn) (nl := 3) (fuel := 1000) (Hs := [((22, 0), ([(0, (2, 0, 0, [150])), (1, (0, 1, 0, [])), (2, (0, 2, 0, []))], [], [(0, 0), (iLo, iHi), (0, iHi)], []), [(0, 1, 0), (0, 2, 0)], (4294967294, [(2, (-2))]), [])]) (by decide +kernel) (by decide +kernel) (fun na b => by rw [← ceX7_daysOn]; exact tkX7_daysOn) (List.forall_mem_cons.mpr ⟨vc301 d, List.forall_mem_cons.mpr ⟨vc309 d, fun _ h => absurd h List.not_mem_nil⟩⟩) (cpyX (d + 1)) (by decide +kernel)
noncomputable def Kc311 : Con := ((207, [(2, 0, 0, [150]), (0, iLo, iHi, []), (0, iLo, iHi, [])], []), [(150, 0, 0), (150, 11, 11), (160, 0, 4), (161, 0, 24)], [(some (0, (-1), (-1), []), [], []), (some (0, iLo, iHi, []), [(1, 0, 5), (2, 0, 60)], [])])
set_option maxRecDepth 20000 in
theorem vc311 {l : Launch} {X : Nat × (Nat → Int32)} (d : Nat) : Vc l X U0 Pt0 1 (d + 3) Kc311 :=
  ckf (d := (d + 2)) (Ks := [Kc270, Kc272, Kc297, Kc273, Kc300, Kc310]) (cy := 152) (cd := cdX7_bears) (nl := 4) (fuel := 1000) (Hs := []) (by decide +kernel) (by decide +kernel) (fun na b => by rw [← ceX7_bears]; exact tkX7_bears) (List.forall_mem_cons.mpr ⟨vc270 (d + 2), List.forall_mem_cons.mpr ⟨vc272 (d + 1), List.forall_mem_cons.mpr ⟨vc297 (d + 1), List.forall_mem_cons.mpr ⟨vc273 (d + 2), List.forall_mem_cons.mpr ⟨vc300 (d + 1), List.forall_mem_cons.mpr ⟨vc310 d, fun _ h => absurd h List.not_mem_nil⟩⟩⟩⟩⟩⟩) (cpyX (d + 2)) (by decide +kernel)
noncomputable def Kc312 : Con := ((208, [(2, 0, 0, [150]), (0, iLo, iHi, []), (0, iLo, iHi, [])], []), [(150, 0, 0), (150, 11, 11), (160, 0, 4), (161, 0, 24)], [(some (0, (-1), (-1), []), [], []), (some (0, iLo, iHi, []), [(1, 0, 5), (2, 0, 60)], [])])
set_option maxRecDepth 20000 in
theorem vc312 {l : Launch} {X : Nat × (Nat → Int32)} (d : Nat) : Vc l X U0 Pt0 1 (d + 3) Kc312 :=
  ckf (d := (d + 2)) (Ks := [Kc270, Kc272, Kc297, Kc273, Kc300, Kc310]) (cy := 152) (cd := cdX7_holds) (nl := 4) (fuel := 1000) (Hs := []) (by decide +kernel) (by decide +kernel) (fun na b => by rw [← ceX7_holds]; exact tkX7_holds) (List.forall_mem_cons.mpr ⟨vc270 (d + 2), List.forall_mem_cons.mpr ⟨vc272 (d + 1), List.forall_mem_cons.mpr ⟨vc297 (d + 1), List.forall_mem_cons.mpr ⟨vc273 (d + 2), List.forall_mem_cons.mpr ⟨vc300 (d + 1), List.forall_mem_cons.mpr ⟨vc310 d, fun _ h => absurd h List.not_mem_nil⟩⟩⟩⟩⟩⟩) (cpyX (d + 2)) (by decide +kernel)
noncomputable def Kc313 : Con := ((209, [(2, 0, 0, [150]), (0, iLo, iHi, []), (0, iLo, iHi, [])], []), [(150, 0, 0), (150, 11, 11), (160, 0, 4), (161, 0, 24)], [(some (0, (-1), (-1), []), [], []), (some (0, iLo, iHi, []), [(1, 0, 5), (2, 0, 60)], [])])
set_option maxRecDepth 20000 in
theorem vc313 {l : Launch} {X : Nat × (Nat → Int32)} (d : Nat) : Vc l X U0 Pt0 1 (d + 3) Kc313 :=
  ckf (d := (d + 2)) (Ks := [Kc270, Kc272, Kc297, Kc273, Kc300, Kc310]) (cy := 152) (cd := cdX7_drops) (nl := 4) (fuel := 1000) (Hs := []) (by decide +kernel) (by decide +kernel) (fun na b => by rw [← ceX7_drops]; exact tkX7_drops) (List.forall_mem_cons.mpr ⟨vc270 (d + 2), List.forall_mem_cons.mpr ⟨vc272 (d + 1), List.forall_mem_cons.mpr ⟨vc297 (d + 1), List.forall_mem_cons.mpr ⟨vc273 (d + 2), List.forall_mem_cons.mpr ⟨vc300 (d + 1), List.forall_mem_cons.mpr ⟨vc310 d, fun _ h => absurd h List.not_mem_nil⟩⟩⟩⟩⟩⟩) (cpyX (d + 2)) (by decide +kernel)
noncomputable def Kc314 : Con := ((210, [(2, 0, 0, [150]), (0, iLo, iHi, [])], []), [(150, 0, 0), (150, 11, 11), (160, 0, 4), (161, 0, 24)], [(some (0, (-1), (-1), []), [], []), (some (0, (-2), (-2), []), [], []), (some (0, 1, 60, []), [], [])])
set_option maxRecDepth 20000 in
theorem vc314 {l : Launch} {X : Nat × (Nat → Int32)} (d : Nat) : Vc l X U0 Pt0 1 (d + 3) Kc314 :=
  ckf (d := (d + 2)) (Ks := [Kc270, Kc272, Kc273, Kc310, Kc309]) (cy := 152) (cd := cdX7_dropsIn) (nl := 3) (fuel := 1000) (Hs := [((25, 0), ([(0, (2, 0, 0, [150])), (1, (0, 1, 0, [])), (2, (0, 2, 0, []))], [], [(0, 0), (0, 5), (1, 61)], []), [(0, 1, 0), (0, 2, 0)], (122, [(2, (-2))]), [])]) (by decide +kernel) (by decide +kernel) (fun na b => by rw [← ceX7_dropsIn]; exact tkX7_dropsIn) (List.forall_mem_cons.mpr ⟨vc270 (d + 2), List.forall_mem_cons.mpr ⟨vc272 (d + 1), List.forall_mem_cons.mpr ⟨vc273 (d + 2), List.forall_mem_cons.mpr ⟨vc310 d, List.forall_mem_cons.mpr ⟨vc309 (d + 1), fun _ h => absurd h List.not_mem_nil⟩⟩⟩⟩⟩) (cpyX (d + 2)) (by decide +kernel)
noncomputable def Kc315 : Con := ((211, [(2, 0, 0, [150]), (0, iLo, iHi, [])], []), [(150, 0, 0), (150, 11, 11), (160, 0, 4), (161, 0, 24)], [(some (0, (-1), (-1), []), [], []), (some (0, (-2), (-2), []), [], []), (some (0, 0, 60, []), [], [])])
set_option maxRecDepth 20000 in
theorem vc315 {l : Launch} {X : Nat × (Nat → Int32)} (d : Nat) : Vc l X U0 Pt0 1 (d + 3) Kc315 :=
  ckf (d := (d + 2)) (Ks := [Kc270, Kc272, Kc273, Kc310, Kc309]) (cy := 152) (cd := cdX7_fallsIn) (nl := 3) (fuel := 1000) (Hs := [((25, 0), ([(0, (2, 0, 0, [150])), (1, (0, 1, 0, [])), (2, (0, 2, 0, []))], [], [(0, 0), (0, 5), (0, 61)], []), [(0, 1, 0), (0, 2, 0)], (122, [(2, (-2))]), [])]) (by decide +kernel) (by decide +kernel) (fun na b => by rw [← ceX7_fallsIn]; exact tkX7_fallsIn) (List.forall_mem_cons.mpr ⟨vc270 (d + 2), List.forall_mem_cons.mpr ⟨vc272 (d + 1), List.forall_mem_cons.mpr ⟨vc273 (d + 2), List.forall_mem_cons.mpr ⟨vc310 d, List.forall_mem_cons.mpr ⟨vc309 (d + 1), fun _ h => absurd h List.not_mem_nil⟩⟩⟩⟩⟩) (cpyX (d + 2)) (by decide +kernel)
noncomputable def Kc316 : Con := ((149, [(0, iLo, iHi, []), (0, 1, 1, []), (0, 60, 60, [])], []), [], [(some (0, 0, 0, []), [], []), (some (0, 1, 1, []), [(0, 1, 60)], [])])
set_option maxRecDepth 20000 in
theorem vc316 {l : Launch} {X : Nat × (Nat → Int32)} (d : Nat) : Vc l X U0 Pt0 1 d Kc316 :=
  ckf (d := d) (Ks := []) (cy := 152) (cd := cdX7_in) (nl := 3) (fuel := 1000) (Hs := []) (by decide +kernel) (by decide +kernel) (fun na b => by rw [← ceX7_in]; exact tkX7_in) (fun _ h => absurd h List.not_mem_nil) (cpyX d) (by decide +kernel)
noncomputable def Kc317 : Con := ((206, [(2, 0, 0, [150]), (0, 1, 1, []), (0, 1, 1, []), (0, iLo, iHi, [])], []), [], [(some (0, 2, 2, []), [], []), (some (0, 0, 0, []), [(3, 1, 60)], [])])
set_option maxRecDepth 20000 in
theorem vc317 {l : Launch} {X : Nat × (Nat → Int32)} (d : Nat) : Vc l X U0 Pt0 1 (d + 1) Kc317 :=
  ckf (d := d) (Ks := [Kc316, Kc298, Kc299]) (cy := 152) (cd := cdX7_aheadWhy) (nl := 4) (fuel := 1000) (Hs := []) (by decide +kernel) (by decide +kernel) (fun na b => by rw [← ceX7_aheadWhy]; exact tkX7_aheadWhy) (List.forall_mem_cons.mpr ⟨vc316 d, List.forall_mem_cons.mpr ⟨vc298 d, List.forall_mem_cons.mpr ⟨vc299 d, fun _ h => absurd h List.not_mem_nil⟩⟩⟩) (cpyX d) (by decide +kernel)
noncomputable def Kc318 : Con := ((212, [(2, 0, 0, [150]), (0, iLo, iHi, [])], []), [(150, 0, 0), (150, 11, 11), (160, 0, 4), (161, 0, 24)], [(some (0, (-1), (-1), []), [], []), (some (0, iLo, iHi, []), [(1, 1, 60)], [])])
set_option maxRecDepth 20000 in
theorem vc318 {l : Launch} {X : Nat × (Nat → Int32)} (d : Nat) : Vc l X U0 Pt0 1 (d + 3) Kc318 :=
  ckf (d := (d + 2)) (Ks := [Kc270, Kc317, Kc273, Kc310]) (cy := 152) (cd := cdX7_wet) (nl := 3) (fuel := 1000) (Hs := []) (by decide +kernel) (by decide +kernel) (fun na b => by rw [← ceX7_wet]; exact tkX7_wet) (List.forall_mem_cons.mpr ⟨vc270 (d + 2), List.forall_mem_cons.mpr ⟨vc317 (d + 1), List.forall_mem_cons.mpr ⟨vc273 (d + 2), List.forall_mem_cons.mpr ⟨vc310 d, fun _ h => absurd h List.not_mem_nil⟩⟩⟩⟩) (cpyX (d + 2)) (by decide +kernel)
noncomputable def Kc319 : Con := ((213, [(2, 0, 0, [150]), (0, 0, 19, []), (0, 0, 60, [])], []), [(160, 0, 4), (161, 0, 24)], [(some (0, iLo, iHi, []), [], [])])
set_option maxRecDepth 20000 in
theorem vc319 {l : Launch} {X : Nat × (Nat → Int32)} (d : Nat) : Vc l X U0 Pt0 1 (d + 3) Kc319 :=
  ckf (d := (d + 2)) (Ks := [Kc310, Kc309]) (cy := 152) (cd := cdX7_wetOften) (nl := 5) (fuel := 1000) (Hs := [((10, 0), ([(0, (2, 0, 0, [150])), (1, (0, 1, 0, [])), (2, (0, 2, 0, [])), (3, (0, 3, 0, [])), (4, (0, 4, 0, []))], [], [(0, 0), (0, 19), (0, 60), (iLo, iHi), (1, 61)], []), [(0, 1, 0), (0, 2, 0), (0, 3, 0), (0, 4, 0)], (122, [(4, (-2))]), [])]) (by decide +kernel) (by decide +kernel) (fun na b => by rw [← ceX7_wetOften]; exact tkX7_wetOften) (List.forall_mem_cons.mpr ⟨vc310 d, List.forall_mem_cons.mpr ⟨vc309 (d + 1), fun _ h => absurd h List.not_mem_nil⟩⟩) (cpyX (d + 2)) (by decide +kernel)
noncomputable def Kc320 : Con := ((214, [(2, 0, 0, [150]), (0, iLo, iHi, []), (0, iLo, iHi, [])], []), [(150, 0, 0), (150, 11, 11), (160, 0, 4), (161, 0, 24)], [(some (0, (-1), (-1), []), [], []), (some (0, iLo, iHi, []), [(1, 0, 19), (2, 0, 60)], [])])
set_option maxRecDepth 20000 in
theorem vc320 {l : Launch} {X : Nat × (Nat → Int32)} (d : Nat) : Vc l X U0 Pt0 1 (d + 4) Kc320 :=
  ckf (d := (d + 3)) (Ks := [Kc270, Kc283, Kc297, Kc273, Kc300, Kc319]) (cy := 152) (cd := cdX7_wetDays) (nl := 4) (fuel := 1000) (Hs := []) (by decide +kernel) (by decide +kernel) (fun na b => by rw [← ceX7_wetDays]; exact tkX7_wetDays) (List.forall_mem_cons.mpr ⟨vc270 (d + 3), List.forall_mem_cons.mpr ⟨vc283 (d + 2), List.forall_mem_cons.mpr ⟨vc297 (d + 2), List.forall_mem_cons.mpr ⟨vc273 (d + 3), List.forall_mem_cons.mpr ⟨vc300 (d + 2), List.forall_mem_cons.mpr ⟨vc319 d, fun _ h => absurd h List.not_mem_nil⟩⟩⟩⟩⟩⟩) (cpyX (d + 3)) (by decide +kernel)
noncomputable def Kc321 : Con := ((213, [(2, 0, 0, [150]), (0, 0, 0, []), (0, 60, 60, [])], []), [(160, 0, 4), (161, 0, 24)], [(some (0, iLo, iHi, []), [], [])])
set_option maxRecDepth 20000 in
theorem vc321 {l : Launch} {X : Nat × (Nat → Int32)} (d : Nat) : Vc l X U0 Pt0 1 (d + 3) Kc321 :=
  ckf (d := (d + 2)) (Ks := [Kc310, Kc309]) (cy := 152) (cd := cdX7_wetOften) (nl := 5) (fuel := 1000) (Hs := [((10, 0), ([(0, (2, 0, 0, [150])), (1, (0, 1, 0, [])), (2, (0, 2, 0, [])), (3, (0, 3, 0, [])), (4, (0, 4, 0, []))], [], [(0, 0), (0, 0), (60, 60), (iLo, iHi), (1, 61)], []), [(0, 1, 0), (0, 2, 0), (0, 3, 0), (0, 4, 0)], (122, [(4, (-2))]), [])]) (by decide +kernel) (by decide +kernel) (fun na b => by rw [← ceX7_wetOften]; exact tkX7_wetOften) (List.forall_mem_cons.mpr ⟨vc310 d, List.forall_mem_cons.mpr ⟨vc309 (d + 1), fun _ h => absurd h List.not_mem_nil⟩⟩) (cpyX (d + 2)) (by decide +kernel)
noncomputable def Kc322 : Con := ((213, [(2, 0, 0, [150]), (0, 1, 19, []), (0, 60, 60, [])], []), [(160, 0, 4), (161, 0, 24)], [(some (0, iLo, iHi, []), [], [])])
set_option maxRecDepth 20000 in
theorem vc322 {l : Launch} {X : Nat × (Nat → Int32)} (d : Nat) : Vc l X U0 Pt0 1 (d + 3) Kc322 :=
  ckf (d := (d + 2)) (Ks := [Kc310, Kc309]) (cy := 152) (cd := cdX7_wetOften) (nl := 5) (fuel := 1000) (Hs := [((10, 0), ([(0, (2, 0, 0, [150])), (1, (0, 1, 0, [])), (2, (0, 2, 0, [])), (3, (0, 3, 0, [])), (4, (0, 4, 0, []))], [], [(0, 0), (1, 19), (60, 60), (iLo, iHi), (1, 61)], []), [(0, 1, 0), (0, 2, 0), (0, 3, 0), (0, 4, 0)], (122, [(4, (-2))]), [])]) (by decide +kernel) (by decide +kernel) (fun na b => by rw [← ceX7_wetOften]; exact tkX7_wetOften) (List.forall_mem_cons.mpr ⟨vc310 d, List.forall_mem_cons.mpr ⟨vc309 (d + 1), fun _ h => absurd h List.not_mem_nil⟩⟩) (cpyX (d + 2)) (by decide +kernel)
noncomputable def Kc323 : Con := ((215, [(2, 0, 0, [150])], []), [(150, 0, 0), (150, 11, 11), (160, 0, 4), (161, 0, 24)], [(some (0, 0, 19, []), [], [])])
set_option maxRecDepth 20000 in
theorem vc323 {l : Launch} {X : Nat × (Nat → Int32)} (d : Nat) : Vc l X U0 Pt0 1 (d + 4) Kc323 :=
  ckf (d := (d + 3)) (Ks := [Kc270, Kc321, Kc281, Kc322]) (cy := 152) (cd := cdX7_wettest) (nl := 5) (fuel := 1000) (Hs := [((29, 0), ([(0, (2, 0, 0, [150])), (1, (0, 1, 0, [])), (2, (0, 2, 0, [])), (3, (0, 3, 0, []))], [], [(0, 0), (0, 19), (iLo, iHi), (1, 20)], []), [(0, 1, 0), (0, 2, 0), (0, 3, 0)], (40, [(3, (-2))]), [])]) (by decide +kernel) (by decide +kernel) (fun na b => by rw [← ceX7_wettest]; exact tkX7_wettest) (List.forall_mem_cons.mpr ⟨vc270 (d + 3), List.forall_mem_cons.mpr ⟨vc321 d, List.forall_mem_cons.mpr ⟨vc281 (d + 3), List.forall_mem_cons.mpr ⟨vc322 d, fun _ h => absurd h List.not_mem_nil⟩⟩⟩⟩) (cpyX (d + 3)) (by decide +kernel)
noncomputable def Kc324 : Con := ((216, [(2, 0, 0, [150])], []), [(150, 0, 0), (150, 11, 11), (160, 0, 4), (161, 0, 24)], [(some (0, (-2), (-2), []), [], []), (some (0, 1, 60, []), [], [])])
set_option maxRecDepth 20000 in
theorem vc324 {l : Launch} {X : Nat × (Nat → Int32)} (d : Nat) : Vc l X U0 Pt0 1 (d + 3) Kc324 :=
  ckf (d := (d + 2)) (Ks := [Kc270, Kc310, Kc309]) (cy := 152) (cd := cdX7_sunny) (nl := 2) (fuel := 1000) (Hs := [((24, 0), ([(0, (2, 0, 0, [150])), (1, (0, 1, 0, []))], [], [(0, 0), (1, 61)], []), [(0, 1, 0)], (122, [(1, (-2))]), [])]) (by decide +kernel) (by decide +kernel) (fun na b => by rw [← ceX7_sunny]; exact tkX7_sunny) (List.forall_mem_cons.mpr ⟨vc270 (d + 2), List.forall_mem_cons.mpr ⟨vc310 d, List.forall_mem_cons.mpr ⟨vc309 (d + 1), fun _ h => absurd h List.not_mem_nil⟩⟩⟩) (cpyX (d + 2)) (by decide +kernel)
noncomputable def Kc325 : Con := ((217, [(2, 0, 0, [150])], []), [(150, 0, 0), (150, 11, 11), (160, 0, 4), (161, 0, 24)], [(some (0, iLo, iHi, []), [], [])])
set_option maxRecDepth 20000 in
theorem vc325 {l : Launch} {X : Nat × (Nat → Int32)} (d : Nat) : Vc l X U0 Pt0 1 (d + 3) Kc325 :=
  ckf (d := (d + 2)) (Ks := [Kc270, Kc310, Kc309]) (cy := 152) (cd := cdX7_heaviest) (nl := 4) (fuel := 1000) (Hs := [((26, 0), ([(0, (2, 0, 0, [150])), (1, (0, 1, 0, [])), (2, (0, 2, 0, []))], [], [(0, 0), (iLo, iHi), (1, 61)], []), [(0, 1, 0), (0, 2, 0)], (1486, [(2, (-24))]), []), ((43, 0), ([(0, (2, 0, 0, [150])), (1, (0, 1, 0, [])), (2, (0, 2, 0, [])), (3, (0, 3, 0, []))], [], [(0, 0), (iLo, iHi), (1, 60), (0, 6)], []), [(0, 1, 0), (0, 2, 0), (0, 3, 0)], (1482, [(2, (-24)), (3, (-3))]), [])]) (by decide +kernel) (by decide +kernel) (fun na b => by rw [← ceX7_heaviest]; exact tkX7_heaviest) (List.forall_mem_cons.mpr ⟨vc270 (d + 2), List.forall_mem_cons.mpr ⟨vc310 d, List.forall_mem_cons.mpr ⟨vc309 (d + 1), fun _ h => absurd h List.not_mem_nil⟩⟩⟩) (cpyX (d + 2)) (by decide +kernel)
noncomputable def Kc326 : Con := ((196, [(2, 0, 0, [150]), (2, 0, 0, [161])], []), [], [(some (0, iLo, iHi, []), [], [])])
set_option maxRecDepth 20000 in
theorem vc326 {l : Launch} {X : Nat × (Nat → Int32)} (d : Nat) : Vc l X U0 Pt0 1 d Kc326 :=
  ckf (d := d) (Ks := []) (cy := 152) (cd := cdX7_fallenOn) (nl := 4) (fuel := 1000) (Hs := [((4, 0), ([(0, (2, 0, 0, [150])), (1, (2, 0, 0, [161])), (2, (0, 1, 0, [])), (3, (0, 2, 0, []))], [], [(0, 0), (iLo, iHi), (0, 6)], []), [(0, 2, 0), (0, 3, 0)], (12, [(2, (-2))]), [])]) (by decide +kernel) (by decide +kernel) (fun na b => by rw [← ceX7_fallenOn]; exact tkX7_fallenOn) (fun _ h => absurd h List.not_mem_nil) (cpyX d) (by decide +kernel)
noncomputable def Kc327 : Con := ((218, [(2, 0, 0, [150]), (0, iLo, iHi, [])], []), [(150, 0, 0), (150, 11, 11), (160, 0, 4), (161, 0, 24)], [(some (0, (-1), (-1), []), [], []), (some (0, iLo, iHi, []), [(1, 0, 60)], [])])
set_option maxRecDepth 20000 in
theorem vc327 {l : Launch} {X : Nat × (Nat → Int32)} (d : Nat) : Vc l X U0 Pt0 1 (d + 3) Kc327 :=
  ckf (d := (d + 2)) (Ks := [Kc270, Kc300, Kc273, Kc310, Kc326]) (cy := 152) (cd := cdX7_fallen) (nl := 3) (fuel := 1000) (Hs := []) (by decide +kernel) (by decide +kernel) (fun na b => by rw [← ceX7_fallen]; exact tkX7_fallen) (List.forall_mem_cons.mpr ⟨vc270 (d + 2), List.forall_mem_cons.mpr ⟨vc300 (d + 1), List.forall_mem_cons.mpr ⟨vc273 (d + 2), List.forall_mem_cons.mpr ⟨vc310 d, List.forall_mem_cons.mpr ⟨vc326 (d + 2), fun _ h => absurd h List.not_mem_nil⟩⟩⟩⟩⟩) (cpyX (d + 2)) (by decide +kernel)
noncomputable def Kc328 : Con := ((149, [(0, iLo, iHi, []), (0, 1, 1, []), (0, 30, 30, [])], []), [], [(some (0, 0, 0, []), [], []), (some (0, 1, 1, []), [(0, 1, 30)], [])])
set_option maxRecDepth 20000 in
theorem vc328 {l : Launch} {X : Nat × (Nat → Int32)} (d : Nat) : Vc l X U0 Pt0 1 d Kc328 :=
  ckf (d := d) (Ks := []) (cy := 152) (cd := cdX7_in) (nl := 3) (fuel := 1000) (Hs := []) (by decide +kernel) (by decide +kernel) (fun na b => by rw [← ceX7_in]; exact tkX7_in) (fun _ h => absurd h List.not_mem_nil) (cpyX d) (by decide +kernel)
noncomputable def Kc329 : Con := ((222, [(2, 0, 0, [150]), (0, 0, 0, []), (0, iLo, iHi, [])], []), [], [(some (0, 1, 1, []), [], [])])
set_option maxRecDepth 20000 in
theorem vc329 {l : Launch} {X : Nat × (Nat → Int32)} (d : Nat) : Vc l X U0 Pt0 1 (d + 1) Kc329 :=
  ckf (d := d) (Ks := [Kc328, Kc295, Kc296]) (cy := 152) (cd := cdX7_planWhy) (nl := 3) (fuel := 1000) (Hs := []) (by decide +kernel) (by decide +kernel) (fun na b => by rw [← ceX7_planWhy]; exact tkX7_planWhy) (List.forall_mem_cons.mpr ⟨vc328 d, List.forall_mem_cons.mpr ⟨vc295 d, List.forall_mem_cons.mpr ⟨vc296 d, fun _ h => absurd h List.not_mem_nil⟩⟩⟩) (cpyX d) (by decide +kernel)
noncomputable def Kc330 : Con := ((222, [(2, 0, 0, [150]), (0, 1, 1, []), (0, iLo, iHi, [])], []), [], [(some (0, 2, 2, []), [], []), (some (0, 0, 0, []), [(2, 1, 30)], [])])
set_option maxRecDepth 20000 in
theorem vc330 {l : Launch} {X : Nat × (Nat → Int32)} (d : Nat) : Vc l X U0 Pt0 1 (d + 1) Kc330 :=
  ckf (d := d) (Ks := [Kc328, Kc298, Kc299]) (cy := 152) (cd := cdX7_planWhy) (nl := 3) (fuel := 1000) (Hs := []) (by decide +kernel) (by decide +kernel) (fun na b => by rw [← ceX7_planWhy]; exact tkX7_planWhy) (List.forall_mem_cons.mpr ⟨vc328 d, List.forall_mem_cons.mpr ⟨vc298 d, List.forall_mem_cons.mpr ⟨vc299 d, fun _ h => absurd h List.not_mem_nil⟩⟩⟩) (cpyX d) (by decide +kernel)
noncomputable def Kc331 : Con := ((221, [(2, 0, 0, [150]), (0, 0, 4, []), (0, 0, 5, [])], []), [], [(some (0, 0, 0, []), [], []), (some (0, 1, 1, []), [], [])])
set_option maxRecDepth 20000 in
theorem vc331 {l : Launch} {X : Nat × (Nat → Int32)} (d : Nat) : Vc l X U0 Pt0 1 (d + 1) Kc331 :=
  ckf (d := d) (Ks := [Kc275]) (cy := 152) (cd := cdX7_mayHave) (nl := 3) (fuel := 1000) (Hs := []) (by decide +kernel) (by decide +kernel) (fun na b => by rw [← ceX7_mayHave]; exact tkX7_mayHave) (List.forall_mem_cons.mpr ⟨vc275 d, fun _ h => absurd h List.not_mem_nil⟩) (cpyX d) (by decide +kernel)
noncomputable def Kc332 : Con := ((219, [(2, 0, 0, [150])], []), [(162, 0, 4)], [(none, [], [])])
set_option maxRecDepth 20000 in
theorem vc332 {l : Launch} {X : Nat × (Nat → Int32)} (d : Nat) : Vc l X U0 Pt0 1 d Kc332 :=
  ckf (d := d) (Ks := []) (cy := 152) (cd := cdX7_planAsNow) (nl := 2) (fuel := 1000) (Hs := [((2, 0), ([(0, (2, 0, 0, [150])), (1, (0, 1, 0, []))], [], [(0, 0), (0, 5)], []), [(0, 1, 0)], (10, [(1, (-2))]), [])]) (by decide +kernel) (by decide +kernel) (fun na b => by rw [← ceX7_planAsNow]; exact tkX7_planAsNow) (fun _ h => absurd h List.not_mem_nil) (cpyX d) (by decide +kernel)
noncomputable def Kc333 : Con := ((151, [(0, iLo, iHi, [])], []), [], [(some (0, iLo, iHi, []), [], [])])
set_option maxRecDepth 20000 in
theorem vc333 {l : Launch} {X : Nat × (Nat → Int32)} (d : Nat) : Vc l X U0 Pt0 1 d Kc333 :=
  ckf (d := d) (Ks := []) (cy := 152) (cd := cdX7_ones) (nl := 3) (fuel := 1000) (Hs := [((4, 0), ([(0, (0, 1, 0, [])), (1, (0, 2, 0, [])), (2, (0, 3, 0, []))], [], [(0, 0), (iLo, iHi), (iLo, iHi), (0, 8)], []), [(0, 0, 0), (0, 1, 0), (0, 2, 0)], (16, [(3, (-2))]), [])]) (by decide +kernel) (by decide +kernel) (fun na b => by rw [← ceX7_ones]; exact tkX7_ones) (fun _ h => absurd h List.not_mem_nil) (cpyX d) (by decide +kernel)
noncomputable def Kc334 : Con := ((196, [(2, 0, 0, [150]), (2, 0, 0, [157])], []), [], [(some (0, iLo, iHi, []), [], [])])
set_option maxRecDepth 20000 in
theorem vc334 {l : Launch} {X : Nat × (Nat → Int32)} (d : Nat) : Vc l X U0 Pt0 1 d Kc334 :=
  ckf (d := d) (Ks := []) (cy := 152) (cd := cdX7_fallenOn) (nl := 4) (fuel := 1000) (Hs := [((4, 0), ([(0, (2, 0, 0, [150])), (1, (2, 0, 0, [157])), (2, (0, 1, 0, [])), (3, (0, 2, 0, []))], [], [(0, 0), (iLo, iHi), (0, 6)], []), [(0, 2, 0), (0, 3, 0)], (12, [(2, (-2))]), [])]) (by decide +kernel) (by decide +kernel) (fun na b => by rw [← ceX7_fallenOn]; exact tkX7_fallenOn) (fun _ h => absurd h List.not_mem_nil) (cpyX d) (by decide +kernel)
noncomputable def Kc335 : Con := ((195, [(2, 0, 0, [150]), (2, 0, 0, [161])], []), [], [(some (0, iLo, iHi, []), [], [])])
set_option maxRecDepth 20000 in
theorem vc335 {l : Launch} {X : Nat × (Nat → Int32)} (d : Nat) : Vc l X U0 Pt0 1 d Kc335 :=
  ckf (d := d) (Ks := []) (cy := 152) (cd := cdX7_letsOf) (nl := 4) (fuel := 1000) (Hs := [((4, 0), ([(0, (2, 0, 0, [150])), (1, (2, 0, 0, [161])), (2, (0, 1, 0, [])), (3, (0, 2, 0, []))], [], [(0, 0), (iLo, iHi), (0, 6)], []), [(0, 2, 0), (0, 3, 0)], (12, [(2, (-2))]), [])]) (by decide +kernel) (by decide +kernel) (fun na b => by rw [← ceX7_letsOf]; exact tkX7_letsOf) (fun _ h => absurd h List.not_mem_nil) (cpyX d) (by decide +kernel)
noncomputable def Kc336 : Con := ((195, [(2, 0, 0, [150]), (2, 0, 0, [157])], []), [], [(some (0, iLo, iHi, []), [], [])])
set_option maxRecDepth 20000 in
theorem vc336 {l : Launch} {X : Nat × (Nat → Int32)} (d : Nat) : Vc l X U0 Pt0 1 d Kc336 :=
  ckf (d := d) (Ks := []) (cy := 152) (cd := cdX7_letsOf) (nl := 4) (fuel := 1000) (Hs := [((4, 0), ([(0, (2, 0, 0, [150])), (1, (2, 0, 0, [157])), (2, (0, 1, 0, [])), (3, (0, 2, 0, []))], [], [(0, 0), (iLo, iHi), (0, 6)], []), [(0, 2, 0), (0, 3, 0)], (12, [(2, (-2))]), [])]) (by decide +kernel) (by decide +kernel) (fun na b => by rw [← ceX7_letsOf]; exact tkX7_letsOf) (fun _ h => absurd h List.not_mem_nil) (cpyX d) (by decide +kernel)
noncomputable def Kc337 : Con := ((220, [(2, 0, 0, [150]), (0, iLo, iHi, [])], []), [(150, 29, 30), (160, 0, 4), (161, 0, 24)], [(none, [], [])])
set_option maxRecDepth 20000 in
theorem vc337 {l : Launch} {X : Nat × (Nat → Int32)} (d : Nat) : Vc l X U0 Pt0 1 (d + 2) Kc337 :=
  ckf (d := (d + 1)) (Ks := [Kc301, Kc326, Kc333, Kc334, Kc335, Kc336, Kc309]) (cy := 152) (cd := cdX7_goByPlan) (nl := 3) (fuel := 1000) (Hs := [((22, 0), ([(0, (2, 0, 0, [150])), (1, (0, 1, 0, [])), (2, (0, 2, 0, []))], [], [(0, 0), (iLo, iHi), (0, 5)], []), [(0, 1, 0), (0, 2, 0)], (6442450960, [(2, (-3))]), []), ((55, 0), ([(0, (2, 0, 0, [150])), (1, (0, 1, 0, [])), (2, (0, 2, 0, []))], [], [(0, 0), (iLo, iHi), (0, iHi)], []), [(0, 1, 0), (0, 2, 0)], (6442450941, [(2, (-3))]), [])]) (by decide +kernel) (by decide +kernel) (fun na b => by rw [← ceX7_goByPlan]; exact tkX7_goByPlan) (List.forall_mem_cons.mpr ⟨vc301 d, List.forall_mem_cons.mpr ⟨vc326 (d + 1), List.forall_mem_cons.mpr ⟨vc333 (d + 1), List.forall_mem_cons.mpr ⟨vc334 (d + 1), List.forall_mem_cons.mpr ⟨vc335 (d + 1), List.forall_mem_cons.mpr ⟨vc336 (d + 1), List.forall_mem_cons.mpr ⟨vc309 d, fun _ h => absurd h List.not_mem_nil⟩⟩⟩⟩⟩⟩⟩) (cpyX (d + 1)) (by decide +kernel)
noncomputable def Kc338 : Con := ((223, [(2, 0, 0, [150]), (0, iLo, iHi, []), (0, iLo, iHi, []), (0, iLo, iHi, [])], []), [(150, 0, 0), (150, 11, 11), (150, 29, 30), (160, 0, 4), (161, 0, 24), (162, 0, 4)], [(some (0, (-1), (-1), []), [], []), (some (0, iLo, iHi, []), [(1, 0, 4), (2, 0, 5), (3, 1, 30)], [])])
set_option maxRecDepth 20000 in
theorem vc338 {l : Launch} {X : Nat × (Nat → Int32)} (d : Nat) : Vc l X U0 Pt0 1 (d + 3) Kc338 :=
  ckf (d := (d + 2)) (Ks := [Kc270, Kc278, Kc329, Kc273, Kc272, Kc330, Kc331, Kc332, Kc337]) (cy := 152) (cd := cdX7_dropsIf) (nl := 5) (fuel := 1000) (Hs := []) (by decide +kernel) (by decide +kernel) (fun na b => by rw [← ceX7_dropsIf]; exact tkX7_dropsIf) (List.forall_mem_cons.mpr ⟨vc270 (d + 2), List.forall_mem_cons.mpr ⟨vc278 (d + 1), List.forall_mem_cons.mpr ⟨vc329 (d + 1), List.forall_mem_cons.mpr ⟨vc273 (d + 2), List.forall_mem_cons.mpr ⟨vc272 (d + 1), List.forall_mem_cons.mpr ⟨vc330 (d + 1), List.forall_mem_cons.mpr ⟨vc331 (d + 1), List.forall_mem_cons.mpr ⟨vc332 (d + 2), List.forall_mem_cons.mpr ⟨vc337 d, fun _ h => absurd h List.not_mem_nil⟩⟩⟩⟩⟩⟩⟩⟩⟩) (cpyX (d + 2)) (by decide +kernel)
noncomputable def Kc339 : Con := ((224, [(2, 0, 0, [150]), (0, iLo, iHi, [])], []), [(150, 29, 32), (160, 0, 4), (161, 0, 24), (163, 0, 4)], [(some (0, 1, 1, []), [], []), (some (0, 0, 0, []), [], [])])
set_option maxRecDepth 20000 in
theorem vc339 {l : Launch} {X : Nat × (Nat → Int32)} (d : Nat) : Vc l X U0 Pt0 1 (d + 3) Kc339 :=
  ckf (d := (d + 2)) (Ks := [Kc337]) (cy := 152) (cd := cdX7_isBest) (nl := 2) (fuel := 1000) (Hs := []) (by decide +kernel) (by decide +kernel) (fun na b => by rw [← ceX7_isBest]; exact tkX7_isBest) (List.forall_mem_cons.mpr ⟨vc337 d, fun _ h => absurd h List.not_mem_nil⟩) (cpyX (d + 2)) (by decide +kernel)
noncomputable def Kc340 : Con := ((225, [(2, 0, 0, [150]), (0, iLo, iHi, []), (0, iLo, iHi, [])], []), [(150, 0, 0), (150, 11, 11), (150, 29, 32), (160, 0, 4), (161, 0, 24), (162, 0, 4), (163, 0, 4)], [(some (0, (-1), (-1), []), [], []), (some (0, (-2), 5, []), [], [])])
set_option maxRecDepth 20000 in
theorem vc340 {l : Launch} {X : Nat × (Nat → Int32)} (d : Nat) : Vc l X U0 Pt0 1 (d + 4) Kc340 :=
  ckf (d := (d + 3)) (Ks := [Kc270, Kc278, Kc329, Kc273, Kc330, Kc332, Kc331, Kc339]) (cy := 152) (cd := cdX7_faceFor) (nl := 6) (fuel := 1000) (Hs := [((42, 0), ([(0, (2, 0, 0, [150])), (1, (0, 1, 0, [])), (2, (0, 2, 0, [])), (4, (0, 3, 0, [])), (5, (0, 4, 0, []))], [], [(0, 0), (0, 4), (1, 30), ((-2), 5), (0, 6)], []), [(0, 1, 0), (0, 2, 0), (0, 4, 0), (0, 5, 0)], (12, [(4, (-2))]), [])]) (by decide +kernel) (by decide +kernel) (fun na b => by rw [← ceX7_faceFor]; exact tkX7_faceFor) (List.forall_mem_cons.mpr ⟨vc270 (d + 3), List.forall_mem_cons.mpr ⟨vc278 (d + 2), List.forall_mem_cons.mpr ⟨vc329 (d + 2), List.forall_mem_cons.mpr ⟨vc273 (d + 3), List.forall_mem_cons.mpr ⟨vc330 (d + 2), List.forall_mem_cons.mpr ⟨vc332 (d + 3), List.forall_mem_cons.mpr ⟨vc331 (d + 2), List.forall_mem_cons.mpr ⟨vc339 d, fun _ h => absurd h List.not_mem_nil⟩⟩⟩⟩⟩⟩⟩⟩) (cpyX (d + 3)) (by decide +kernel)
noncomputable def Kc341 : Con := ((226, [(2, 0, 0, [150]), (0, 0, 0, []), (0, iLo, iHi, []), (0, iLo, iHi, [])], [(153, 5, (0, 0, 0, []))]), [(150, 29, 32), (160, 0, 4), (161, 0, 24), (163, 0, 4)], [(none, [], [])])
set_option maxRecDepth 20000 in
theorem vc341 {l : Launch} {X : Nat × (Nat → Int32)} (d : Nat) : Vc l X U0 Pt0 1 (d + 4) Kc341 :=
  ckf (d := (d + 3)) (Ks := [Kc339]) (cy := 152) (cd := cdX7_tryPlans) (nl := 5) (fuel := 1000) (Hs := []) (by decide +kernel) (by decide +kernel) (fun na b => by rw [← ceX7_tryPlans]; exact tkX7_tryPlans) (List.forall_mem_cons.mpr ⟨vc339 d, fun _ h => absurd h List.not_mem_nil⟩) (cpyX (d + 3)) (by decide +kernel)
noncomputable def Kc342 : Con := ((226, [(2, 0, 0, [150]), (0, 1, 1, []), (0, iLo, iHi, []), (0, iLo, iHi, [])], [(153, 5, (0, 1, 1, []))]), [(150, 29, 32), (160, 0, 4), (161, 0, 24), (163, 0, 4)], [(none, [], [])])
set_option maxRecDepth 20000 in
theorem vc342 {l : Launch} {X : Nat × (Nat → Int32)} (d : Nat) : Vc l X U0 Pt0 1 (d + 4) Kc342 :=
  ckf (d := (d + 3)) (Ks := [Kc339]) (cy := 152) (cd := cdX7_tryPlans) (nl := 5) (fuel := 1000) (Hs := []) (by decide +kernel) (by decide +kernel) (fun na b => by rw [← ceX7_tryPlans]; exact tkX7_tryPlans) (List.forall_mem_cons.mpr ⟨vc339 d, fun _ h => absurd h List.not_mem_nil⟩) (cpyX (d + 3)) (by decide +kernel)
noncomputable def Kc343 : Con := ((226, [(2, 0, 0, [150]), (0, 0, 0, []), (0, iLo, iHi, []), (0, iLo, iHi, [])], [(153, 5, (0, 1, 1, []))]), [(150, 29, 32), (160, 0, 4), (161, 0, 24), (162, 0, 0), (163, 0, 4)], [(none, [], [])])
set_option maxRecDepth 20000 in
theorem vc343 {l : Launch} {X : Nat × (Nat → Int32)} (d : Nat) : Vc l X U0 Pt0 1 (d + 5) Kc343 :=
  ckf (d := (d + 4)) (Ks := [Kc288, Kc342]) (cy := 152) (cd := cdX7_tryPlans) (nl := 5) (fuel := 1000) (Hs := [((20, 0), ([(0, (2, 0, 0, [150])), (1, (0, 1, 0, [])), (2, (0, 2, 0, [])), (3, (0, 3, 0, [])), (4, (0, 4, 0, []))], [], [(0, 0), (0, 0), (iLo, iHi), (iLo, iHi), (0, 6), (1, 1)], [(153, 5, (0, 5, 0, []))]), [(0, 1, 0), (0, 2, 0), (0, 3, 0), (0, 4, 0), (2, 153, 5)], (12, [(4, (-2))]), [])]) (by decide +kernel) (by decide +kernel) (fun na b => by rw [← ceX7_tryPlans]; exact tkX7_tryPlans) (List.forall_mem_cons.mpr ⟨vc288 (d + 4), List.forall_mem_cons.mpr ⟨vc342 d, fun _ h => absurd h List.not_mem_nil⟩⟩) (cpyX (d + 4)) (by decide +kernel)
noncomputable def Kc344 : Con := ((226, [(2, 0, 0, [150]), (0, 2, 2, []), (0, iLo, iHi, []), (0, iLo, iHi, [])], [(153, 5, (0, 2, 2, []))]), [(150, 29, 32), (160, 0, 4), (161, 0, 24), (163, 0, 4)], [(none, [], [])])
set_option maxRecDepth 20000 in
theorem vc344 {l : Launch} {X : Nat × (Nat → Int32)} (d : Nat) : Vc l X U0 Pt0 1 (d + 4) Kc344 :=
  ckf (d := (d + 3)) (Ks := [Kc339]) (cy := 152) (cd := cdX7_tryPlans) (nl := 5) (fuel := 1000) (Hs := []) (by decide +kernel) (by decide +kernel) (fun na b => by rw [← ceX7_tryPlans]; exact tkX7_tryPlans) (List.forall_mem_cons.mpr ⟨vc339 d, fun _ h => absurd h List.not_mem_nil⟩) (cpyX (d + 3)) (by decide +kernel)
noncomputable def Kc345 : Con := ((226, [(2, 0, 0, [150]), (0, 1, 1, []), (0, iLo, iHi, []), (0, iLo, iHi, [])], [(153, 5, (0, 2, 2, []))]), [(150, 29, 32), (160, 0, 4), (161, 0, 24), (162, 1, 1), (163, 0, 4)], [(none, [], [])])
set_option maxRecDepth 20000 in
theorem vc345 {l : Launch} {X : Nat × (Nat → Int32)} (d : Nat) : Vc l X U0 Pt0 1 (d + 5) Kc345 :=
  ckf (d := (d + 4)) (Ks := [Kc288, Kc344]) (cy := 152) (cd := cdX7_tryPlans) (nl := 5) (fuel := 1000) (Hs := [((20, 0), ([(0, (2, 0, 0, [150])), (1, (0, 1, 0, [])), (2, (0, 2, 0, [])), (3, (0, 3, 0, [])), (4, (0, 4, 0, []))], [], [(0, 0), (1, 1), (iLo, iHi), (iLo, iHi), (0, 6), (2, 2)], [(153, 5, (0, 5, 0, []))]), [(0, 1, 0), (0, 2, 0), (0, 3, 0), (0, 4, 0), (2, 153, 5)], (12, [(4, (-2))]), [])]) (by decide +kernel) (by decide +kernel) (fun na b => by rw [← ceX7_tryPlans]; exact tkX7_tryPlans) (List.forall_mem_cons.mpr ⟨vc288 (d + 4), List.forall_mem_cons.mpr ⟨vc344 d, fun _ h => absurd h List.not_mem_nil⟩⟩) (cpyX (d + 4)) (by decide +kernel)
noncomputable def Kc346 : Con := ((226, [(2, 0, 0, [150]), (0, 0, 0, []), (0, iLo, iHi, []), (0, iLo, iHi, [])], [(153, 5, (0, 2, 2, []))]), [(150, 29, 32), (160, 0, 4), (161, 0, 24), (162, 0, 1), (163, 0, 4)], [(none, [], [])])
set_option maxRecDepth 20000 in
theorem vc346 {l : Launch} {X : Nat × (Nat → Int32)} (d : Nat) : Vc l X U0 Pt0 1 (d + 6) Kc346 :=
  ckf (d := (d + 5)) (Ks := [Kc288, Kc345]) (cy := 152) (cd := cdX7_tryPlans) (nl := 5) (fuel := 1000) (Hs := [((20, 0), ([(0, (2, 0, 0, [150])), (1, (0, 1, 0, [])), (2, (0, 2, 0, [])), (3, (0, 3, 0, [])), (4, (0, 4, 0, []))], [], [(0, 0), (0, 0), (iLo, iHi), (iLo, iHi), (0, 6), (2, 2)], [(153, 5, (0, 5, 0, []))]), [(0, 1, 0), (0, 2, 0), (0, 3, 0), (0, 4, 0), (2, 153, 5)], (12, [(4, (-2))]), [])]) (by decide +kernel) (by decide +kernel) (fun na b => by rw [← ceX7_tryPlans]; exact tkX7_tryPlans) (List.forall_mem_cons.mpr ⟨vc288 (d + 5), List.forall_mem_cons.mpr ⟨vc345 d, fun _ h => absurd h List.not_mem_nil⟩⟩) (cpyX (d + 5)) (by decide +kernel)
noncomputable def Kc347 : Con := ((226, [(2, 0, 0, [150]), (0, 3, 3, []), (0, iLo, iHi, []), (0, iLo, iHi, [])], [(153, 5, (0, 3, 3, []))]), [(150, 29, 32), (160, 0, 4), (161, 0, 24), (163, 0, 4)], [(none, [], [])])
set_option maxRecDepth 20000 in
theorem vc347 {l : Launch} {X : Nat × (Nat → Int32)} (d : Nat) : Vc l X U0 Pt0 1 (d + 4) Kc347 :=
  ckf (d := (d + 3)) (Ks := [Kc339]) (cy := 152) (cd := cdX7_tryPlans) (nl := 5) (fuel := 1000) (Hs := []) (by decide +kernel) (by decide +kernel) (fun na b => by rw [← ceX7_tryPlans]; exact tkX7_tryPlans) (List.forall_mem_cons.mpr ⟨vc339 d, fun _ h => absurd h List.not_mem_nil⟩) (cpyX (d + 3)) (by decide +kernel)
noncomputable def Kc348 : Con := ((226, [(2, 0, 0, [150]), (0, 2, 2, []), (0, iLo, iHi, []), (0, iLo, iHi, [])], [(153, 5, (0, 3, 3, []))]), [(150, 29, 32), (160, 0, 4), (161, 0, 24), (162, 2, 2), (163, 0, 4)], [(none, [], [])])
set_option maxRecDepth 20000 in
theorem vc348 {l : Launch} {X : Nat × (Nat → Int32)} (d : Nat) : Vc l X U0 Pt0 1 (d + 5) Kc348 :=
  ckf (d := (d + 4)) (Ks := [Kc288, Kc347]) (cy := 152) (cd := cdX7_tryPlans) (nl := 5) (fuel := 1000) (Hs := [((20, 0), ([(0, (2, 0, 0, [150])), (1, (0, 1, 0, [])), (2, (0, 2, 0, [])), (3, (0, 3, 0, [])), (4, (0, 4, 0, []))], [], [(0, 0), (2, 2), (iLo, iHi), (iLo, iHi), (0, 6), (3, 3)], [(153, 5, (0, 5, 0, []))]), [(0, 1, 0), (0, 2, 0), (0, 3, 0), (0, 4, 0), (2, 153, 5)], (12, [(4, (-2))]), [])]) (by decide +kernel) (by decide +kernel) (fun na b => by rw [← ceX7_tryPlans]; exact tkX7_tryPlans) (List.forall_mem_cons.mpr ⟨vc288 (d + 4), List.forall_mem_cons.mpr ⟨vc347 d, fun _ h => absurd h List.not_mem_nil⟩⟩) (cpyX (d + 4)) (by decide +kernel)
noncomputable def Kc349 : Con := ((226, [(2, 0, 0, [150]), (0, 1, 1, []), (0, iLo, iHi, []), (0, iLo, iHi, [])], [(153, 5, (0, 3, 3, []))]), [(150, 29, 32), (160, 0, 4), (161, 0, 24), (162, 1, 2), (163, 0, 4)], [(none, [], [])])
set_option maxRecDepth 20000 in
theorem vc349 {l : Launch} {X : Nat × (Nat → Int32)} (d : Nat) : Vc l X U0 Pt0 1 (d + 6) Kc349 :=
  ckf (d := (d + 5)) (Ks := [Kc288, Kc348]) (cy := 152) (cd := cdX7_tryPlans) (nl := 5) (fuel := 1000) (Hs := [((20, 0), ([(0, (2, 0, 0, [150])), (1, (0, 1, 0, [])), (2, (0, 2, 0, [])), (3, (0, 3, 0, [])), (4, (0, 4, 0, []))], [], [(0, 0), (1, 1), (iLo, iHi), (iLo, iHi), (0, 6), (3, 3)], [(153, 5, (0, 5, 0, []))]), [(0, 1, 0), (0, 2, 0), (0, 3, 0), (0, 4, 0), (2, 153, 5)], (12, [(4, (-2))]), [])]) (by decide +kernel) (by decide +kernel) (fun na b => by rw [← ceX7_tryPlans]; exact tkX7_tryPlans) (List.forall_mem_cons.mpr ⟨vc288 (d + 5), List.forall_mem_cons.mpr ⟨vc348 d, fun _ h => absurd h List.not_mem_nil⟩⟩) (cpyX (d + 5)) (by decide +kernel)
noncomputable def Kc350 : Con := ((226, [(2, 0, 0, [150]), (0, 0, 0, []), (0, iLo, iHi, []), (0, iLo, iHi, [])], [(153, 5, (0, 3, 3, []))]), [(150, 29, 32), (160, 0, 4), (161, 0, 24), (162, 0, 2), (163, 0, 4)], [(none, [], [])])
set_option maxRecDepth 20000 in
theorem vc350 {l : Launch} {X : Nat × (Nat → Int32)} (d : Nat) : Vc l X U0 Pt0 1 (d + 7) Kc350 :=
  ckf (d := (d + 6)) (Ks := [Kc288, Kc349]) (cy := 152) (cd := cdX7_tryPlans) (nl := 5) (fuel := 1000) (Hs := [((20, 0), ([(0, (2, 0, 0, [150])), (1, (0, 1, 0, [])), (2, (0, 2, 0, [])), (3, (0, 3, 0, [])), (4, (0, 4, 0, []))], [], [(0, 0), (0, 0), (iLo, iHi), (iLo, iHi), (0, 6), (3, 3)], [(153, 5, (0, 5, 0, []))]), [(0, 1, 0), (0, 2, 0), (0, 3, 0), (0, 4, 0), (2, 153, 5)], (12, [(4, (-2))]), [])]) (by decide +kernel) (by decide +kernel) (fun na b => by rw [← ceX7_tryPlans]; exact tkX7_tryPlans) (List.forall_mem_cons.mpr ⟨vc288 (d + 6), List.forall_mem_cons.mpr ⟨vc349 d, fun _ h => absurd h List.not_mem_nil⟩⟩) (cpyX (d + 6)) (by decide +kernel)
noncomputable def Kc351 : Con := ((226, [(2, 0, 0, [150]), (0, 4, 4, []), (0, iLo, iHi, []), (0, iLo, iHi, [])], [(153, 5, (0, 4, 4, []))]), [(150, 29, 32), (160, 0, 4), (161, 0, 24), (163, 0, 4)], [(none, [], [])])
set_option maxRecDepth 20000 in
theorem vc351 {l : Launch} {X : Nat × (Nat → Int32)} (d : Nat) : Vc l X U0 Pt0 1 (d + 4) Kc351 :=
  ckf (d := (d + 3)) (Ks := [Kc339]) (cy := 152) (cd := cdX7_tryPlans) (nl := 5) (fuel := 1000) (Hs := []) (by decide +kernel) (by decide +kernel) (fun na b => by rw [← ceX7_tryPlans]; exact tkX7_tryPlans) (List.forall_mem_cons.mpr ⟨vc339 d, fun _ h => absurd h List.not_mem_nil⟩) (cpyX (d + 3)) (by decide +kernel)
noncomputable def Kc352 : Con := ((226, [(2, 0, 0, [150]), (0, 3, 3, []), (0, iLo, iHi, []), (0, iLo, iHi, [])], [(153, 5, (0, 4, 4, []))]), [(150, 29, 32), (160, 0, 4), (161, 0, 24), (162, 3, 3), (163, 0, 4)], [(none, [], [])])
set_option maxRecDepth 20000 in
theorem vc352 {l : Launch} {X : Nat × (Nat → Int32)} (d : Nat) : Vc l X U0 Pt0 1 (d + 5) Kc352 :=
  ckf (d := (d + 4)) (Ks := [Kc288, Kc351]) (cy := 152) (cd := cdX7_tryPlans) (nl := 5) (fuel := 1000) (Hs := [((20, 0), ([(0, (2, 0, 0, [150])), (1, (0, 1, 0, [])), (2, (0, 2, 0, [])), (3, (0, 3, 0, [])), (4, (0, 4, 0, []))], [], [(0, 0), (3, 3), (iLo, iHi), (iLo, iHi), (0, 6), (4, 4)], [(153, 5, (0, 5, 0, []))]), [(0, 1, 0), (0, 2, 0), (0, 3, 0), (0, 4, 0), (2, 153, 5)], (12, [(4, (-2))]), [])]) (by decide +kernel) (by decide +kernel) (fun na b => by rw [← ceX7_tryPlans]; exact tkX7_tryPlans) (List.forall_mem_cons.mpr ⟨vc288 (d + 4), List.forall_mem_cons.mpr ⟨vc351 d, fun _ h => absurd h List.not_mem_nil⟩⟩) (cpyX (d + 4)) (by decide +kernel)
noncomputable def Kc353 : Con := ((226, [(2, 0, 0, [150]), (0, 2, 2, []), (0, iLo, iHi, []), (0, iLo, iHi, [])], [(153, 5, (0, 4, 4, []))]), [(150, 29, 32), (160, 0, 4), (161, 0, 24), (162, 2, 3), (163, 0, 4)], [(none, [], [])])
set_option maxRecDepth 20000 in
theorem vc353 {l : Launch} {X : Nat × (Nat → Int32)} (d : Nat) : Vc l X U0 Pt0 1 (d + 6) Kc353 :=
  ckf (d := (d + 5)) (Ks := [Kc288, Kc352]) (cy := 152) (cd := cdX7_tryPlans) (nl := 5) (fuel := 1000) (Hs := [((20, 0), ([(0, (2, 0, 0, [150])), (1, (0, 1, 0, [])), (2, (0, 2, 0, [])), (3, (0, 3, 0, [])), (4, (0, 4, 0, []))], [], [(0, 0), (2, 2), (iLo, iHi), (iLo, iHi), (0, 6), (4, 4)], [(153, 5, (0, 5, 0, []))]), [(0, 1, 0), (0, 2, 0), (0, 3, 0), (0, 4, 0), (2, 153, 5)], (12, [(4, (-2))]), [])]) (by decide +kernel) (by decide +kernel) (fun na b => by rw [← ceX7_tryPlans]; exact tkX7_tryPlans) (List.forall_mem_cons.mpr ⟨vc288 (d + 5), List.forall_mem_cons.mpr ⟨vc352 d, fun _ h => absurd h List.not_mem_nil⟩⟩) (cpyX (d + 5)) (by decide +kernel)
noncomputable def Kc354 : Con := ((226, [(2, 0, 0, [150]), (0, 1, 1, []), (0, iLo, iHi, []), (0, iLo, iHi, [])], [(153, 5, (0, 4, 4, []))]), [(150, 29, 32), (160, 0, 4), (161, 0, 24), (162, 1, 3), (163, 0, 4)], [(none, [], [])])
set_option maxRecDepth 20000 in
theorem vc354 {l : Launch} {X : Nat × (Nat → Int32)} (d : Nat) : Vc l X U0 Pt0 1 (d + 7) Kc354 :=
  ckf (d := (d + 6)) (Ks := [Kc288, Kc353]) (cy := 152) (cd := cdX7_tryPlans) (nl := 5) (fuel := 1000) (Hs := [((20, 0), ([(0, (2, 0, 0, [150])), (1, (0, 1, 0, [])), (2, (0, 2, 0, [])), (3, (0, 3, 0, [])), (4, (0, 4, 0, []))], [], [(0, 0), (1, 1), (iLo, iHi), (iLo, iHi), (0, 6), (4, 4)], [(153, 5, (0, 5, 0, []))]), [(0, 1, 0), (0, 2, 0), (0, 3, 0), (0, 4, 0), (2, 153, 5)], (12, [(4, (-2))]), [])]) (by decide +kernel) (by decide +kernel) (fun na b => by rw [← ceX7_tryPlans]; exact tkX7_tryPlans) (List.forall_mem_cons.mpr ⟨vc288 (d + 6), List.forall_mem_cons.mpr ⟨vc353 d, fun _ h => absurd h List.not_mem_nil⟩⟩) (cpyX (d + 6)) (by decide +kernel)
noncomputable def Kc355 : Con := ((226, [(2, 0, 0, [150]), (0, 0, 0, []), (0, iLo, iHi, []), (0, iLo, iHi, [])], [(153, 5, (0, 4, 4, []))]), [(150, 29, 32), (160, 0, 4), (161, 0, 24), (162, 0, 3), (163, 0, 4)], [(none, [], [])])
set_option maxRecDepth 20000 in
theorem vc355 {l : Launch} {X : Nat × (Nat → Int32)} (d : Nat) : Vc l X U0 Pt0 1 (d + 8) Kc355 :=
  ckf (d := (d + 7)) (Ks := [Kc288, Kc354]) (cy := 152) (cd := cdX7_tryPlans) (nl := 5) (fuel := 1000) (Hs := [((20, 0), ([(0, (2, 0, 0, [150])), (1, (0, 1, 0, [])), (2, (0, 2, 0, [])), (3, (0, 3, 0, [])), (4, (0, 4, 0, []))], [], [(0, 0), (0, 0), (iLo, iHi), (iLo, iHi), (0, 6), (4, 4)], [(153, 5, (0, 5, 0, []))]), [(0, 1, 0), (0, 2, 0), (0, 3, 0), (0, 4, 0), (2, 153, 5)], (12, [(4, (-2))]), [])]) (by decide +kernel) (by decide +kernel) (fun na b => by rw [← ceX7_tryPlans]; exact tkX7_tryPlans) (List.forall_mem_cons.mpr ⟨vc288 (d + 7), List.forall_mem_cons.mpr ⟨vc354 d, fun _ h => absurd h List.not_mem_nil⟩⟩) (cpyX (d + 7)) (by decide +kernel)
noncomputable def Kc356 : Con := ((226, [(2, 0, 0, [150]), (0, 5, 5, []), (0, iLo, iHi, []), (0, iLo, iHi, [])], [(153, 5, (0, 5, 5, []))]), [(150, 29, 32), (160, 0, 4), (161, 0, 24), (163, 0, 4)], [(none, [], [])])
set_option maxRecDepth 20000 in
theorem vc356 {l : Launch} {X : Nat × (Nat → Int32)} (d : Nat) : Vc l X U0 Pt0 1 (d + 4) Kc356 :=
  ckf (d := (d + 3)) (Ks := [Kc339]) (cy := 152) (cd := cdX7_tryPlans) (nl := 5) (fuel := 1000) (Hs := []) (by decide +kernel) (by decide +kernel) (fun na b => by rw [← ceX7_tryPlans]; exact tkX7_tryPlans) (List.forall_mem_cons.mpr ⟨vc339 d, fun _ h => absurd h List.not_mem_nil⟩) (cpyX (d + 3)) (by decide +kernel)
noncomputable def Kc357 : Con := ((226, [(2, 0, 0, [150]), (0, 4, 4, []), (0, iLo, iHi, []), (0, iLo, iHi, [])], [(153, 5, (0, 5, 5, []))]), [(150, 29, 32), (160, 0, 4), (161, 0, 24), (162, 4, 4), (163, 0, 4)], [(none, [], [])])
set_option maxRecDepth 20000 in
theorem vc357 {l : Launch} {X : Nat × (Nat → Int32)} (d : Nat) : Vc l X U0 Pt0 1 (d + 5) Kc357 :=
  ckf (d := (d + 4)) (Ks := [Kc288, Kc356]) (cy := 152) (cd := cdX7_tryPlans) (nl := 5) (fuel := 1000) (Hs := [((20, 0), ([(0, (2, 0, 0, [150])), (1, (0, 1, 0, [])), (2, (0, 2, 0, [])), (3, (0, 3, 0, [])), (4, (0, 4, 0, []))], [], [(0, 0), (4, 4), (iLo, iHi), (iLo, iHi), (0, 6), (5, 5)], [(153, 5, (0, 5, 0, []))]), [(0, 1, 0), (0, 2, 0), (0, 3, 0), (0, 4, 0), (2, 153, 5)], (12, [(4, (-2))]), [])]) (by decide +kernel) (by decide +kernel) (fun na b => by rw [← ceX7_tryPlans]; exact tkX7_tryPlans) (List.forall_mem_cons.mpr ⟨vc288 (d + 4), List.forall_mem_cons.mpr ⟨vc356 d, fun _ h => absurd h List.not_mem_nil⟩⟩) (cpyX (d + 4)) (by decide +kernel)
noncomputable def Kc358 : Con := ((226, [(2, 0, 0, [150]), (0, 3, 3, []), (0, iLo, iHi, []), (0, iLo, iHi, [])], [(153, 5, (0, 5, 5, []))]), [(150, 29, 32), (160, 0, 4), (161, 0, 24), (162, 3, 4), (163, 0, 4)], [(none, [], [])])
set_option maxRecDepth 20000 in
theorem vc358 {l : Launch} {X : Nat × (Nat → Int32)} (d : Nat) : Vc l X U0 Pt0 1 (d + 6) Kc358 :=
  ckf (d := (d + 5)) (Ks := [Kc288, Kc357]) (cy := 152) (cd := cdX7_tryPlans) (nl := 5) (fuel := 1000) (Hs := [((20, 0), ([(0, (2, 0, 0, [150])), (1, (0, 1, 0, [])), (2, (0, 2, 0, [])), (3, (0, 3, 0, [])), (4, (0, 4, 0, []))], [], [(0, 0), (3, 3), (iLo, iHi), (iLo, iHi), (0, 6), (5, 5)], [(153, 5, (0, 5, 0, []))]), [(0, 1, 0), (0, 2, 0), (0, 3, 0), (0, 4, 0), (2, 153, 5)], (12, [(4, (-2))]), [])]) (by decide +kernel) (by decide +kernel) (fun na b => by rw [← ceX7_tryPlans]; exact tkX7_tryPlans) (List.forall_mem_cons.mpr ⟨vc288 (d + 5), List.forall_mem_cons.mpr ⟨vc357 d, fun _ h => absurd h List.not_mem_nil⟩⟩) (cpyX (d + 5)) (by decide +kernel)
noncomputable def Kc359 : Con := ((226, [(2, 0, 0, [150]), (0, 2, 2, []), (0, iLo, iHi, []), (0, iLo, iHi, [])], [(153, 5, (0, 5, 5, []))]), [(150, 29, 32), (160, 0, 4), (161, 0, 24), (162, 2, 4), (163, 0, 4)], [(none, [], [])])
set_option maxRecDepth 20000 in
theorem vc359 {l : Launch} {X : Nat × (Nat → Int32)} (d : Nat) : Vc l X U0 Pt0 1 (d + 7) Kc359 :=
  ckf (d := (d + 6)) (Ks := [Kc288, Kc358]) (cy := 152) (cd := cdX7_tryPlans) (nl := 5) (fuel := 1000) (Hs := [((20, 0), ([(0, (2, 0, 0, [150])), (1, (0, 1, 0, [])), (2, (0, 2, 0, [])), (3, (0, 3, 0, [])), (4, (0, 4, 0, []))], [], [(0, 0), (2, 2), (iLo, iHi), (iLo, iHi), (0, 6), (5, 5)], [(153, 5, (0, 5, 0, []))]), [(0, 1, 0), (0, 2, 0), (0, 3, 0), (0, 4, 0), (2, 153, 5)], (12, [(4, (-2))]), [])]) (by decide +kernel) (by decide +kernel) (fun na b => by rw [← ceX7_tryPlans]; exact tkX7_tryPlans) (List.forall_mem_cons.mpr ⟨vc288 (d + 6), List.forall_mem_cons.mpr ⟨vc358 d, fun _ h => absurd h List.not_mem_nil⟩⟩) (cpyX (d + 6)) (by decide +kernel)
noncomputable def Kc360 : Con := ((226, [(2, 0, 0, [150]), (0, 1, 1, []), (0, iLo, iHi, []), (0, iLo, iHi, [])], [(153, 5, (0, 5, 5, []))]), [(150, 29, 32), (160, 0, 4), (161, 0, 24), (162, 1, 4), (163, 0, 4)], [(none, [], [])])
set_option maxRecDepth 20000 in
theorem vc360 {l : Launch} {X : Nat × (Nat → Int32)} (d : Nat) : Vc l X U0 Pt0 1 (d + 8) Kc360 :=
  ckf (d := (d + 7)) (Ks := [Kc288, Kc359]) (cy := 152) (cd := cdX7_tryPlans) (nl := 5) (fuel := 1000) (Hs := [((20, 0), ([(0, (2, 0, 0, [150])), (1, (0, 1, 0, [])), (2, (0, 2, 0, [])), (3, (0, 3, 0, [])), (4, (0, 4, 0, []))], [], [(0, 0), (1, 1), (iLo, iHi), (iLo, iHi), (0, 6), (5, 5)], [(153, 5, (0, 5, 0, []))]), [(0, 1, 0), (0, 2, 0), (0, 3, 0), (0, 4, 0), (2, 153, 5)], (12, [(4, (-2))]), [])]) (by decide +kernel) (by decide +kernel) (fun na b => by rw [← ceX7_tryPlans]; exact tkX7_tryPlans) (List.forall_mem_cons.mpr ⟨vc288 (d + 7), List.forall_mem_cons.mpr ⟨vc359 d, fun _ h => absurd h List.not_mem_nil⟩⟩) (cpyX (d + 7)) (by decide +kernel)
noncomputable def Kc361 : Con := ((226, [(2, 0, 0, [150]), (0, 0, 0, []), (0, iLo, iHi, []), (0, iLo, iHi, [])], [(153, 5, (0, 5, 5, []))]), [(150, 29, 32), (160, 0, 4), (161, 0, 24), (162, 0, 4), (163, 0, 4)], [(none, [], [])])
set_option maxRecDepth 20000 in
theorem vc361 {l : Launch} {X : Nat × (Nat → Int32)} (d : Nat) : Vc l X U0 Pt0 1 (d + 9) Kc361 :=
  ckf (d := (d + 8)) (Ks := [Kc288, Kc360]) (cy := 152) (cd := cdX7_tryPlans) (nl := 5) (fuel := 1000) (Hs := [((20, 0), ([(0, (2, 0, 0, [150])), (1, (0, 1, 0, [])), (2, (0, 2, 0, [])), (3, (0, 3, 0, [])), (4, (0, 4, 0, []))], [], [(0, 0), (0, 0), (iLo, iHi), (iLo, iHi), (0, 6), (5, 5)], [(153, 5, (0, 5, 0, []))]), [(0, 1, 0), (0, 2, 0), (0, 3, 0), (0, 4, 0), (2, 153, 5)], (12, [(4, (-2))]), [])]) (by decide +kernel) (by decide +kernel) (fun na b => by rw [← ceX7_tryPlans]; exact tkX7_tryPlans) (List.forall_mem_cons.mpr ⟨vc288 (d + 8), List.forall_mem_cons.mpr ⟨vc360 d, fun _ h => absurd h List.not_mem_nil⟩⟩) (cpyX (d + 8)) (by decide +kernel)
noncomputable def Kc362 : Con := ((226, [(2, 0, 0, [150]), (0, 0, 0, []), (0, iLo, iHi, []), (0, iLo, iHi, [])], []), [(150, 29, 32), (160, 0, 4), (161, 0, 24), (162, 0, 4), (163, 0, 4)], [(none, [], [])])
set_option maxRecDepth 20000 in
theorem vc362 {l : Launch} {X : Nat × (Nat → Int32)} (d : Nat) : Vc l X U0 Pt0 1 (d + 10) Kc362 := byC tfC tfC_ok (fun C hC => by
  rcases (show C = 0 ∨ C = 1 ∨ C = 2 ∨ C = 3 ∨ C = 4 ∨ C = 5 by omega) with rfl | rfl | rfl | rfl | rfl | rfl
  · exact ⟨_, vc341 (d + 6), by decide⟩
  · exact ⟨_, vc343 (d + 5), by decide⟩
  · exact ⟨_, vc346 (d + 4), by decide⟩
  · exact ⟨_, vc350 (d + 3), by decide⟩
  · exact ⟨_, vc355 (d + 2), by decide⟩
  · exact ⟨_, vc361 (d + 1), by decide⟩)
noncomputable def Kc363 : Con := ((227, [(2, 0, 0, [150]), (0, iLo, iHi, [])], []), [(150, 29, 32), (160, 0, 4), (161, 0, 24), (162, 0, 4), (163, 0, 4)], [(none, [], [])])
set_option maxRecDepth 20000 in
theorem vc363 {l : Launch} {X : Nat × (Nat → Int32)} (d : Nat) : Vc l X U0 Pt0 1 (d + 11) Kc363 :=
  ckf (d := (d + 10)) (Ks := [Kc362]) (cy := 152) (cd := cdX7_seekMatch) (nl := 2) (fuel := 1000) (Hs := []) (by decide +kernel) (by decide +kernel) (fun na b => by rw [← ceX7_seekMatch]; exact tkX7_seekMatch) (List.forall_mem_cons.mpr ⟨vc362 d, fun _ h => absurd h List.not_mem_nil⟩) (cpyX (d + 10)) (by decide +kernel)
noncomputable def Kc364 : Con := ((228, [(2, 0, 0, [150]), (0, iLo, iHi, [])], []), [(150, 0, 0), (150, 11, 11), (150, 29, 32), (160, 0, 4), (161, 0, 24), (162, 0, 4), (163, 0, 4)], [(some (0, (-1), (-1), []), [], []), (some (0, iLo, iHi, []), [(1, 1, 30)], [])])
set_option maxRecDepth 20000 in
theorem vc364 {l : Launch} {X : Nat × (Nat → Int32)} (d : Nat) : Vc l X U0 Pt0 1 (d + 12) Kc364 :=
  ckf (d := (d + 11)) (Ks := [Kc270, Kc330, Kc273, Kc363]) (cy := 152) (cd := cdX7_match) (nl := 3) (fuel := 1000) (Hs := []) (by decide +kernel) (by decide +kernel) (fun na b => by rw [← ceX7_match]; exact tkX7_match) (List.forall_mem_cons.mpr ⟨vc270 (d + 11), List.forall_mem_cons.mpr ⟨vc330 (d + 10), List.forall_mem_cons.mpr ⟨vc273 (d + 11), List.forall_mem_cons.mpr ⟨vc363 d, fun _ h => absurd h List.not_mem_nil⟩⟩⟩⟩) (cpyX (d + 11)) (by decide +kernel)
noncomputable def Kc365 : Con := ((229, [(2, 0, 0, [150]), (0, iLo, iHi, [])], []), [(150, 0, 0), (150, 11, 11), (150, 29, 32), (160, 0, 4), (161, 0, 24), (162, 0, 4), (163, 0, 4)], [(some (0, (-1), (-1), []), [], []), (some (0, iLo, iHi, []), [(1, 1, 30)], [])])
set_option maxRecDepth 20000 in
theorem vc365 {l : Launch} {X : Nat × (Nat → Int32)} (d : Nat) : Vc l X U0 Pt0 1 (d + 12) Kc365 :=
  ckf (d := (d + 11)) (Ks := [Kc270, Kc330, Kc273, Kc363]) (cy := 152) (cd := cdX7_matchDrops) (nl := 3) (fuel := 1000) (Hs := []) (by decide +kernel) (by decide +kernel) (fun na b => by rw [← ceX7_matchDrops]; exact tkX7_matchDrops) (List.forall_mem_cons.mpr ⟨vc270 (d + 11), List.forall_mem_cons.mpr ⟨vc330 (d + 10), List.forall_mem_cons.mpr ⟨vc273 (d + 11), List.forall_mem_cons.mpr ⟨vc363 d, fun _ h => absurd h List.not_mem_nil⟩⟩⟩⟩) (cpyX (d + 11)) (by decide +kernel)
noncomputable def Kc366 : Con := ((230, [(2, 0, 0, [150]), (0, iLo, iHi, []), (0, iLo, iHi, [])], []), [(150, 0, 0), (150, 11, 11), (150, 29, 32), (160, 0, 4), (161, 0, 24), (162, 0, 4), (163, 0, 4)], [(some (0, (-1), (-1), []), [], []), (some (0, 0, 5, []), [(1, 0, 4), (2, 1, 30)], [])])
set_option maxRecDepth 20000 in
theorem vc366 {l : Launch} {X : Nat × (Nat → Int32)} (d : Nat) : Vc l X U0 Pt0 1 (d + 12) Kc366 :=
  ckf (d := (d + 11)) (Ks := [Kc270, Kc278, Kc329, Kc273, Kc330, Kc363]) (cy := 152) (cd := cdX7_matchAt) (nl := 4) (fuel := 1000) (Hs := []) (by decide +kernel) (by decide +kernel) (fun na b => by rw [← ceX7_matchAt]; exact tkX7_matchAt) (List.forall_mem_cons.mpr ⟨vc270 (d + 11), List.forall_mem_cons.mpr ⟨vc278 (d + 10), List.forall_mem_cons.mpr ⟨vc329 (d + 10), List.forall_mem_cons.mpr ⟨vc273 (d + 11), List.forall_mem_cons.mpr ⟨vc330 (d + 10), List.forall_mem_cons.mpr ⟨vc363 d, fun _ h => absurd h List.not_mem_nil⟩⟩⟩⟩⟩⟩) (cpyX (d + 11)) (by decide +kernel)
noncomputable def Kc367 : Con := ((232, [(2, 0, 0, [150]), (0, 0, 19, []), (0, iLo, iHi, [])], []), [(164, 0, 19)], [(none, [], [])])
set_option maxRecDepth 20000 in
theorem vc367 {l : Launch} {X : Nat × (Nat → Int32)} (d : Nat) : Vc l X U0 Pt0 1 (d + 4) Kc367 := vh_lay (R := rwt0) rfl rfl rfl d
noncomputable def Kc368 : Con := ((233, [(2, 0, 0, [150]), (0, 0, 19, []), (0, 0, 19, [])], []), [(164, 0, 19)], [(some (0, iLo, iHi, []), [], []), (some (0, (-2), (-2), []), [], [])])
set_option maxRecDepth 20000 in
theorem vc368 {l : Launch} {X : Nat × (Nat → Int32)} (d : Nat) : Vc l X U0 Pt0 1 (d + 5) Kc368 :=
  ckf (d := (d + 4)) (Ks := [Kc367]) (cy := 152) (cd := cdX7_stepsOf) (nl := 3) (fuel := 1000) (Hs := []) (by decide +kernel) (by decide +kernel) (fun na b => by rw [← ceX7_stepsOf]; exact tkX7_stepsOf) (List.forall_mem_cons.mpr ⟨vc367 d, fun _ h => absurd h List.not_mem_nil⟩) (cpyX (d + 4)) (by decide +kernel)
noncomputable def Kc369 : Con := ((234, [(2, 0, 0, [150]), (0, iLo, iHi, []), (0, iLo, iHi, [])], []), [(150, 0, 0), (150, 11, 11), (150, 26, 26), (164, 0, 19)], [(some (0, (-1), (-1), []), [], []), (some (0, iLo, iHi, []), [(1, 0, 19), (2, 0, 19)], []), (some (0, (-2), (-2), []), [(1, 0, 19), (2, 0, 19)], [])])
set_option maxRecDepth 20000 in
theorem vc369 {l : Launch} {X : Nat × (Nat → Int32)} (d : Nat) : Vc l X U0 Pt0 1 (d + 6) Kc369 :=
  ckf (d := (d + 5)) (Ks := [Kc270, Kc283, Kc273, Kc368]) (cy := 152) (cd := cdX7_steps) (nl := 3) (fuel := 1000) (Hs := []) (by decide +kernel) (by decide +kernel) (fun na b => by rw [← ceX7_steps]; exact tkX7_steps) (List.forall_mem_cons.mpr ⟨vc270 (d + 5), List.forall_mem_cons.mpr ⟨vc283 (d + 4), List.forall_mem_cons.mpr ⟨vc273 (d + 5), List.forall_mem_cons.mpr ⟨vc368 d, fun _ h => absurd h List.not_mem_nil⟩⟩⟩⟩) (cpyX (d + 5)) (by decide +kernel)
noncomputable def Kc370 : Con := ((189, [(2, 0, 0, [150]), (0, iLo, iHi, [])], []), [], [(some (0, 0, 0, []), [], []), (some (0, 1, 1, []), [(1, 0, 3)], [])])
set_option maxRecDepth 20000 in
theorem vc370 {l : Launch} {X : Nat × (Nat → Int32)} (d : Nat) : Vc l X U0 Pt0 1 (d + 1) Kc370 :=
  ckf (d := d) (Ks := [Kc287]) (cy := 152) (cd := cdX7_isWalker) (nl := 2) (fuel := 1000) (Hs := []) (by decide +kernel) (by decide +kernel) (fun na b => by rw [← ceX7_isWalker]; exact tkX7_isWalker) (List.forall_mem_cons.mpr ⟨vc287 d, fun _ h => absurd h List.not_mem_nil⟩) (cpyX d) (by decide +kernel)
noncomputable def Kc371 : Con := ((206, [(2, 0, 0, [150]), (0, 0, 0, []), (0, 1, 1, []), (0, iLo, iHi, [])], []), [], [(some (0, 1, 1, []), [], [])])
set_option maxRecDepth 20000 in
theorem vc371 {l : Launch} {X : Nat × (Nat → Int32)} (d : Nat) : Vc l X U0 Pt0 1 (d + 1) Kc371 :=
  ckf (d := d) (Ks := [Kc316, Kc295, Kc296]) (cy := 152) (cd := cdX7_aheadWhy) (nl := 4) (fuel := 1000) (Hs := []) (by decide +kernel) (by decide +kernel) (fun na b => by rw [← ceX7_aheadWhy]; exact tkX7_aheadWhy) (List.forall_mem_cons.mpr ⟨vc316 d, List.forall_mem_cons.mpr ⟨vc295 d, List.forall_mem_cons.mpr ⟨vc296 d, fun _ h => absurd h List.not_mem_nil⟩⟩⟩) (cpyX d) (by decide +kernel)
noncomputable def Kc372 : Con := ((235, [(2, 0, 0, [150]), (0, 0, 3, []), (0, 1, 60, [])], []), [(150, 26, 26), (160, 0, 4), (161, 0, 24), (164, 0, 19)], [(some (0, iLo, iHi, []), [], []), (some (0, (-2), (-2), []), [], [])])
set_option maxRecDepth 20000 in
theorem vc372 {l : Launch} {X : Nat × (Nat → Int32)} (d : Nat) : Vc l X U0 Pt0 1 (d + 5) Kc372 :=
  ckf (d := (d + 4)) (Ks := [Kc310, Kc367]) (cy := 152) (cd := cdX7_wayOf) (nl := 4) (fuel := 1000) (Hs := []) (by decide +kernel) (by decide +kernel) (fun na b => by rw [← ceX7_wayOf]; exact tkX7_wayOf) (List.forall_mem_cons.mpr ⟨vc310 (d + 2), List.forall_mem_cons.mpr ⟨vc367 d, fun _ h => absurd h List.not_mem_nil⟩⟩) (cpyX (d + 4)) (by decide +kernel)
noncomputable def Kc373 : Con := ((236, [(2, 0, 0, [150]), (0, iLo, iHi, []), (0, iLo, iHi, [])], []), [(150, 0, 0), (150, 11, 11), (150, 26, 26), (160, 0, 4), (161, 0, 24), (164, 0, 19)], [(some (0, (-1), (-1), []), [], []), (some (0, 0, iHi, []), [(1, 0, 3), (2, 1, 60)], []), (some (0, (-2), (-2), []), [(1, 0, 3), (2, 1, 60)], [])])
set_option maxRecDepth 20000 in
theorem vc373 {l : Launch} {X : Nat × (Nat → Int32)} (d : Nat) : Vc l X U0 Pt0 1 (d + 6) Kc373 :=
  ckf (d := (d + 5)) (Ks := [Kc270, Kc370, Kc371, Kc273, Kc317, Kc372]) (cy := 152) (cd := cdX7_wets) (nl := 5) (fuel := 1000) (Hs := []) (by decide +kernel) (by decide +kernel) (fun na b => by rw [← ceX7_wets]; exact tkX7_wets) (List.forall_mem_cons.mpr ⟨vc270 (d + 5), List.forall_mem_cons.mpr ⟨vc370 (d + 4), List.forall_mem_cons.mpr ⟨vc371 (d + 4), List.forall_mem_cons.mpr ⟨vc273 (d + 5), List.forall_mem_cons.mpr ⟨vc317 (d + 4), List.forall_mem_cons.mpr ⟨vc372 d, fun _ h => absurd h List.not_mem_nil⟩⟩⟩⟩⟩⟩) (cpyX (d + 5)) (by decide +kernel)
noncomputable def Kc374 : Con := ((237, [(2, 0, 0, [150]), (0, iLo, iHi, []), (0, iLo, iHi, [])], []), [(150, 0, 0), (150, 11, 11), (150, 26, 26), (160, 0, 4), (161, 0, 24), (164, 0, 19)], [(some (0, (-1), (-1), []), [], []), (some (0, 0, 999, []), [(1, 0, 3), (2, 1, 60)], []), (some (0, (-2), (-2), []), [(1, 0, 3), (2, 1, 60)], [])])
set_option maxRecDepth 20000 in
theorem vc374 {l : Launch} {X : Nat × (Nat → Int32)} (d : Nat) : Vc l X U0 Pt0 1 (d + 6) Kc374 :=
  ckf (d := (d + 5)) (Ks := [Kc270, Kc370, Kc371, Kc273, Kc317, Kc372]) (cy := 152) (cd := cdX7_way) (nl := 5) (fuel := 1000) (Hs := []) (by decide +kernel) (by decide +kernel) (fun na b => by rw [← ceX7_way]; exact tkX7_way) (List.forall_mem_cons.mpr ⟨vc270 (d + 5), List.forall_mem_cons.mpr ⟨vc370 (d + 4), List.forall_mem_cons.mpr ⟨vc371 (d + 4), List.forall_mem_cons.mpr ⟨vc273 (d + 5), List.forall_mem_cons.mpr ⟨vc317 (d + 4), List.forall_mem_cons.mpr ⟨vc372 d, fun _ h => absurd h List.not_mem_nil⟩⟩⟩⟩⟩⟩) (cpyX (d + 5)) (by decide +kernel)
noncomputable def Kc375 : Con := ((239, [(2, 0, 0, [150]), (0, iLo, iHi, [])], []), [(150, 0, 0), (150, 11, 11), (150, 26, 26), (160, 0, 4), (161, 0, 24), (164, 0, 19)], [(some (0, (-1), (-1), []), [], []), (some (0, (-2), (-2), []), [], []), (some (0, 1, 60, []), [], [])])
set_option maxRecDepth 20000 in
theorem vc375 {l : Launch} {X : Nat × (Nat → Int32)} (d : Nat) : Vc l X U0 Pt0 1 (d + 6) Kc375 :=
  ckf (d := (d + 5)) (Ks := [Kc270, Kc370, Kc273, Kc372]) (cy := 152) (cd := cdX7_dryDay) (nl := 4) (fuel := 1000) (Hs := [((20, 0), ([(0, (2, 0, 0, [150])), (1, (0, 1, 0, [])), (2, (0, 2, 0, []))], [], [(0, 0), (0, 3), (1, 61)], []), [(0, 1, 0), (0, 2, 0)], (122, [(2, (-2))]), [])]) (by decide +kernel) (by decide +kernel) (fun na b => by rw [← ceX7_dryDay]; exact tkX7_dryDay) (List.forall_mem_cons.mpr ⟨vc270 (d + 5), List.forall_mem_cons.mpr ⟨vc370 (d + 4), List.forall_mem_cons.mpr ⟨vc273 (d + 5), List.forall_mem_cons.mpr ⟨vc372 d, fun _ h => absurd h List.not_mem_nil⟩⟩⟩⟩) (cpyX (d + 5)) (by decide +kernel)
noncomputable def Kc376 : Con := ((240, [(2, 0, 0, [150])], []), [(164, 0, 19)], [(some (0, iLo, iHi, []), [], [])])
set_option maxRecDepth 20000 in
theorem vc376 {l : Launch} {X : Nat × (Nat → Int32)} (d : Nat) : Vc l X U0 Pt0 1 (d + 6) Kc376 :=
  ckf (d := (d + 5)) (Ks := [Kc368]) (cy := 152) (cd := cdX7_allSteps) (nl := 4) (fuel := 1000) (Hs := [((4, 0), ([(0, (2, 0, 0, [150])), (1, (0, 1, 0, [])), (2, (0, 2, 0, []))], [], [(0, 0), (iLo, iHi), (0, 4)], []), [(0, 1, 0), (0, 2, 0)], (8, [(2, (-2))]), [])]) (by decide +kernel) (by decide +kernel) (fun na b => by rw [← ceX7_allSteps]; exact tkX7_allSteps) (List.forall_mem_cons.mpr ⟨vc368 d, fun _ h => absurd h List.not_mem_nil⟩) (cpyX (d + 5)) (by decide +kernel)
noncomputable def Kc377 : Con := ((241, [(2, 0, 0, [150])], []), [(150, 0, 0), (150, 11, 11), (150, 26, 26), (164, 0, 19)], [(some (0, (-2), 19, []), [], [])])
set_option maxRecDepth 20000 in
theorem vc377 {l : Launch} {X : Nat × (Nat → Int32)} (d : Nat) : Vc l X U0 Pt0 1 (d + 7) Kc377 :=
  ckf (d := (d + 6)) (Ks := [Kc270, Kc281, Kc288, Kc376]) (cy := 152) (cd := cdX7_gate) (nl := 5) (fuel := 1000) (Hs := [((26, 0), ([(0, (2, 0, 0, [150])), (1, (0, 1, 0, [])), (2, (0, 2, 0, [])), (3, (0, 3, 0, []))], [], [(0, 0), ((-2), 19), (iLo, 100000000), (0, 20)], []), [(0, 1, 0), (0, 2, 0), (0, 3, 0)], (40, [(3, (-2))]), [])]) (by decide +kernel) (by decide +kernel) (fun na b => by rw [← ceX7_gate]; exact tkX7_gate) (List.forall_mem_cons.mpr ⟨vc270 (d + 6), List.forall_mem_cons.mpr ⟨vc281 (d + 6), List.forall_mem_cons.mpr ⟨vc288 (d + 6), List.forall_mem_cons.mpr ⟨vc376 d, fun _ h => absurd h List.not_mem_nil⟩⟩⟩⟩) (cpyX (d + 6)) (by decide +kernel)
noncomputable def Kc378 : Con := ((242, [(2, 0, 0, [150]), (0, iLo, iHi, [])], []), [(160, 0, 4), (161, 0, 24), (165, 0, 5)], [(some (0, (-2), (-2), []), [], []), (some (0, 0, 5, []), [], [])])
set_option maxRecDepth 20000 in
theorem vc378 {l : Launch} {X : Nat × (Nat → Int32)} (d : Nat) : Vc l X U0 Pt0 1 (d + 2) Kc378 :=
  ckf (d := (d + 1)) (Ks := [Kc301, Kc309]) (cy := 152) (cd := cdX7_wrongBy) (nl := 4) (fuel := 1000) (Hs := [((22, 0), ([(0, (2, 0, 0, [150])), (2, (0, 1, 0, []))], [], [(0, 0), (0, 6)], []), [(0, 2, 0)], (1708, [(1, (-5))]), []), ((43, 0), ([(0, (2, 0, 0, [150])), (2, (0, 1, 0, []))], [], [(0, 0), (1, 41)], []), [(0, 2, 0)], (1712, [(1, (-40))]), []), ((60, 0), ([(0, (2, 0, 0, [150])), (2, (0, 1, 0, [])), (3, (0, 2, 0, []))], [], [(0, 0), (1, 40), (0, 6)], []), [(0, 2, 0), (0, 3, 0)], (1706, [(1, (-40)), (2, (-5))]), []), ((112, 0), ([(0, (2, 0, 0, [150])), (2, (0, 1, 0, []))], [], [(0, 0), (0, 6)], []), [(0, 2, 0)], (30, [(1, (-5))]), [])]) (by decide +kernel) (by decide +kernel) (fun na b => by rw [← ceX7_wrongBy]; exact tkX7_wrongBy) (List.forall_mem_cons.mpr ⟨vc301 d, List.forall_mem_cons.mpr ⟨vc309 d, fun _ h => absurd h List.not_mem_nil⟩⟩) (cpyX (d + 1)) (by decide +kernel)
noncomputable def Kc379 : Con := ((243, [(2, 0, 0, [150]), (0, iLo, iHi, [])], []), [(150, 36, 38), (160, 0, 4), (161, 0, 24), (165, 0, 5), (166, 0, 3)], [(some (0, (-1), 15, []), [], [])])
set_option maxRecDepth 20000 in
theorem vc379 {l : Launch} {X : Nat × (Nat → Int32)} (d : Nat) : Vc l X U0 Pt0 1 (d + 3) Kc379 :=
  ckf (d := (d + 2)) (Ks := [Kc378]) (cy := 152) (cd := cdX7_seekSets) (nl := 5) (fuel := 1000) (Hs := [((29, 0), ([(0, (2, 0, 0, [150])), (1, (0, 1, 0, [])), (2, (0, 0, (-1), [])), (3, (0, 2, 0, []))], [], [(0, 0), (iLo, iHi), (0, 4), (0, 15)], [(150, 36, (0, 0, 0, [])), (150, 37, (0, 0, 0, [])), (150, 38, (0, 3, 0, []))]), [(0, 1, 0), (0, 3, 0), (2, 150, 38)], (426, [(2, (-4))]), []), ((49, 0), ([(0, (2, 0, 0, [150])), (1, (0, 1, 0, [])), (2, (0, 2, 0, [])), (3, (0, 3, 0, []))], [], [(0, 0), (iLo, iHi), ((-1), 15), (0, 16), (iLo, iHi), (iLo, iHi), (0, 15)], [(150, 36, (0, 4, 0, [])), (150, 37, (0, 5, 0, [])), (150, 38, (0, 6, 0, []))]), [(0, 1, 0), (0, 2, 0), (0, 3, 0), (2, 150, 36), (2, 150, 37), (2, 150, 38)], (405, [(3, (-24))]), []), ((118, 0), ([(0, (2, 0, 0, [150])), (1, (0, 1, 0, [])), (2, (0, 2, 0, [])), (3, (0, 3, 0, [])), (4, (0, 4, 0, []))], [], [(0, 0), (iLo, iHi), ((-1), 15), (0, 15), (0, 4), (iLo, iHi), (iLo, iHi), (0, 15)], [(150, 36, (0, 5, 0, [])), (150, 37, (0, 6, 0, [])), (150, 38, (0, 7, 0, []))]), [(0, 1, 0), (0, 2, 0), (0, 3, 0), (0, 4, 0), (2, 150, 36), (2, 150, 37), (2, 150, 38)], (400, [(3, (-24)), (4, (-4))]), [])]) (by decide +kernel) (by decide +kernel) (fun na b => by rw [← ceX7_seekSets]; exact tkX7_seekSets) (List.forall_mem_cons.mpr ⟨vc378 d, fun _ h => absurd h List.not_mem_nil⟩) (cpyX (d + 2)) (by decide +kernel)
noncomputable def Kc380 : Con := ((244, [(2, 0, 0, [150])], []), [(150, 0, 0), (150, 11, 11), (150, 36, 38), (160, 0, 4), (161, 0, 24), (165, 0, 5), (166, 0, 3)], [(some (0, iLo, iHi, []), [], [])])
set_option maxRecDepth 20000 in
theorem vc380 {l : Launch} {X : Nat × (Nat → Int32)} (d : Nat) : Vc l X U0 Pt0 1 (d + 4) Kc380 :=
  ckf (d := (d + 3)) (Ks := [Kc270, Kc379]) (cy := 152) (cd := cdX7_fits) (nl := 1) (fuel := 1000) (Hs := []) (by decide +kernel) (by decide +kernel) (fun na b => by rw [← ceX7_fits]; exact tkX7_fits) (List.forall_mem_cons.mpr ⟨vc270 (d + 3), List.forall_mem_cons.mpr ⟨vc379 d, fun _ h => absurd h List.not_mem_nil⟩⟩) (cpyX (d + 3)) (by decide +kernel)
noncomputable def Kc381 : Con := ((245, [(2, 0, 0, [150]), (0, iLo, iHi, [])], []), [(150, 0, 0), (150, 11, 11), (150, 36, 38), (160, 0, 4), (161, 0, 24), (165, 0, 5), (166, 0, 3)], [(some (0, 0, 15, []), [(1, 0, iHi)], []), (some (0, (-1), (-1), []), [], [])])
set_option maxRecDepth 20000 in
theorem vc381 {l : Launch} {X : Nat × (Nat → Int32)} (d : Nat) : Vc l X U0 Pt0 1 (d + 4) Kc381 :=
  ckf (d := (d + 3)) (Ks := [Kc270, Kc379, Kc273]) (cy := 152) (cd := cdX7_fitAt) (nl := 3) (fuel := 1000) (Hs := []) (by decide +kernel) (by decide +kernel) (fun na b => by rw [← ceX7_fitAt]; exact tkX7_fitAt) (List.forall_mem_cons.mpr ⟨vc270 (d + 3), List.forall_mem_cons.mpr ⟨vc379 d, List.forall_mem_cons.mpr ⟨vc273 (d + 3), fun _ h => absurd h List.not_mem_nil⟩⟩⟩) (cpyX (d + 3)) (by decide +kernel)
noncomputable def Kc382 : Con := ((246, [(2, 0, 0, [150])], []), [(150, 0, 0), (150, 11, 11), (150, 36, 38), (160, 0, 4), (161, 0, 24), (165, 0, 5), (166, 0, 3)], [(some (0, iLo, iHi, []), [], [])])
set_option maxRecDepth 20000 in
theorem vc382 {l : Launch} {X : Nat × (Nat → Int32)} (d : Nat) : Vc l X U0 Pt0 1 (d + 4) Kc382 :=
  ckf (d := (d + 3)) (Ks := [Kc270, Kc379]) (cy := 152) (cd := cdX7_could) (nl := 1) (fuel := 1000) (Hs := []) (by decide +kernel) (by decide +kernel) (fun na b => by rw [← ceX7_could]; exact tkX7_could) (List.forall_mem_cons.mpr ⟨vc270 (d + 3), List.forall_mem_cons.mpr ⟨vc379 d, fun _ h => absurd h List.not_mem_nil⟩⟩) (cpyX (d + 3)) (by decide +kernel)
noncomputable def Kc383 : Con := ((247, [(2, 0, 0, [150])], []), [(150, 0, 0), (150, 11, 11), (150, 36, 38), (160, 0, 4), (161, 0, 24), (165, 0, 5), (166, 0, 3)], [(some (0, iLo, iHi, []), [], [])])
set_option maxRecDepth 20000 in
theorem vc383 {l : Launch} {X : Nat × (Nat → Int32)} (d : Nat) : Vc l X U0 Pt0 1 (d + 4) Kc383 :=
  ckf (d := (d + 3)) (Ks := [Kc270, Kc379]) (cy := 152) (cd := cdX7_surely) (nl := 1) (fuel := 1000) (Hs := []) (by decide +kernel) (by decide +kernel) (fun na b => by rw [← ceX7_surely]; exact tkX7_surely) (List.forall_mem_cons.mpr ⟨vc270 (d + 3), List.forall_mem_cons.mpr ⟨vc379 d, fun _ h => absurd h List.not_mem_nil⟩⟩) (cpyX (d + 3)) (by decide +kernel)
noncomputable def Kc384 : Con := ((248, [(2, 0, 0, [150]), (0, 0, 3, [])], []), [], [(some (0, iLo, iHi, []), [], [])])
set_option maxRecDepth 20000 in
theorem vc384 {l : Launch} {X : Nat × (Nat → Int32)} (d : Nat) : Vc l X U0 Pt0 1 d Kc384 :=
  ckf (d := d) (Ks := []) (cy := 152) (cd := cdX7_leavesOf) (nl := 2) (fuel := 1000) (Hs := []) (by decide +kernel) (by decide +kernel) (fun na b => by rw [← ceX7_leavesOf]; exact tkX7_leavesOf) (fun _ h => absurd h List.not_mem_nil) (cpyX d) (by decide +kernel)
noncomputable def Kc385 : Con := ((249, [(2, 0, 0, [150])], []), [(150, 36, 38), (160, 0, 4), (161, 0, 24), (165, 0, 5), (166, 0, 3)], [(some (0, (-2), 3, []), [], [])])
set_option maxRecDepth 20000 in
theorem vc385 {l : Launch} {X : Nat × (Nat → Int32)} (d : Nat) : Vc l X U0 Pt0 1 (d + 4) Kc385 :=
  ckf (d := (d + 3)) (Ks := [Kc379, Kc384]) (cy := 152) (cd := cdX7_askOf) (nl := 3) (fuel := 1000) (Hs := [((11, 0), ([(0, (2, 0, 0, [150])), (1, (0, 1, 0, [])), (2, (0, 2, 0, []))], [], [(0, 0), ((-2), 3), (0, 4)], []), [(0, 1, 0), (0, 2, 0)], (8, [(2, (-2))]), [])]) (by decide +kernel) (by decide +kernel) (fun na b => by rw [← ceX7_askOf]; exact tkX7_askOf) (List.forall_mem_cons.mpr ⟨vc379 d, List.forall_mem_cons.mpr ⟨vc384 (d + 3), fun _ h => absurd h List.not_mem_nil⟩⟩) (cpyX (d + 3)) (by decide +kernel)
noncomputable def Kc386 : Con := ((250, [(2, 0, 0, [150])], []), [(150, 0, 0), (150, 11, 11), (150, 36, 38), (160, 0, 4), (161, 0, 24), (165, 0, 5), (166, 0, 3)], [(some (0, (-2), 3, []), [], [])])
set_option maxRecDepth 20000 in
theorem vc386 {l : Launch} {X : Nat × (Nat → Int32)} (d : Nat) : Vc l X U0 Pt0 1 (d + 5) Kc386 :=
  ckf (d := (d + 4)) (Ks := [Kc270, Kc385]) (cy := 152) (cd := cdX7_ask) (nl := 1) (fuel := 1000) (Hs := []) (by decide +kernel) (by decide +kernel) (fun na b => by rw [← ceX7_ask]; exact tkX7_ask) (List.forall_mem_cons.mpr ⟨vc270 (d + 4), List.forall_mem_cons.mpr ⟨vc385 d, fun _ h => absurd h List.not_mem_nil⟩⟩) (cpyX (d + 4)) (by decide +kernel)
noncomputable def Kc387 : Con := ((251, [(2, 0, 0, [150])], []), [(150, 0, 0), (150, 11, 11), (150, 36, 38), (160, 0, 4), (161, 0, 24), (165, 0, 5), (166, 0, 3)], [(some (0, iLo, iHi, []), [], []), (some (0, (-2), (-2), []), [], [])])
set_option maxRecDepth 20000 in
theorem vc387 {l : Launch} {X : Nat × (Nat → Int32)} (d : Nat) : Vc l X U0 Pt0 1 (d + 5) Kc387 :=
  ckf (d := (d + 4)) (Ks := [Kc270, Kc385, Kc384]) (cy := 152) (cd := cdX7_askLeaves) (nl := 2) (fuel := 1000) (Hs := []) (by decide +kernel) (by decide +kernel) (fun na b => by rw [← ceX7_askLeaves]; exact tkX7_askLeaves) (List.forall_mem_cons.mpr ⟨vc270 (d + 4), List.forall_mem_cons.mpr ⟨vc385 d, List.forall_mem_cons.mpr ⟨vc384 (d + 4), fun _ h => absurd h List.not_mem_nil⟩⟩⟩) (cpyX (d + 4)) (by decide +kernel)
noncomputable def Kc388 : Con := ((252, [(2, 0, 0, [150])], []), [(150, 0, 0), (150, 11, 11), (160, 0, 4), (161, 0, 24), (165, 0, 5)], [(some (0, (-2), (-2), []), [], []), (some (0, 0, 5, []), [], [])])
set_option maxRecDepth 20000 in
theorem vc388 {l : Launch} {X : Nat × (Nat → Int32)} (d : Nat) : Vc l X U0 Pt0 1 (d + 3) Kc388 :=
  ckf (d := (d + 2)) (Ks := [Kc270, Kc378]) (cy := 152) (cd := cdX7_judge) (nl := 1) (fuel := 1000) (Hs := []) (by decide +kernel) (by decide +kernel) (fun na b => by rw [← ceX7_judge]; exact tkX7_judge) (List.forall_mem_cons.mpr ⟨vc270 (d + 2), List.forall_mem_cons.mpr ⟨vc378 d, fun _ h => absurd h List.not_mem_nil⟩⟩) (cpyX (d + 2)) (by decide +kernel)
noncomputable def Kc389 : Con := ((149, [(0, iLo, iHi, []), (0, 0, 0, []), (0, 9, 9, [])], []), [], [(some (0, 0, 0, []), [], []), (some (0, 1, 1, []), [(0, 0, 9)], [])])
set_option maxRecDepth 20000 in
theorem vc389 {l : Launch} {X : Nat × (Nat → Int32)} (d : Nat) : Vc l X U0 Pt0 1 d Kc389 :=
  ckf (d := d) (Ks := []) (cy := 152) (cd := cdX7_in) (nl := 3) (fuel := 1000) (Hs := []) (by decide +kernel) (by decide +kernel) (fun na b => by rw [← ceX7_in]; exact tkX7_in) (fun _ h => absurd h List.not_mem_nil) (cpyX d) (by decide +kernel)
noncomputable def Kc390 : Con := ((253, [(0, iLo, iHi, []), (0, iLo, iHi, []), (0, iLo, iHi, [])], []), [], [(some (0, iLo, iHi, []), [], [])])
set_option maxRecDepth 20000 in
theorem vc390 {l : Launch} {X : Nat × (Nat → Int32)} (d : Nat) : Vc l X U0 Pt0 1 d Kc390 :=
  ckf (d := d) (Ks := []) (cy := 152) (cd := cdX7_canonHas) (nl := 3) (fuel := 1000) (Hs := []) (by decide +kernel) (by decide +kernel) (fun na b => by rw [← ceX7_canonHas]; exact tkX7_canonHas) (fun _ h => absurd h List.not_mem_nil) (cpyX d) (by decide +kernel)
noncomputable def Kc391 : Con := ((254, [(0, iLo, iHi, []), (0, iLo, iHi, [])], []), [], [(some (0, 0, 3, []), [], [])])
set_option maxRecDepth 20000 in
theorem vc391 {l : Launch} {X : Nat × (Nat → Int32)} (d : Nat) : Vc l X U0 Pt0 1 d Kc391 :=
  ckf (d := d) (Ks := []) (cy := 152) (cd := cdX7_breadHas) (nl := 2) (fuel := 1000) (Hs := []) (by decide +kernel) (by decide +kernel) (fun na b => by rw [← ceX7_breadHas]; exact tkX7_breadHas) (fun _ h => absurd h List.not_mem_nil) (cpyX d) (by decide +kernel)
noncomputable def Kc392 : Con := ((255, [(2, 0, 0, [150]), (0, iLo, iHi, []), (0, iLo, iHi, []), (0, iLo, iHi, []), (0, iLo, iHi, [])], []), [(150, 0, 0), (150, 11, 11)], [(some (0, (-100), (-100), []), [], []), (some (0, iLo, iHi, []), [(1, 0, 9)], [])])
set_option maxRecDepth 20000 in
theorem vc392 {l : Launch} {X : Nat × (Nat → Int32)} (d : Nat) : Vc l X U0 Pt0 1 (d + 1) Kc392 :=
  ckf (d := d) (Ks := [Kc270, Kc389, Kc298, Kc299, Kc390, Kc391]) (cy := 152) (cd := cdX7_sulks) (nl := 6) (fuel := 1000) (Hs := []) (by decide +kernel) (by decide +kernel) (fun na b => by rw [← ceX7_sulks]; exact tkX7_sulks) (List.forall_mem_cons.mpr ⟨vc270 d, List.forall_mem_cons.mpr ⟨vc389 d, List.forall_mem_cons.mpr ⟨vc298 d, List.forall_mem_cons.mpr ⟨vc299 d, List.forall_mem_cons.mpr ⟨vc390 d, List.forall_mem_cons.mpr ⟨vc391 d, fun _ h => absurd h List.not_mem_nil⟩⟩⟩⟩⟩⟩) (cpyX d) (by decide +kernel)
noncomputable def Kc393 : Con := ((256, [(2, 0, 0, [150]), (0, iLo, iHi, [])], []), [(150, 39, 39)], [(some (0, iLo, iHi, []), [], [])])
set_option maxRecDepth 20000 in
theorem vc393 {l : Launch} {X : Nat × (Nat → Int32)} (d : Nat) : Vc l X U0 Pt0 1 (d + 1) Kc393 :=
  ckf (d := d) (Ks := [Kc390, Kc391]) (cy := 152) (cd := cdX7_seekRests) (nl := 6) (fuel := 1000) (Hs := [((10, 0), ([(0, (2, 0, 0, [150])), (1, (0, 1, 0, [])), (2, (0, 2, 0, [])), (3, (0, 3, 0, []))], [], [(0, 0), (iLo, iHi), (iLo, iHi), (0, 4), ((-2), 31)], [(150, 39, (0, 4, 0, []))]), [(0, 1, 0), (0, 2, 0), (0, 3, 0), (2, 150, 39)], (8, [(3, (-2))]), [])]) (by decide +kernel) (by decide +kernel) (fun na b => by rw [← ceX7_seekRests]; exact tkX7_seekRests) (List.forall_mem_cons.mpr ⟨vc390 d, List.forall_mem_cons.mpr ⟨vc391 d, fun _ h => absurd h List.not_mem_nil⟩⟩) (cpyX d) (by decide +kernel)
noncomputable def Kc394 : Con := ((257, [(2, 0, 0, [150]), (0, iLo, iHi, [])], []), [(150, 0, 0), (150, 11, 11), (150, 39, 39)], [(some (0, (-1), (-1), []), [], []), (some (0, iLo, iHi, []), [(1, 0, 9)], [])])
set_option maxRecDepth 20000 in
theorem vc394 {l : Launch} {X : Nat × (Nat → Int32)} (d : Nat) : Vc l X U0 Pt0 1 (d + 2) Kc394 :=
  ckf (d := (d + 1)) (Ks := [Kc270, Kc389, Kc298, Kc273, Kc299, Kc393]) (cy := 152) (cd := cdX7_rests) (nl := 3) (fuel := 1000) (Hs := []) (by decide +kernel) (by decide +kernel) (fun na b => by rw [← ceX7_rests]; exact tkX7_rests) (List.forall_mem_cons.mpr ⟨vc270 (d + 1), List.forall_mem_cons.mpr ⟨vc389 (d + 1), List.forall_mem_cons.mpr ⟨vc298 (d + 1), List.forall_mem_cons.mpr ⟨vc273 (d + 1), List.forall_mem_cons.mpr ⟨vc299 (d + 1), List.forall_mem_cons.mpr ⟨vc393 d, fun _ h => absurd h List.not_mem_nil⟩⟩⟩⟩⟩⟩) (cpyX (d + 1)) (by decide +kernel)
noncomputable def Kc395 : Con := ((258, [(2, 0, 0, [150]), (0, iLo, iHi, [])], []), [(150, 0, 0), (150, 11, 11), (150, 39, 39)], [(some (0, (-1), (-1), []), [], []), (some (0, iLo, iHi, []), [(1, 0, 9)], [])])
set_option maxRecDepth 20000 in
theorem vc395 {l : Launch} {X : Nat × (Nat → Int32)} (d : Nat) : Vc l X U0 Pt0 1 (d + 2) Kc395 :=
  ckf (d := (d + 1)) (Ks := [Kc270, Kc389, Kc298, Kc273, Kc299, Kc393]) (cy := 152) (cd := cdX7_rest) (nl := 3) (fuel := 1000) (Hs := []) (by decide +kernel) (by decide +kernel) (fun na b => by rw [← ceX7_rest]; exact tkX7_rest) (List.forall_mem_cons.mpr ⟨vc270 (d + 1), List.forall_mem_cons.mpr ⟨vc389 (d + 1), List.forall_mem_cons.mpr ⟨vc298 (d + 1), List.forall_mem_cons.mpr ⟨vc273 (d + 1), List.forall_mem_cons.mpr ⟨vc299 (d + 1), List.forall_mem_cons.mpr ⟨vc393 d, fun _ h => absurd h List.not_mem_nil⟩⟩⟩⟩⟩⟩) (cpyX (d + 1)) (by decide +kernel)
noncomputable def Kc396 : Con := ((149, [(0, iLo, iHi, []), (0, 0, 0, []), (0, 7, 7, [])], []), [], [(some (0, 0, 0, []), [], []), (some (0, 1, 1, []), [(0, 0, 7)], [])])
set_option maxRecDepth 20000 in
theorem vc396 {l : Launch} {X : Nat × (Nat → Int32)} (d : Nat) : Vc l X U0 Pt0 1 d Kc396 :=
  ckf (d := d) (Ks := []) (cy := 152) (cd := cdX7_in) (nl := 3) (fuel := 1000) (Hs := []) (by decide +kernel) (by decide +kernel) (fun na b => by rw [← ceX7_in]; exact tkX7_in) (fun _ h => absurd h List.not_mem_nil) (cpyX d) (by decide +kernel)
noncomputable def Kc397 : Con := ((259, [(2, 0, 0, [150]), (0, 0, 5, []), (0, 0, 7, [])], []), [(150, 40, 42), (160, 0, 4), (161, 0, 24)], [(none, [], [(150, 40, (1, 1, lHi, []))])])
set_option maxRecDepth 20000 in
theorem vc397 {l : Launch} {X : Nat × (Nat → Int32)} (d : Nat) : Vc l X U0 Pt0 1 (d + 6) Kc397 := vh_tryCalms (R := rwt0) rfl d ⟨fun M kr hI he h => vc310 (d + 3) [.ref 150, .int 0] M kr hI he ⟨⟨rfl, List.mem_singleton.mpr rfl⟩, ⟨rfl, by decide, by decide⟩, trivial⟩ (fun f hf => absurd hf List.not_mem_nil) (fun r M' hJ hp => by
  rw [r_none (by decide) hp]
  exact h M' (Jv_tr (Jv.rf hI he) hJ (by decide))), fun b M kr hb hI he h => vc309 (d + 4) [.ref 150, .ref 161, .int b] M kr hI he ⟨⟨rfl, List.mem_singleton.mpr rfl⟩, ⟨rfl, List.mem_singleton.mpr rfl⟩, ⟨rfl, i32_lo _, i32_hi _⟩, trivial⟩ (fun f hf => absurd hf List.not_mem_nil) (fun r M' hJ hp => by
  rw [r_none (by decide) hp]
  exact h M' (Jv_tr (Jv.rf hI he) hJ (by decide)))⟩
noncomputable def Kc398 : Con := ((153, [(1, lLo, lHi, []), (1, 1, lHi, []), (0, iLo, iHi, [])], []), [], [(some (1, lLo, lHi, []), [], [])])
set_option maxRecDepth 20000 in
theorem vc398 {l : Launch} {X : Nat × (Nat → Int32)} (d : Nat) : Vc l X U0 Pt0 1 (d + 0) Kc398 := vh_lowI d
noncomputable def Kc399 : Con := ((260, [(2, 0, 0, [150]), (0, iLo, iHi, []), (0, iLo, iHi, []), (0, iLo, iHi, [])], []), [(150, 0, 0), (150, 11, 11), (150, 40, 42), (160, 0, 4), (161, 0, 24)], [(some (1, lLo, lHi, []), [], [])])
set_option maxRecDepth 20000 in
theorem vc399 {l : Launch} {X : Nat × (Nat → Int32)} (d : Nat) : Vc l X U0 Pt0 1 (d + 7) Kc399 :=
  ckf (d := (d + 6)) (Ks := [Kc270, Kc272, Kc396, Kc295, Kc273, Kc296, Kc298, Kc299, Kc397, Kc398]) (cy := 152) (cd := cdX7_odds) (nl := 5) (fuel := 1000) (Hs := []) (by decide +kernel) (by decide +kernel) (fun na b => by rw [← ceX7_odds]; exact tkX7_odds) (List.forall_mem_cons.mpr ⟨vc270 (d + 6), List.forall_mem_cons.mpr ⟨vc272 (d + 5), List.forall_mem_cons.mpr ⟨vc396 (d + 6), List.forall_mem_cons.mpr ⟨vc295 (d + 6), List.forall_mem_cons.mpr ⟨vc273 (d + 6), List.forall_mem_cons.mpr ⟨vc296 (d + 6), List.forall_mem_cons.mpr ⟨vc298 (d + 6), List.forall_mem_cons.mpr ⟨vc299 (d + 6), List.forall_mem_cons.mpr ⟨vc397 d, List.forall_mem_cons.mpr ⟨vc398 (d + 6), fun _ h => absurd h List.not_mem_nil⟩⟩⟩⟩⟩⟩⟩⟩⟩⟩) (cpyX (d + 6)) (by decide +kernel)
noncomputable def Kc400 : Con := ((261, [(2, 0, 0, [150]), (0, iLo, iHi, []), (0, iLo, iHi, []), (0, iLo, iHi, [])], []), [(150, 0, 0), (150, 11, 11), (150, 40, 42), (160, 0, 4), (161, 0, 24)], [(some (1, lLo, lHi, []), [], [])])
set_option maxRecDepth 20000 in
theorem vc400 {l : Launch} {X : Nat × (Nat → Int32)} (d : Nat) : Vc l X U0 Pt0 1 (d + 7) Kc400 :=
  ckf (d := (d + 6)) (Ks := [Kc270, Kc272, Kc396, Kc295, Kc273, Kc296, Kc298, Kc299, Kc397, Kc398]) (cy := 152) (cd := cdX7_mean) (nl := 5) (fuel := 1000) (Hs := []) (by decide +kernel) (by decide +kernel) (fun na b => by rw [← ceX7_mean]; exact tkX7_mean) (List.forall_mem_cons.mpr ⟨vc270 (d + 6), List.forall_mem_cons.mpr ⟨vc272 (d + 5), List.forall_mem_cons.mpr ⟨vc396 (d + 6), List.forall_mem_cons.mpr ⟨vc295 (d + 6), List.forall_mem_cons.mpr ⟨vc273 (d + 6), List.forall_mem_cons.mpr ⟨vc296 (d + 6), List.forall_mem_cons.mpr ⟨vc298 (d + 6), List.forall_mem_cons.mpr ⟨vc299 (d + 6), List.forall_mem_cons.mpr ⟨vc397 d, List.forall_mem_cons.mpr ⟨vc398 (d + 6), fun _ h => absurd h List.not_mem_nil⟩⟩⟩⟩⟩⟩⟩⟩⟩⟩) (cpyX (d + 6)) (by decide +kernel)
noncomputable def Kc401 : Con := ((149, [(0, iLo, iHi, []), (0, 0, 0, []), (0, 65536, 65536, [])], []), [], [(some (0, 0, 0, []), [], []), (some (0, 1, 1, []), [(0, 0, 65536)], [])])
set_option maxRecDepth 20000 in
theorem vc401 {l : Launch} {X : Nat × (Nat → Int32)} (d : Nat) : Vc l X U0 Pt0 1 d Kc401 :=
  ckf (d := d) (Ks := []) (cy := 152) (cd := cdX7_in) (nl := 3) (fuel := 1000) (Hs := []) (by decide +kernel) (by decide +kernel) (fun na b => by rw [← ceX7_in]; exact tkX7_in) (fun _ h => absurd h List.not_mem_nil) (cpyX d) (by decide +kernel)
noncomputable def Kc402 : Con := ((262, [(2, 0, 0, [150]), (0, 0, 0, []), (0, iLo, iHi, []), (0, iLo, iHi, [])], []), [], [(some (0, 1, 1, []), [], [])])
set_option maxRecDepth 20000 in
theorem vc402 {l : Launch} {X : Nat × (Nat → Int32)} (d : Nat) : Vc l X U0 Pt0 1 (d + 1) Kc402 :=
  ckf (d := d) (Ks := [Kc401, Kc295, Kc294, Kc296]) (cy := 152) (cd := cdX7_drawWhy) (nl := 7) (fuel := 1000) (Hs := []) (by decide +kernel) (by decide +kernel) (fun na b => by rw [← ceX7_drawWhy]; exact tkX7_drawWhy) (List.forall_mem_cons.mpr ⟨vc401 d, List.forall_mem_cons.mpr ⟨vc295 d, List.forall_mem_cons.mpr ⟨vc294 d, List.forall_mem_cons.mpr ⟨vc296 d, fun _ h => absurd h List.not_mem_nil⟩⟩⟩⟩) (cpyX d) (by decide +kernel)
noncomputable def Kc403 : Con := ((262, [(2, 0, 0, [150]), (0, 1, 1, []), (0, iLo, iHi, []), (0, iLo, iHi, [])], []), [(150, 43, 43), (160, 0, 4), (161, 0, 24)], [(some (0, 2, 2, []), [], []), (some (0, 0, 0, []), [(2, 0, 65536), (3, 0, 60)], [])])
set_option maxRecDepth 20000 in
theorem vc403 {l : Launch} {X : Nat × (Nat → Int32)} (d : Nat) : Vc l X U0 Pt0 1 (d + 3) Kc403 :=
  ckf (d := (d + 2)) (Ks := [Kc401, Kc298, Kc294, Kc299, Kc310, Kc309]) (cy := 152) (cd := cdX7_drawWhy) (nl := 7) (fuel := 1000) (Hs := [((58, 0), ([(0, (2, 0, 0, [150])), (3, (0, 1, 0, [])), (5, (0, 2, 0, [])), (6, (0, 3, 0, [])), (1000, (2, 0, 0, [150])), (1001, (0, 4, 0, [])), (1002, (0, 5, 0, [])), (1003, (0, 1, 0, []))], [], [(0, 0), (0, 60), (0, 65536), (1, 61), (1, 1), (0, 65536), ((-2), 60)], [(150, 43, (0, 6, 0, []))]), [(0, 3, 0), (0, 5, 0), (0, 6, 0), (0, 1001, 0), (0, 1002, 0), (2, 150, 43)], (122, [(3, (-2))]), [])]) (by decide +kernel) (by decide +kernel) (fun na b => by rw [← ceX7_drawWhy]; exact tkX7_drawWhy) (List.forall_mem_cons.mpr ⟨vc401 (d + 2), List.forall_mem_cons.mpr ⟨vc298 (d + 2), List.forall_mem_cons.mpr ⟨vc294 (d + 2), List.forall_mem_cons.mpr ⟨vc299 (d + 2), List.forall_mem_cons.mpr ⟨vc310 d, List.forall_mem_cons.mpr ⟨vc309 (d + 1), fun _ h => absurd h List.not_mem_nil⟩⟩⟩⟩⟩⟩) (cpyX (d + 2)) (by decide +kernel)
noncomputable def Kc404 : Con := ((263, [(2, 0, 0, [150]), (0, iLo, iHi, []), (0, iLo, iHi, []), (0, iLo, iHi, [])], []), [(150, 0, 0), (150, 11, 11), (150, 43, 43), (160, 0, 4), (161, 0, 24)], [(some (0, (-1), (-1), []), [], []), (some (0, iLo, iHi, []), [(1, 0, 5), (2, 0, 65536), (3, 0, 60)], [])])
set_option maxRecDepth 20000 in
theorem vc404 {l : Launch} {X : Nat × (Nat → Int32)} (d : Nat) : Vc l X U0 Pt0 1 (d + 4) Kc404 :=
  ckf (d := (d + 3)) (Ks := [Kc270, Kc272, Kc402, Kc273, Kc403]) (cy := 152) (cd := cdX7_borne) (nl := 5) (fuel := 1000) (Hs := []) (by decide +kernel) (by decide +kernel) (fun na b => by rw [← ceX7_borne]; exact tkX7_borne) (List.forall_mem_cons.mpr ⟨vc270 (d + 3), List.forall_mem_cons.mpr ⟨vc272 (d + 2), List.forall_mem_cons.mpr ⟨vc402 (d + 2), List.forall_mem_cons.mpr ⟨vc273 (d + 3), List.forall_mem_cons.mpr ⟨vc403 d, fun _ h => absurd h List.not_mem_nil⟩⟩⟩⟩⟩) (cpyX (d + 3)) (by decide +kernel)
noncomputable def Kc405 : Con := ((264, [(2, 0, 0, [150]), (0, iLo, iHi, []), (0, iLo, iHi, [])], []), [(150, 0, 0), (150, 11, 11), (150, 43, 43), (160, 0, 4), (161, 0, 24)], [(some (0, (-1), (-1), []), [], []), (some (0, iLo, iHi, []), [(1, 0, 65536), (2, 0, 60)], [])])
set_option maxRecDepth 20000 in
theorem vc405 {l : Launch} {X : Nat × (Nat → Int32)} (d : Nat) : Vc l X U0 Pt0 1 (d + 4) Kc405 :=
  ckf (d := (d + 3)) (Ks := [Kc270, Kc403, Kc273]) (cy := 152) (cd := cdX7_firstWet) (nl := 4) (fuel := 1000) (Hs := []) (by decide +kernel) (by decide +kernel) (fun na b => by rw [← ceX7_firstWet]; exact tkX7_firstWet) (List.forall_mem_cons.mpr ⟨vc270 (d + 3), List.forall_mem_cons.mpr ⟨vc403 d, List.forall_mem_cons.mpr ⟨vc273 (d + 3), fun _ h => absurd h List.not_mem_nil⟩⟩⟩) (cpyX (d + 3)) (by decide +kernel)
noncomputable def Kc406 : Con := ((265, [(2, 0, 0, [150])], []), [(150, 22, 22), (158, 0, 399)], [(none, [], [])])
set_option maxRecDepth 20000 in
theorem vc406 {l : Launch} {X : Nat × (Nat → Int32)} (d : Nat) : Vc l X U0 Pt0 1 (d + 1) Kc406 :=
  ckf (d := d) (Ks := []) (cy := 152) (cd := cdX7_note) (nl := 2) (fuel := 1000) (Hs := [((49, 1), ([(0, (2, 0, 0, [150]))], [], [(0, 0), (0, 15)], [(150, 22, (0, 1, 0, []))]), [(2, 150, 22)], (0, []), []), ((11, 1), ([(0, (2, 0, 0, [150])), (1, (0, 1, 0, []))], [], [(0, 0), (0, 375), (16, 16)], [(150, 22, (0, 2, 0, []))]), [(0, 1, 0), (2, 150, 22)], (1126, [(1, (-3))]), [])]) (by decide +kernel) (by decide +kernel) (fun na b => by rw [← ceX7_note]; exact tkX7_note) (fun _ h => absurd h List.not_mem_nil) (cpyX d) (by decide +kernel)
noncomputable def Kc407 : Con := ((192, [(2, 0, 0, [150]), (2, 0, 0, [157]), (0, 0, 5, [])], []), [], [(some (0, iLo, iHi, []), [], [])])
set_option maxRecDepth 20000 in
theorem vc407 {l : Launch} {X : Nat × (Nat → Int32)} (d : Nat) : Vc l X U0 Pt0 1 d Kc407 :=
  ckf (d := d) (Ks := []) (cy := 152) (cd := cdX7_letsGo) (nl := 6) (fuel := 1000) (Hs := []) (by decide +kernel) (by decide +kernel) (fun na b => by rw [← ceX7_letsGo]; exact tkX7_letsGo) (fun _ h => absurd h List.not_mem_nil) (cpyX d) (by decide +kernel)
noncomputable def Kc408 : Con := ((193, [(2, 0, 0, [150]), (2, 0, 0, [157]), (0, iLo, iHi, [])], [(153, 5, (0, 0, 0, []))]), [(157, 0, 17), (157, 23, 24)], [(none, [], [])])
set_option maxRecDepth 20000 in
theorem vc408 {l : Launch} {X : Nat × (Nat → Int32)} (d : Nat) : Vc l X U0 Pt0 1 (d + 1) Kc408 :=
  ckf (d := d) (Ks := [Kc407]) (cy := 152) (cd := cdX7_dayOn) (nl := 5) (fuel := 1000) (Hs := [((15, 0), ([(0, (2, 0, 0, [150])), (1, (2, 0, 0, [157])), (2, (0, 1, 0, [])), (3, (0, 0, 0, []))], [], [(0, 0), (iLo, iHi), (0, 0)], [(153, 5, (0, 2, 0, []))]), [(0, 2, 0), (2, 153, 5)], (22, []), []), ((89, 0), ([(0, (2, 0, 0, [150])), (1, (2, 0, 0, [157])), (3, (0, 1, 0, []))], [], [(0, 0), (0, 6), (0, 0)], [(153, 5, (0, 2, 0, []))]), [(0, 3, 0), (2, 153, 5)], (18, [(1, (-3))]), [])]) (by decide +kernel) (by decide +kernel) (fun na b => by rw [← ceX7_dayOn]; exact tkX7_dayOn) (List.forall_mem_cons.mpr ⟨vc407 d, fun _ h => absurd h List.not_mem_nil⟩) (cpyX d) (by decide +kernel)
noncomputable def Kc409 : Con := ((193, [(2, 0, 0, [150]), (2, 0, 0, [157]), (0, iLo, iHi, [])], [(153, 5, (0, 1, 1, [])), (153, 36, (0, 1, 30, []))]), [(157, 0, 17), (157, 23, 24)], [(none, [], [])])
set_option maxRecDepth 20000 in
theorem vc409 {l : Launch} {X : Nat × (Nat → Int32)} (d : Nat) : Vc l X U0 Pt0 1 (d + 1) Kc409 :=
  ckf (d := d) (Ks := [Kc407]) (cy := 152) (cd := cdX7_dayOn) (nl := 5) (fuel := 1000) (Hs := [((15, 2), ([(0, (2, 0, 0, [150])), (1, (2, 0, 0, [157])), (2, (0, 1, 0, [])), (3, (0, 2, 0, []))], [], [(0, 0), (iLo, iHi), (0, 1), (1, 1), (1, 30)], [(153, 5, (0, 3, 0, [])), (153, 36, (0, 4, 0, []))]), [(0, 2, 0), (0, 3, 0), (2, 153, 5), (2, 153, 36)], (25, [(2, (-3))]), []), ((89, 0), ([(0, (2, 0, 0, [150])), (1, (2, 0, 0, [157])), (3, (0, 1, 0, []))], [], [(0, 0), (0, 6), (1, 1), (1, 30)], [(153, 5, (0, 2, 0, [])), (153, 36, (0, 3, 0, []))]), [(0, 3, 0), (2, 153, 5), (2, 153, 36)], (18, [(1, (-3))]), [])]) (by decide +kernel) (by decide +kernel) (fun na b => by rw [← ceX7_dayOn]; exact tkX7_dayOn) (List.forall_mem_cons.mpr ⟨vc407 d, fun _ h => absurd h List.not_mem_nil⟩) (cpyX d) (by decide +kernel)
noncomputable def Kc410 : Con := ((193, [(2, 0, 0, [150]), (2, 0, 0, [157]), (0, iLo, iHi, [])], [(153, 5, (0, 2, 2, [])), (153, 36, (0, 1, 30, [])), (153, 38, (0, 1, 30, []))]), [(157, 0, 17), (157, 23, 24)], [(none, [], [])])
set_option maxRecDepth 20000 in
theorem vc410 {l : Launch} {X : Nat × (Nat → Int32)} (d : Nat) : Vc l X U0 Pt0 1 (d + 1) Kc410 :=
  ckf (d := d) (Ks := [Kc407]) (cy := 152) (cd := cdX7_dayOn) (nl := 5) (fuel := 1000) (Hs := [((15, 2), ([(0, (2, 0, 0, [150])), (1, (2, 0, 0, [157])), (2, (0, 1, 0, [])), (3, (0, 2, 0, []))], [], [(0, 0), (iLo, iHi), (0, 2), (2, 2), (1, 30), (1, 30)], [(153, 5, (0, 3, 0, [])), (153, 36, (0, 4, 0, [])), (153, 38, (0, 5, 0, []))]), [(0, 2, 0), (0, 3, 0), (2, 153, 5), (2, 153, 36), (2, 153, 38)], (28, [(2, (-3))]), []), ((89, 0), ([(0, (2, 0, 0, [150])), (1, (2, 0, 0, [157])), (3, (0, 1, 0, []))], [], [(0, 0), (0, 6), (2, 2), (1, 30), (1, 30)], [(153, 5, (0, 2, 0, [])), (153, 36, (0, 3, 0, [])), (153, 38, (0, 4, 0, []))]), [(0, 3, 0), (2, 153, 5), (2, 153, 36), (2, 153, 38)], (18, [(1, (-3))]), [])]) (by decide +kernel) (by decide +kernel) (fun na b => by rw [← ceX7_dayOn]; exact tkX7_dayOn) (List.forall_mem_cons.mpr ⟨vc407 d, fun _ h => absurd h List.not_mem_nil⟩) (cpyX d) (by decide +kernel)
noncomputable def Kc411 : Con := ((193, [(2, 0, 0, [150]), (2, 0, 0, [157]), (0, iLo, iHi, [])], [(153, 5, (0, 3, 3, [])), (153, 36, (0, 1, 30, [])), (153, 38, (0, 1, 30, [])), (153, 40, (0, 1, 30, []))]), [(157, 0, 17), (157, 23, 24)], [(none, [], [])])
set_option maxRecDepth 20000 in
theorem vc411 {l : Launch} {X : Nat × (Nat → Int32)} (d : Nat) : Vc l X U0 Pt0 1 (d + 1) Kc411 :=
  ckf (d := d) (Ks := [Kc407]) (cy := 152) (cd := cdX7_dayOn) (nl := 5) (fuel := 1000) (Hs := [((15, 2), ([(0, (2, 0, 0, [150])), (1, (2, 0, 0, [157])), (2, (0, 1, 0, [])), (3, (0, 2, 0, []))], [], [(0, 0), (iLo, iHi), (0, 3), (3, 3), (1, 30), (1, 30), (1, 30)], [(153, 5, (0, 3, 0, [])), (153, 36, (0, 4, 0, [])), (153, 38, (0, 5, 0, [])), (153, 40, (0, 6, 0, []))]), [(0, 2, 0), (0, 3, 0), (2, 153, 5), (2, 153, 36), (2, 153, 38), (2, 153, 40)], (31, [(2, (-3))]), []), ((89, 0), ([(0, (2, 0, 0, [150])), (1, (2, 0, 0, [157])), (3, (0, 1, 0, []))], [], [(0, 0), (0, 6), (3, 3), (1, 30), (1, 30), (1, 30)], [(153, 5, (0, 2, 0, [])), (153, 36, (0, 3, 0, [])), (153, 38, (0, 4, 0, [])), (153, 40, (0, 5, 0, []))]), [(0, 3, 0), (2, 153, 5), (2, 153, 36), (2, 153, 38), (2, 153, 40)], (18, [(1, (-3))]), [])]) (by decide +kernel) (by decide +kernel) (fun na b => by rw [← ceX7_dayOn]; exact tkX7_dayOn) (List.forall_mem_cons.mpr ⟨vc407 d, fun _ h => absurd h List.not_mem_nil⟩) (cpyX d) (by decide +kernel)
noncomputable def Kc412 : Con := ((193, [(2, 0, 0, [150]), (2, 0, 0, [157]), (0, iLo, iHi, [])], [(153, 5, (0, 4, 4, [])), (153, 36, (0, 1, 30, [])), (153, 38, (0, 1, 30, [])), (153, 40, (0, 1, 30, [])), (153, 42, (0, 1, 30, []))]), [(157, 0, 17), (157, 23, 24)], [(none, [], [])])
set_option maxRecDepth 20000 in
theorem vc412 {l : Launch} {X : Nat × (Nat → Int32)} (d : Nat) : Vc l X U0 Pt0 1 (d + 1) Kc412 :=
  ckf (d := d) (Ks := [Kc407]) (cy := 152) (cd := cdX7_dayOn) (nl := 5) (fuel := 1000) (Hs := [((15, 2), ([(0, (2, 0, 0, [150])), (1, (2, 0, 0, [157])), (2, (0, 1, 0, [])), (3, (0, 2, 0, []))], [], [(0, 0), (iLo, iHi), (0, 4), (4, 4), (1, 30), (1, 30), (1, 30), (1, 30)], [(153, 5, (0, 3, 0, [])), (153, 36, (0, 4, 0, [])), (153, 38, (0, 5, 0, [])), (153, 40, (0, 6, 0, [])), (153, 42, (0, 7, 0, []))]), [(0, 2, 0), (0, 3, 0), (2, 153, 5), (2, 153, 36), (2, 153, 38), (2, 153, 40), (2, 153, 42)], (34, [(2, (-3))]), []), ((89, 0), ([(0, (2, 0, 0, [150])), (1, (2, 0, 0, [157])), (3, (0, 1, 0, []))], [], [(0, 0), (0, 6), (4, 4), (1, 30), (1, 30), (1, 30), (1, 30)], [(153, 5, (0, 2, 0, [])), (153, 36, (0, 3, 0, [])), (153, 38, (0, 4, 0, [])), (153, 40, (0, 5, 0, [])), (153, 42, (0, 6, 0, []))]), [(0, 3, 0), (2, 153, 5), (2, 153, 36), (2, 153, 38), (2, 153, 40), (2, 153, 42)], (18, [(1, (-3))]), [])]) (by decide +kernel) (by decide +kernel) (fun na b => by rw [← ceX7_dayOn]; exact tkX7_dayOn) (List.forall_mem_cons.mpr ⟨vc407 d, fun _ h => absurd h List.not_mem_nil⟩) (cpyX d) (by decide +kernel)
noncomputable def Kc413 : Con := ((193, [(2, 0, 0, [150]), (2, 0, 0, [157]), (0, iLo, iHi, [])], [(153, 5, (0, 5, 5, [])), (153, 36, (0, 1, 30, [])), (153, 38, (0, 1, 30, [])), (153, 40, (0, 1, 30, [])), (153, 42, (0, 1, 30, [])), (153, 44, (0, 1, 30, []))]), [(157, 0, 17), (157, 23, 24)], [(none, [], [])])
set_option maxRecDepth 20000 in
theorem vc413 {l : Launch} {X : Nat × (Nat → Int32)} (d : Nat) : Vc l X U0 Pt0 1 (d + 1) Kc413 :=
  ckf (d := d) (Ks := [Kc407]) (cy := 152) (cd := cdX7_dayOn) (nl := 5) (fuel := 1000) (Hs := [((15, 2), ([(0, (2, 0, 0, [150])), (1, (2, 0, 0, [157])), (2, (0, 1, 0, [])), (3, (0, 2, 0, []))], [], [(0, 0), (iLo, iHi), (0, 5), (5, 5), (1, 30), (1, 30), (1, 30), (1, 30), (1, 30)], [(153, 5, (0, 3, 0, [])), (153, 36, (0, 4, 0, [])), (153, 38, (0, 5, 0, [])), (153, 40, (0, 6, 0, [])), (153, 42, (0, 7, 0, [])), (153, 44, (0, 8, 0, []))]), [(0, 2, 0), (0, 3, 0), (2, 153, 5), (2, 153, 36), (2, 153, 38), (2, 153, 40), (2, 153, 42), (2, 153, 44)], (37, [(2, (-3))]), []), ((89, 0), ([(0, (2, 0, 0, [150])), (1, (2, 0, 0, [157])), (3, (0, 1, 0, []))], [], [(0, 0), (0, 6), (5, 5), (1, 30), (1, 30), (1, 30), (1, 30), (1, 30)], [(153, 5, (0, 2, 0, [])), (153, 36, (0, 3, 0, [])), (153, 38, (0, 4, 0, [])), (153, 40, (0, 5, 0, [])), (153, 42, (0, 6, 0, [])), (153, 44, (0, 7, 0, []))]), [(0, 3, 0), (2, 153, 5), (2, 153, 36), (2, 153, 38), (2, 153, 40), (2, 153, 42), (2, 153, 44)], (18, [(1, (-3))]), [])]) (by decide +kernel) (by decide +kernel) (fun na b => by rw [← ceX7_dayOn]; exact tkX7_dayOn) (List.forall_mem_cons.mpr ⟨vc407 d, fun _ h => absurd h List.not_mem_nil⟩) (cpyX d) (by decide +kernel)
noncomputable def Kc414 : Con := ((193, [(2, 0, 0, [150]), (2, 0, 0, [157]), (0, iLo, iHi, [])], []), [(157, 0, 17), (157, 23, 24)], [(none, [], [])])
set_option maxRecDepth 20000 in
theorem vc414 {l : Launch} {X : Nat × (Nat → Int32)} (d : Nat) : Vc l X U0 Pt0 1 (d + 1) Kc414 := byC dfC dfC_ok (fun C hC => by
  rcases (show C = 0 ∨ C = 1 ∨ C = 2 ∨ C = 3 ∨ C = 4 ∨ C = 5 by omega) with rfl | rfl | rfl | rfl | rfl | rfl
  · exact ⟨_, vc408 d, by decide⟩
  · exact ⟨_, vc409 d, by decide⟩
  · exact ⟨_, vc410 d, by decide⟩
  · exact ⟨_, vc411 d, by decide⟩
  · exact ⟨_, vc412 d, by decide⟩
  · exact ⟨_, vc413 d, by decide⟩)
noncomputable def Kc415 : Con := ((266, [(2, 0, 0, [150])], []), [(150, 0, 0), (150, 11, 11), (150, 22, 22), (157, 0, 17), (157, 23, 24), (158, 0, 399), (160, 0, 4)], [(some (0, iLo, iHi, []), [], []), (some (0, (-1), (-1), []), [], [])])
set_option maxRecDepth 20000 in
theorem vc415 {l : Launch} {X : Nat × (Nat → Int32)} (d : Nat) : Vc l X U0 Pt0 1 (d + 2) Kc415 :=
  ckf (d := (d + 1)) (Ks := [Kc270, Kc406, Kc301, Kc414, Kc273]) (cy := 152) (cd := cdX7_day) (nl := 1) (fuel := 1000) (Hs := []) (by decide +kernel) (by decide +kernel) (fun na b => by rw [← ceX7_day]; exact tkX7_day) (List.forall_mem_cons.mpr ⟨vc270 (d + 1), List.forall_mem_cons.mpr ⟨vc406 d, List.forall_mem_cons.mpr ⟨vc301 d, List.forall_mem_cons.mpr ⟨vc414 d, List.forall_mem_cons.mpr ⟨vc273 (d + 1), fun _ h => absurd h List.not_mem_nil⟩⟩⟩⟩⟩) (cpyX (d + 1)) (by decide +kernel)
noncomputable def Kc416 : Con := ((267, [(2, 0, 0, [150]), (0, iLo, iHi, []), (0, iLo, iHi, [])], []), [(150, 0, 0), (150, 11, 11), (150, 22, 22), (157, 18, 22), (158, 0, 399)], [(some (0, (-1), (-1), []), [], []), (some (0, 0, 5, []), [(1, 0, 4), (2, 0, 5)], [])])
set_option maxRecDepth 20000 in
theorem vc416 {l : Launch} {X : Nat × (Nat → Int32)} (d : Nat) : Vc l X U0 Pt0 1 (d + 2) Kc416 :=
  ckf (d := (d + 1)) (Ks := [Kc270, Kc278, Kc273, Kc272, Kc275, Kc406]) (cy := 152) (cd := cdX7_give) (nl := 4) (fuel := 1000) (Hs := []) (by decide +kernel) (by decide +kernel) (fun na b => by rw [← ceX7_give]; exact tkX7_give) (List.forall_mem_cons.mpr ⟨vc270 (d + 1), List.forall_mem_cons.mpr ⟨vc278 d, List.forall_mem_cons.mpr ⟨vc273 (d + 1), List.forall_mem_cons.mpr ⟨vc272 d, List.forall_mem_cons.mpr ⟨vc275 (d + 1), List.forall_mem_cons.mpr ⟨vc406 d, fun _ h => absurd h List.not_mem_nil⟩⟩⟩⟩⟩⟩) (cpyX (d + 1)) (by decide +kernel)
noncomputable def Kc417 : Con := ((148, [(2, 0, 0, [150]), (0, iLo, iHi, [])], []), [(150, 11, 11)], [(some (0, 0, 0, []), [], [])])
set_option maxRecDepth 20000 in
theorem vc417 {l : Launch} {X : Nat × (Nat → Int32)} (d : Nat) : Vc l X U0 Pt0 1 d Kc417 :=
  ckf (d := d) (Ks := []) (cy := 152) (cd := cdX7_isNot) (nl := 2) (fuel := 1000) (Hs := []) (by decide +kernel) (by decide +kernel) (fun na b => by rw [← ceX7_isNot]; exact tkX7_isNot) (fun _ h => absurd h List.not_mem_nil) (cpyX d) (by decide +kernel)
noncomputable def Kc418 : Con := ((268, [(2, 0, 0, [150]), (0, iLo, iHi, [])], []), [(150, 0, 0), (150, 11, 11), (150, 22, 22), (157, 0, 11), (158, 0, 399)], [(some (0, 0, 0, []), [], []), (some (0, 1, 1, []), [(1, 0, 5)], [])])
set_option maxRecDepth 20000 in
theorem vc418 {l : Launch} {X : Nat × (Nat → Int32)} (d : Nat) : Vc l X U0 Pt0 1 (d + 2) Kc418 :=
  ckf (d := (d + 1)) (Ks := [Kc270, Kc272, Kc417, Kc406]) (cy := 152) (cd := cdX7_mend) (nl := 3) (fuel := 1000) (Hs := []) (by decide +kernel) (by decide +kernel) (fun na b => by rw [← ceX7_mend]; exact tkX7_mend) (List.forall_mem_cons.mpr ⟨vc270 (d + 1), List.forall_mem_cons.mpr ⟨vc272 d, List.forall_mem_cons.mpr ⟨vc417 (d + 1), List.forall_mem_cons.mpr ⟨vc406 d, fun _ h => absurd h List.not_mem_nil⟩⟩⟩⟩) (cpyX (d + 1)) (by decide +kernel)
noncomputable def Kc419 : Con := ((149, [(0, iLo, iHi, []), (0, 1, 1, []), (0, 99, 99, [])], []), [], [(some (0, 0, 0, []), [], []), (some (0, 1, 1, []), [(0, 1, 99)], [])])
set_option maxRecDepth 20000 in
theorem vc419 {l : Launch} {X : Nat × (Nat → Int32)} (d : Nat) : Vc l X U0 Pt0 1 d Kc419 :=
  ckf (d := d) (Ks := []) (cy := 152) (cd := cdX7_in) (nl := 3) (fuel := 1000) (Hs := []) (by decide +kernel) (by decide +kernel) (fun na b => by rw [← ceX7_in]; exact tkX7_in) (fun _ h => absurd h List.not_mem_nil) (cpyX d) (by decide +kernel)
noncomputable def Kc420 : Con := ((269, [(2, 0, 0, [150]), (0, iLo, iHi, []), (0, iLo, iHi, [])], []), [(150, 0, 0), (150, 11, 11), (150, 22, 22), (157, 6, 11), (158, 0, 399)], [(some (0, (-1), (-1), []), [], []), (some (0, iLo, iHi, []), [(1, 0, 5), (2, 1, 99)], [])])
set_option maxRecDepth 20000 in
theorem vc420 {l : Launch} {X : Nat × (Nat → Int32)} (d : Nat) : Vc l X U0 Pt0 1 (d + 2) Kc420 :=
  ckf (d := (d + 1)) (Ks := [Kc270, Kc272, Kc419, Kc295, Kc273, Kc296, Kc298, Kc299, Kc406]) (cy := 152) (cd := cdX7_vex) (nl := 4) (fuel := 1000) (Hs := []) (by decide +kernel) (by decide +kernel) (fun na b => by rw [← ceX7_vex]; exact tkX7_vex) (List.forall_mem_cons.mpr ⟨vc270 (d + 1), List.forall_mem_cons.mpr ⟨vc272 d, List.forall_mem_cons.mpr ⟨vc419 (d + 1), List.forall_mem_cons.mpr ⟨vc295 (d + 1), List.forall_mem_cons.mpr ⟨vc273 (d + 1), List.forall_mem_cons.mpr ⟨vc296 (d + 1), List.forall_mem_cons.mpr ⟨vc298 (d + 1), List.forall_mem_cons.mpr ⟨vc299 (d + 1), List.forall_mem_cons.mpr ⟨vc406 d, fun _ h => absurd h List.not_mem_nil⟩⟩⟩⟩⟩⟩⟩⟩⟩) (cpyX (d + 1)) (by decide +kernel)
noncomputable def Kc421 : Con := ((270, [(2, 0, 0, [150])], []), [(150, 0, 0), (150, 11, 11), (150, 22, 22), (157, 0, 24)], [(some (0, 0, 0, []), [], []), (some (0, 1, 1, []), [], [])])
set_option maxRecDepth 20000 in
theorem vc421 {l : Launch} {X : Nat × (Nat → Int32)} (d : Nat) : Vc l X U0 Pt0 1 (d + 1) Kc421 :=
  ckf (d := d) (Ks := [Kc270, Kc417]) (cy := 152) (cd := cdX7_undo) (nl := 1) (fuel := 1000) (Hs := [((28, 1), ([(0, (2, 0, 0, [150]))], [], [(0, 0), (0, 15)], [(150, 22, (0, 1, 0, []))]), [(2, 150, 22)], (0, []), [])]) (by decide +kernel) (by decide +kernel) (fun na b => by rw [← ceX7_undo]; exact tkX7_undo) (List.forall_mem_cons.mpr ⟨vc270 d, List.forall_mem_cons.mpr ⟨vc417 d, fun _ h => absurd h List.not_mem_nil⟩⟩) (cpyX d) (by decide +kernel)
noncomputable def Kc422 : Con := ((271, [(2, 0, 0, [150])], []), [(150, 0, 0), (150, 11, 11), (150, 23, 23), (159, 0, 74)], [(some (0, (-1), (-1), []), [], []), (some (0, 0, 2, []), [], [])])
set_option maxRecDepth 20000 in
theorem vc422 {l : Launch} {X : Nat × (Nat → Int32)} (d : Nat) : Vc l X U0 Pt0 1 (d + 1) Kc422 :=
  ckf (d := d) (Ks := [Kc270, Kc273]) (cy := 152) (cd := cdX7_image) (nl := 1) (fuel := 1000) (Hs := [((31, 1), ([(0, (2, 0, 0, [150]))], [], [(0, 0), (0, 2)], [(150, 23, (0, 1, 0, []))]), [(2, 150, 23)], (0, []), [])]) (by decide +kernel) (by decide +kernel) (fun na b => by rw [← ceX7_image]; exact tkX7_image) (List.forall_mem_cons.mpr ⟨vc270 d, List.forall_mem_cons.mpr ⟨vc273 d, fun _ h => absurd h List.not_mem_nil⟩⟩) (cpyX d) (by decide +kernel)
noncomputable def Kc423 : Con := ((149, [(0, iLo, iHi, []), (0, 0, 0, []), (0, (-1), 2, [])], []), [], [(some (0, 0, 0, []), [], []), (some (0, 1, 1, []), [(0, 0, 2), (2, 0, 2)], [])])
set_option maxRecDepth 20000 in
theorem vc423 {l : Launch} {X : Nat × (Nat → Int32)} (d : Nat) : Vc l X U0 Pt0 1 d Kc423 :=
  ckf (d := d) (Ks := []) (cy := 152) (cd := cdX7_in) (nl := 3) (fuel := 1000) (Hs := []) (by decide +kernel) (by decide +kernel) (fun na b => by rw [← ceX7_in]; exact tkX7_in) (fun _ h => absurd h List.not_mem_nil) (cpyX d) (by decide +kernel)
noncomputable def Kc424 : Con := ((272, [(2, 0, 0, [150]), (0, iLo, iHi, [])], []), [(150, 0, 0), (150, 11, 11), (150, 22, 22), (157, 0, 24)], [(some (0, 0, 0, []), [], []), (some (0, 1, 1, []), [], [])])
set_option maxRecDepth 20000 in
theorem vc424 {l : Launch} {X : Nat × (Nat → Int32)} (d : Nat) : Vc l X U0 Pt0 1 (d + 1) Kc424 :=
  ckf (d := d) (Ks := [Kc270, Kc423, Kc417]) (cy := 152) (cd := cdX7_back) (nl := 2) (fuel := 1000) (Hs := [((24, 1), ([(0, (2, 0, 0, [150])), (1, (0, 1, 0, []))], [], [(0, 0), (0, 2)], []), [(0, 1, 0)], (0, []), [])]) (by decide +kernel) (by decide +kernel) (fun na b => by rw [← ceX7_back]; exact tkX7_back) (List.forall_mem_cons.mpr ⟨vc270 d, List.forall_mem_cons.mpr ⟨vc423 d, List.forall_mem_cons.mpr ⟨vc417 d, fun _ h => absurd h List.not_mem_nil⟩⟩⟩) (cpyX d) (by decide +kernel)
noncomputable def Kc425 : Con := ((273, [(2, 0, 0, [150]), (0, iLo, iHi, [])], []), [(150, 0, 0)], [(some (0, 0, 5, []), [], [])])
set_option maxRecDepth 20000 in
theorem vc425 {l : Launch} {X : Nat × (Nat → Int32)} (d : Nat) : Vc l X U0 Pt0 1 (d + 1) Kc425 :=
  ckf (d := d) (Ks := [Kc275]) (cy := 152) (cd := cdX7_led) (nl := 4) (fuel := 1000) (Hs := [((4, 0), ([(0, (2, 0, 0, [150])), (1, (0, 1, 0, [])), (2, (0, 2, 0, [])), (3, (0, 3, 0, []))], [], [(0, 0), (iLo, iHi), (iLo, iHi), (0, 6)], []), [(0, 1, 0), (0, 2, 0), (0, 3, 0)], (12, [(3, (-2))]), [])]) (by decide +kernel) (by decide +kernel) (fun na b => by rw [← ceX7_led]; exact tkX7_led) (List.forall_mem_cons.mpr ⟨vc275 d, fun _ h => absurd h List.not_mem_nil⟩) (cpyX d) (by decide +kernel)
noncomputable def Kc426 : Con := ((149, [(0, iLo, iHi, []), (0, 0, 0, []), (0, 8, 8, [])], []), [], [(some (0, 0, 0, []), [], []), (some (0, 1, 1, []), [(0, 0, 8)], [])])
set_option maxRecDepth 20000 in
theorem vc426 {l : Launch} {X : Nat × (Nat → Int32)} (d : Nat) : Vc l X U0 Pt0 1 d Kc426 :=
  ckf (d := d) (Ks := []) (cy := 152) (cd := cdX7_in) (nl := 3) (fuel := 1000) (Hs := []) (by decide +kernel) (by decide +kernel) (fun na b => by rw [← ceX7_in]; exact tkX7_in) (fun _ h => absurd h List.not_mem_nil) (cpyX d) (by decide +kernel)
noncomputable def Kc427 : Con := ((274, [(2, 0, 0, [150]), (0, iLo, iHi, [])], []), [(150, 0, 0)], [(some (0, (-1), (-1), []), [], []), (some (0, iLo, iHi, []), [(1, 0, 12)], [])])
set_option maxRecDepth 20000 in
theorem vc427 {l : Launch} {X : Nat × (Nat → Int32)} (d : Nat) : Vc l X U0 Pt0 1 (d + 1) Kc427 :=
  ckf (d := d) (Ks := [Kc426]) (cy := 152) (cd := cdX7_size) (nl := 2) (fuel := 1000) (Hs := []) (by decide +kernel) (by decide +kernel) (fun na b => by rw [← ceX7_size]; exact tkX7_size) (List.forall_mem_cons.mpr ⟨vc426 d, fun _ h => absurd h List.not_mem_nil⟩) (cpyX d) (by decide +kernel)
noncomputable def Kc428 : Con := ((275, [(2, 0, 0, [150])], []), [(150, 0, 0)], [(some (0, iLo, iHi, []), [], [])])
set_option maxRecDepth 20000 in
theorem vc428 {l : Launch} {X : Nat × (Nat → Int32)} (d : Nat) : Vc l X U0 Pt0 1 d Kc428 :=
  ckf (d := d) (Ks := []) (cy := 152) (cd := cdX7_trouble) (nl := 1) (fuel := 1000) (Hs := []) (by decide +kernel) (by decide +kernel) (fun na b => by rw [← ceX7_trouble]; exact tkX7_trouble) (fun _ h => absurd h List.not_mem_nil) (cpyX d) (by decide +kernel)
noncomputable def Kc429 : Con := ((183, [(2, 0, 0, [150])], []), [(150, 0, 0)], [(some (0, iLo, iHi, []), [], [])])
set_option maxRecDepth 20000 in
theorem vc429 {l : Launch} {X : Nat × (Nat → Int32)} (d : Nat) : Vc l X U0 Pt0 1 d Kc429 :=
  ckf (d := d) (Ks := []) (cy := 152) (cd := cdX7_fault) (nl := 1) (fuel := 1000) (Hs := []) (by decide +kernel) (by decide +kernel) (fun na b => by rw [← ceX7_fault]; exact tkX7_fault) (fun _ h => absurd h List.not_mem_nil) (cpyX d) (by decide +kernel)
noncomputable def Kc430 : Con := ((184, [(2, 0, 0, [150])], []), [(150, 0, 0)], [(some (0, (-1), (-1), []), [], []), (some (0, iLo, iHi, []), [], [])])
set_option maxRecDepth 20000 in
theorem vc430 {l : Launch} {X : Nat × (Nat → Int32)} (d : Nat) : Vc l X U0 Pt0 1 d Kc430 :=
  ckf (d := d) (Ks := []) (cy := 152) (cd := cdX7_where) (nl := 1) (fuel := 1000) (Hs := []) (by decide +kernel) (by decide +kernel) (fun na b => by rw [← ceX7_where]; exact tkX7_where) (fun _ h => absurd h List.not_mem_nil) (cpyX d) (by decide +kernel)
