/-! the reference's wayAt -/
section WAY
variable {l : Launch} {X : Nat × (Nat → Int32)} {d : Nat} {M : Mm} {kr : KR} {R : List (Nat × List Row)} {e : Int}
/-- contracts of what it calls, in plain words -/
def wyO (l : Launch) (X : Nat × (Nat → Int32)) (R : List (Nat × List Row)) (e : Int) (d : Nat) : Prop := (∀ (M : Mm) (kr : KR), Iv (mkP R) M → eO e M → (∀ M', Jv (mkP R) [(150, 0, 0), (150, 11, 11)] (M, e) M' → kr none M') → Ev l X uX7_good d true 0 0 [.ref 150] M kr) ∧ (∀ (w : Int32) (M : Mm) (kr : KR), Iv (mkP R) M → eO e M → (∀ M', Jv (mkP R) [(150, 11, 11)] (M, e) M' → kr (some (.int (-1))) M') → Ev l X uX7_no d true 0 0 [.ref 150, .int w] M kr) ∧ (∀ (w : Int32) (M : Mm) (kr : KR), Iv (mkP R) M → eO e M → (∀ M', Jv (mkP R) [] (M, e) M' → kr (some (.int 0)) M') → (∀ M', Jv (mkP R) [] (M, e) M' → 0 ≤ w.toInt → w.toInt ≤ 3 → kr (some (.int 1)) M') → Ev l X uX7_isWalker d true 0 0 [.ref 150, .int w] M kr)
def wyD (l : Launch) (X : Nat × (Nat → Int32)) (R : List (Nat × List Row)) (e : Int) (d : Nat) : Prop := ∀ (n : Int32) (M : Mm) (kr : KR), Iv (mkP R) M → eO e M → (∀ M', Jv (mkP R) msD9 (M, e) M' → kr none M') → Ev l X uX7_daysOn d true 0 0 [.ref 150, .int n] M kr
def msW : Md3 := [(150, 26, 26), (160, 0, 4), (161, 0, 24), (164, 0, 19)]
/-- what is known of the tables -/
def wyR (R : List (Nat × List Row)) : Prop := rwB (lkR R 153) 0 = (2, 5) ∧ rwB (lkR R 153) 1 = (0, 4) ∧ lkR R 164 = [] ∧ rwB (lkR R 150) 26 = (iLo, iHi) ∧ ∀ j, 45 ≤ j → j ≤ 52 → rwB (lkR R 153) j = (0, 19)
theorem wk_b {j : Nat} (hR : wyR R) (hI : Iv (mkP R) M) (h1 : 45 ≤ j) (h2 : j ≤ 52) : ∃ n : Nat, n < 20 ∧ mI M 153 j = nI n := by
  have b := hI.2.2.2 153 j (by decide)
  have e1 : rwB ((mkP R).2.2 153) j = (0, 19) := hR.2.2.2.2 j h1 h2
  rw [e1] at b
  have b : (0 : Int) ≤ (mI M 153 j).toInt ∧ (mI M 153 j).toInt ≤ 19 := b
  exact ⟨(mI M 153 j).toInt.toNat, by omega, nI_at (by omega) (by omega)⟩
theorem wk_i {W : Nat} (h : W ≤ 3) : (45 : Int32) + 2 * nI W = nI (45 + 2 * W) := by
  have : W = 0 ∨ W = 1 ∨ W = 2 ∨ W = 3 := by omega
  rcases this with rfl | rfl | rfl | rfl <;> decide
set_option maxRecDepth 20000 in
theorem wo_ev {W : Nat} {n : Int32} (hR : wyR R) (hD : wyD l X R e (d + 3)) (hI : Iv (mkP R) M) (he : eO e M) (hW : W ≤ 3) (h : ∀ (M2 M3 : Mm) (to fr : Nat) (c : Int32), Iv (mkP R) M2 → Jv (mkP R) msW (M, e) M3 → lyJ R e M2 M3 → lyI M2 (mI M2 161 24) to M3 → lyF M2 (mI M2 161 24) M3 → to < 20 → fr < 20 → mI M3 153 (45 + 2 * W) = nI fr → (c = -2 ∨ (c = mI M3 164 fr ∧ cw M3 fr < 100000000)) → kr (some (.int c)) M3) : Ev l X uX7_wayOf (d + 4) true 0 0 [.ref 150, .int (nI W), .int n] M kr := by
  have k150 : kk M 150 7 = true := kk_ok hI rfl
  refine Ev.of (by decide) (Nat.le_of_ble_eq_true rfl) ?_
  have hJ0 : Jv (mkP R) msW (M, e) M := Jv.rf hI he
  have hJ1 : Jv (mkP R) msW (M, e) (wI M 150 26 (-1)) := Jv.wI hJ0 (by
    have e1 : rwB ((mkP R).2.2 150) 26 = (iLo, iHi) := hR.2.2.2.1
    rw [e1]
    exact ⟨by decide, by decide⟩) (by decide) (by decide)
  refine Wf.sAl tkX7_wayOf rfl rfl rfl ?_
  refine Wf.sIc tkX7_wayOf rfl ?_
  refine Wf.sPI tkX7_wayOf rfl k150 ?_
  refine Wf.sAl tkX7_wayOf rfl rfl rfl ?_
  refine Wf.sIl tkX7_wayOf rfl rfl ?_
  refine Wf.sCv (as := [.int n]) (rest := []) tkX7_wayOf rfl rfl k150 rfl ?_
  refine hD n _ _ hJ1.2.1 hJ1.2.2.2 (fun M2 hJ2 => ?_)
  have hJ2' := Jv_tr hJ1 hJ2 (by decide)
  have k150 : kk M2 150 7 = true := kk_ok hJ2.2.1 rfl
  have k153 : kk M2 153 9 = true := kk_ok hJ2.2.1 rfl
  have k161 : kk M2 161 9 = true := kk_ok hJ2.2.1 rfl
  have r15 : mR M2 150 15 = 153 := List.mem_singleton.mp (hJ2.2.1.2.2.1 150 15 (by decide))
  have r25 : mR M2 150 25 = 161 := List.mem_singleton.mp (hJ2.2.1.2.2.1 150 25 (by decide))
  have m153 : (mK M2 153).2 = 202 := by rw [hJ2.2.1.2.1 153 (by decide)]; rfl
  have m161 : (mK M2 161).2 = 25 := by rw [hJ2.2.1.2.1 161 (by decide)]; rfl
  obtain ⟨to, hto, eto⟩ := wk_b (j := 45 + 2 * W + 1) hR hJ2.2.1 (by omega) (by omega)
  refine Wf.sAl tkX7_wayOf rfl rfl rfl ?_
  refine Wf.sAl tkX7_wayOf rfl rfl rfl ?_
  refine Wf.sG tkX7_wayOf rfl k150 ?_
  show Wf l X uX7_wayOf (d + 4) true _ 15 _ [.ref (mR M2 150 15), .ref 150] M2 kr
  rw [r15]
  refine Wf.sIc tkX7_wayOf rfl ?_
  refine Wf.sIc tkX7_wayOf rfl ?_
  refine Wf.sIl tkX7_wayOf rfl rfl ?_
  refine Wf.s2 (x := 2) (y := nI W) tkX7_wayOf rfl ?_
  refine Wf.s2 (x := 45) (y := 2 * nI W) tkX7_wayOf rfl ?_
  refine Wf.sIc tkX7_wayOf rfl ?_
  refine Wf.s2 (x := 45 + 2 * nI W) (y := 1) tkX7_wayOf rfl ?_
  refine Wf.sIal (j := 45 + 2 * W + 1) tkX7_wayOf rfl k153 ⟨by rw [wk_i hW, nI_1], by omega, by rw [m153]; omega⟩ ?_
  rw [eto]
  refine Wf.sAl tkX7_wayOf rfl rfl rfl ?_
  refine Wf.sG tkX7_wayOf rfl k150 ?_
  show Wf l X uX7_wayOf (d + 4) true _ 28 _ [.ref (mR M2 150 25), .int (nI to), .ref 150] M2 kr
  rw [r25]
  refine Wf.sIc tkX7_wayOf rfl ?_
  refine Wf.sIal (j := 24) tkX7_wayOf rfl k161 ⟨by decide, by decide, by rw [m161]; decide⟩ ?_
  refine Wf.sCv (as := [.int (nI to), .int (mI M2 161 24)]) (rest := []) tkX7_wayOf rfl rfl k150 rfl ?_
  obtain ⟨hWd, hDp⟩ := wd_of hR.1 hR.2.1 hJ2.2.1
  refine ly_ev (d := d) hR.2.2.1 hJ2.2.1 hJ2.2.2.2 hWd hDp hto (fun M3 hJ3 hI3 hF3 => ?_)
  have hJ3' := Jv_tr hJ2' hJ3 (by decide)
  have k150 : kk M3 150 7 = true := kk_ok hJ3.2.1 rfl
  have k153 : kk M3 153 9 = true := kk_ok hJ3.2.1 rfl
  have k164 : kk M3 164 9 = true := kk_ok hJ3.2.1 rfl
  have r15 : mR M3 150 15 = 153 := List.mem_singleton.mp (hJ3.2.1.2.2.1 150 15 (by decide))
  have r33 : mR M3 150 33 = 164 := List.mem_singleton.mp (hJ3.2.1.2.2.1 150 33 (by decide))
  have m153 : (mK M3 153).2 = 202 := by rw [hJ3.2.1.2.1 153 (by decide)]; rfl
  have m164 : (mK M3 164).2 = 20 := by rw [hJ3.2.1.2.1 164 (by decide)]; rfl
  obtain ⟨fr, hfr, efr⟩ := wk_b (j := 45 + 2 * W) hR hJ3.2.1 (by omega) (by omega)
  refine Wf.sAl tkX7_wayOf rfl rfl rfl ?_
  refine Wf.sG tkX7_wayOf rfl k150 ?_
  show Wf l X uX7_wayOf (d + 4) true _ 38 _ [.ref (mR M3 150 33)] M3 kr
  rw [r33]
  refine Wf.sAl tkX7_wayOf rfl rfl rfl ?_
  refine Wf.sG tkX7_wayOf rfl k150 ?_
  show Wf l X uX7_wayOf (d + 4) true _ 42 _ [.ref (mR M3 150 15), .ref 164] M3 kr
  rw [r15]
  refine Wf.sIc tkX7_wayOf rfl ?_
  refine Wf.sIc tkX7_wayOf rfl ?_
  refine Wf.sIl tkX7_wayOf rfl rfl ?_
  refine Wf.s2 (x := 2) (y := nI W) tkX7_wayOf rfl ?_
  refine Wf.s2 (x := 45) (y := 2 * nI W) tkX7_wayOf rfl ?_
  refine Wf.sIal (j := 45 + 2 * W) tkX7_wayOf rfl k153 ⟨wk_i hW, by omega, by rw [m153]; omega⟩ ?_
  rw [efr]
  refine Wf.sIal (j := fr) tkX7_wayOf rfl k164 ⟨rfl, by omega, by rw [m164]; exact hfr⟩ ?_
  refine Wf.sIs tkX7_wayOf rfl rfl ?_
  refine Wf.sIl tkX7_wayOf rfl rfl ?_
  refine Wf.sIc tkX7_wayOf rfl ?_
  have cb := hI3.1 fr hfr
  refine Wf.sCm (x := mI M3 164 fr) (y := 100000000) tkX7_wayOf rfl (fun z => ?_) (fun z => ?_)
  · refine Wf.sIl tkX7_wayOf rfl rfl ?_
    refine Wf.sIr tkX7_wayOf rfl (h M2 M3 to fr _ hJ2.2.1 hJ3' hJ3 hI3 hF3 hto hfr efr (Or.inr ⟨rfl, ?_⟩))
    have z : ¬ mI M3 164 fr = 100000000 := z
    unfold cw at cb ⊢
    have eM : (100000000 : Int32).toInt = 100000000 := by decide
    have q : (mI M3 164 fr).toInt ≠ 100000000 := fun q => z (Int32.toInt_inj.mp (q.trans eM.symm))
    omega
  · refine Wf.sIc tkX7_wayOf rfl ?_
    refine Wf.sGo tkX7_wayOf rfl ?_
    exact Wf.sIr tkX7_wayOf rfl (h M2 M3 to fr _ hJ2.2.1 hJ3' hJ3 hI3 hF3 hto hfr efr (Or.inl rfl))
set_option maxRecDepth 20000 in
theorem wa_loop {M2 M3 : Mm} {to i : Nat} {w1 n1 c0 : Int32} {b : Nat × Nat} (hR : wyR R) (hI2 : Iv (mkP R) M2) (hJ : lyJ R e M2 M3) (hL : lyI M2 (mI M2 161 24) to M3) (hF : lyF M2 (mI M2 161 24) M3) (hto : to < 20) (hi : i < 1000) (h : ∀ r : Int32, kr (some (.int r)) M3) : ∀ dn, dn ≤ i → ∀ k, k < 20 → cw M3 k < 100000000 → (i : Int) - (dn : Int) < cw M3 k % 1000 → ∀ zs : Ls, (zs = [] ∨ ∃ z : Int32, zs = [(7, .int z)]) → Wf l X uX7_wayAt (d + 6) true b 85 ([(0, .ref 150), (1, .int w1), (2, .int n1), (3, .int (nI i)), (4, .int c0), (5, .int (nI k)), (6, .int (nI dn))] ++ zs) [] M3 kr := by
  obtain ⟨hWd, hDp⟩ := wd_of hR.1 hR.2.1 hI2
  have k150 : kk M3 150 7 = true := kk_ok hJ.2.1 rfl
  have k164 : kk M3 164 9 = true := kk_ok hJ.2.1 rfl
  have k161 : kk M3 161 9 = true := kk_ok hJ.2.1 rfl
  have r33 : mR M3 150 33 = 164 := List.mem_singleton.mp (hJ.2.1.2.2.1 150 33 (by decide))
  have r25 : mR M3 150 25 = 161 := List.mem_singleton.mp (hJ.2.1.2.2.1 150 25 (by decide))
  have m164 : (mK M3 164).2 = 20 := by rw [hJ.2.1.2.1 164 (by decide)]; rfl
  have m161 : (mK M3 161).2 = 25 := by rw [hJ.2.1.2.1 161 (by decide)]; rfl
  have ewet : mI M3 161 24 = mI M2 161 24 := (hJ.2.2.1 161 24 rfl).1
  have hw0 : ¬ mI M3 153 0 = 0 := by
    intro z
    rw [(hJ.2.2.1 153 0 rfl).1] at z
    rw [z] at hWd
    exact absurd hWd.1 (by decide)
  have lo : iLo ≤ 0 := by decide
  have hhi : (200000000 : Int) ≤ iHi := by decide
  have kee : ∀ (dn k : Nat) (zs : Ls), (zs = [] ∨ ∃ z : Int32, zs = [(7, .int z)]) → Wf l X uX7_wayAt (d + 6) true b 85 [(0, .ref 150), (1, .int w1), (2, .int n1), (3, .int (nI i)), (4, .int c0), (5, .int (nI k)), (6, .int (nI dn))] [] M3 kr → Wf l X uX7_wayAt (d + 6) true b 85 ([(0, .ref 150), (1, .int w1), (2, .int n1), (3, .int (nI i)), (4, .int c0), (5, .int (nI k)), (6, .int (nI dn))] ++ zs) [] M3 kr := fun dn k zs _ hW => Wf.sub (fun x hx => List.mem_append_left zs hx) hW
  /- one cell: its step is found -/
  have cell : ∀ dn k, dn ≤ i → k < 20 → cw M3 k < 100000000 → 1 ≤ cw M3 k % 1000 → (∀ s, s < 4 → 0 ≤ (fS M2 k s).toInt → cw M3 (fS M2 k s).toInt.toNat + 1 + cK (mI M2 161 24) k = cw M3 k → Wf l X uX7_wayAt (d + 6) true b 150 [(0, .ref 150), (1, .int w1), (2, .int n1), (3, .int (nI i)), (4, .int c0), (5, .int (nI k)), (6, .int (nI dn)), (7, .int (nI s))] [] M3 kr) → Wf l X uX7_wayAt (d + 6) true b 91 [(0, .ref 150), (1, .int w1), (2, .int n1), (3, .int (nI i)), (4, .int c0), (5, .int (nI k)), (6, .int (nI dn))] [] M3 kr := by
    intro dn k hdn hk hc hm hfin
    have hkto : k ≠ to := by
      intro z
      subst z
      rcases hL.2.2 with q | ⟨q, -⟩
      · have := cK_b (mI M2 161 24) k
        omega
      · omega
    obtain ⟨hkn, s0, hs0, hf0, hle⟩ := hL.2.1 k hk hkto hc
    have b0 := hL.1 k hk
    have cKb := cK_b (mI M2 161 24) k
    have fb : ∀ s, fS M2 k s = -2 ∨ (0 ≤ (fS M2 k s).toInt ∧ (fS M2 k s).toInt ≤ 19) := fun s => sfI_b hWd hDp
    have heq : cw M3 (fS M2 k s0).toInt.toNat + 1 + cK (mI M2 161 24) k = cw M3 k := by
      have hfb : 0 ≤ (fS M2 k s0).toInt ∧ (fS M2 k s0).toInt ≤ 19 := by
        rcases fb s0 with q | q
        · have e2 : (-2 : Int32).toInt = -2 := by decide
          rw [q, e2] at hf0
          omega
        · exact q
      have b1 := hL.1 _ (show (fS M2 k s0).toInt.toNat < 20 by omega)
      rcases hF k s0 hkn hs0 with q | q | q
      · have e2 : (-2 : Int32).toInt = -2 := by decide
        rw [q, e2] at hf0
        omega
      · omega
      · omega
    have srch9 : ∀ s, s ≤ s0 → Wf l X uX7_wayAt (d + 6) true b 94 [(0, .ref 150), (1, .int w1), (2, .int n1), (3, .int (nI i)), (4, .int c0), (5, .int (nI k)), (6, .int (nI dn)), (7, .int (nI s))] [] M3 kr := by
      refine dwn _ s0 ?_ ?_
      · have hs4 : s0 < 4 := by omega
        refine Wf.sAl tkX7_wayAt rfl rfl rfl ?_
        refine Wf.sIl tkX7_wayAt rfl rfl ?_
        refine Wf.sIl tkX7_wayAt rfl rfl ?_
        refine Wf.sCv (as := [.int (nI k), .int (nI s0)]) (rest := []) tkX7_wayAt rfl rfl k150 rfl ?_
        refine k_sf (d := d + 3) hJ.2.1 hw0 ?_
        rw [ly_sf hJ]
        refine Wf.sIf tkX7_wayAt rfl (fun z => ?_) (fun z => ?_)
        · have z : fS M2 k s0 < 0 := z
          rw [Int32.lt_iff_toInt_lt] at z
          have e0 : (0 : Int32).toInt = 0 := rfl
          omega
        have hf : 0 ≤ (fS M2 k s0).toInt ∧ (fS M2 k s0).toInt ≤ 19 := by
          rcases fb s0 with q | q
          · have z : ¬ fS M2 k s0 < 0 := z
            rw [q] at z
            exact absurd (by decide) z
          · exact q
        have eo : fS M2 k s0 = nI (fS M2 k s0).toInt.toNat := nI_at (by omega) (by omega)
        have hn20 : (fS M2 k s0).toInt.toNat < 20 := by omega
        have cb := hL.1 _ hn20
        have ev : (mI M3 164 (fS M2 k s0).toInt.toNat + 1 + coI (mI M2 161 24) (nI k)).toInt = cw M3 (fS M2 k s0).toInt.toNat + 1 + cK (mI M2 161 24) k := by
          have e1 : (1 : Int32).toInt = 1 := rfl
          unfold cw at cb ⊢
          unfold cK at cKb ⊢
          have a1 : (mI M3 164 (fS M2 k s0).toInt.toNat + 1).toInt = (mI M3 164 (fS M2 k s0).toInt.toNat).toInt + 1 := add_i (by omega) (by omega)
          rw [add_i (by rw [a1]; omega) (by rw [a1]; omega), a1]
        refine Wf.sAl tkX7_wayAt rfl rfl rfl ?_
        refine Wf.sG tkX7_wayAt rfl k150 ?_
        show Wf l X uX7_wayAt (d + 6) true b 109 _ [.ref (mR M3 150 33)] M3 kr
        rw [r33]
        refine Wf.sAl tkX7_wayAt rfl rfl rfl ?_
        refine Wf.sIl tkX7_wayAt rfl rfl ?_
        refine Wf.sIl tkX7_wayAt rfl rfl ?_
        refine Wf.sCv (as := [.int (nI k), .int (nI s0)]) (rest := [.ref 164]) tkX7_wayAt rfl rfl k150 rfl ?_
        refine k_sf (d := d + 3) hJ.2.1 hw0 ?_
        rw [ly_sf hJ]
        refine Wf.sIal (i := fS M2 k s0) (j := (fS M2 k s0).toInt.toNat) tkX7_wayAt rfl k164 ⟨eo, by omega, by rw [m164]; exact hn20⟩ ?_
        refine Wf.sIc tkX7_wayAt rfl ?_
        refine Wf.s2 tkX7_wayAt rfl ?_
        refine Wf.sAl tkX7_wayAt rfl rfl rfl ?_
        refine Wf.sIl tkX7_wayAt rfl rfl ?_
        refine Wf.sAl tkX7_wayAt rfl rfl rfl ?_
        refine Wf.sG tkX7_wayAt rfl k150 ?_
        show Wf l X uX7_wayAt (d + 6) true b 127 _ [.ref (mR M3 150 25), .int (nI k), .ref 150, .int (mI M3 164 (fS M2 k s0).toInt.toNat + 1)] M3 kr
        rw [r25]
        refine Wf.sIc tkX7_wayAt rfl ?_
        refine Wf.sIal (j := 24) tkX7_wayAt rfl k161 ⟨by decide, by decide, by rw [m161]; decide⟩ ?_
        rw [ewet]
        refine Wf.sCv (as := [.int (nI k), .int (mI M2 161 24)]) (rest := [.int (mI M3 164 (fS M2 k s0).toInt.toNat + 1)]) tkX7_wayAt rfl rfl k150 rfl ?_
        refine k_cof (d := d + 4) ?_
        refine Wf.s2 (x := mI M3 164 (fS M2 k s0).toInt.toNat + 1) (y := coI (mI M2 161 24) (nI k)) tkX7_wayAt rfl ?_
        refine Wf.sAl tkX7_wayAt rfl rfl rfl ?_
        refine Wf.sG tkX7_wayAt rfl k150 ?_
        show Wf l X uX7_wayAt (d + 6) true b 138 _ [.ref (mR M3 150 33), .int (mI M3 164 (fS M2 k s0).toInt.toNat + 1 + coI (mI M2 161 24) (nI k))] M3 kr
        rw [r33]
        refine Wf.sIl tkX7_wayAt rfl rfl ?_
        refine Wf.sIal (j := k) tkX7_wayAt rfl k164 ⟨rfl, by omega, by rw [m164]; exact hk⟩ ?_
        refine Wf.sCm (x := mI M3 164 (fS M2 k s0).toInt.toNat + 1 + coI (mI M2 161 24) (nI k)) (y := mI M3 164 k) tkX7_wayAt rfl (fun z => ?_) (fun z => ?_)
        · refine hfin s0 hs4 hf.1 ?_
          have z := congrArg Int32.toInt (show mI M3 164 (fS M2 k s0).toInt.toNat + 1 + coI (mI M2 161 24) (nI k) = mI M3 164 k from z)
          rw [ev] at z
          exact z
        · exact absurd (Int32.toInt_inj.mp (ev.trans heq)) z
      · intro s hs ih
        have hs4 : s < 4 := by omega
        refine Wf.sAl tkX7_wayAt rfl rfl rfl ?_
        refine Wf.sIl tkX7_wayAt rfl rfl ?_
        refine Wf.sIl tkX7_wayAt rfl rfl ?_
        refine Wf.sCv (as := [.int (nI k), .int (nI s)]) (rest := []) tkX7_wayAt rfl rfl k150 rfl ?_
        refine k_sf (d := d + 3) hJ.2.1 hw0 ?_
        rw [ly_sf hJ]
        refine Wf.sIf tkX7_wayAt rfl (fun z => ?_) (fun z => ?_)
        · refine Wf.sInc tkX7_wayAt rfl rfl rfl ?_
          refine Wf.sGo tkX7_wayAt rfl ?_
          rw [nI_1]
          exact ih
        have hf : 0 ≤ (fS M2 k s).toInt ∧ (fS M2 k s).toInt ≤ 19 := by
          rcases fb s with q | q
          · have z : ¬ fS M2 k s < 0 := z
            rw [q] at z
            exact absurd (by decide) z
          · exact q
        have eo : fS M2 k s = nI (fS M2 k s).toInt.toNat := nI_at (by omega) (by omega)
        have hn20 : (fS M2 k s).toInt.toNat < 20 := by omega
        have cb := hL.1 _ hn20
        have ev : (mI M3 164 (fS M2 k s).toInt.toNat + 1 + coI (mI M2 161 24) (nI k)).toInt = cw M3 (fS M2 k s).toInt.toNat + 1 + cK (mI M2 161 24) k := by
          have e1 : (1 : Int32).toInt = 1 := rfl
          unfold cw at cb ⊢
          unfold cK at cKb ⊢
          have a1 : (mI M3 164 (fS M2 k s).toInt.toNat + 1).toInt = (mI M3 164 (fS M2 k s).toInt.toNat).toInt + 1 := add_i (by omega) (by omega)
          rw [add_i (by rw [a1]; omega) (by rw [a1]; omega), a1]
        refine Wf.sAl tkX7_wayAt rfl rfl rfl ?_
        refine Wf.sG tkX7_wayAt rfl k150 ?_
        show Wf l X uX7_wayAt (d + 6) true b 109 _ [.ref (mR M3 150 33)] M3 kr
        rw [r33]
        refine Wf.sAl tkX7_wayAt rfl rfl rfl ?_
        refine Wf.sIl tkX7_wayAt rfl rfl ?_
        refine Wf.sIl tkX7_wayAt rfl rfl ?_
        refine Wf.sCv (as := [.int (nI k), .int (nI s)]) (rest := [.ref 164]) tkX7_wayAt rfl rfl k150 rfl ?_
        refine k_sf (d := d + 3) hJ.2.1 hw0 ?_
        rw [ly_sf hJ]
        refine Wf.sIal (i := fS M2 k s) (j := (fS M2 k s).toInt.toNat) tkX7_wayAt rfl k164 ⟨eo, by omega, by rw [m164]; exact hn20⟩ ?_
        refine Wf.sIc tkX7_wayAt rfl ?_
        refine Wf.s2 tkX7_wayAt rfl ?_
        refine Wf.sAl tkX7_wayAt rfl rfl rfl ?_
        refine Wf.sIl tkX7_wayAt rfl rfl ?_
        refine Wf.sAl tkX7_wayAt rfl rfl rfl ?_
        refine Wf.sG tkX7_wayAt rfl k150 ?_
        show Wf l X uX7_wayAt (d + 6) true b 127 _ [.ref (mR M3 150 25), .int (nI k), .ref 150, .int (mI M3 164 (fS M2 k s).toInt.toNat + 1)] M3 kr
        rw [r25]
        refine Wf.sIc tkX7_wayAt rfl ?_
        refine Wf.sIal (j := 24) tkX7_wayAt rfl k161 ⟨by decide, by decide, by rw [m161]; decide⟩ ?_
        rw [ewet]
        refine Wf.sCv (as := [.int (nI k), .int (mI M2 161 24)]) (rest := [.int (mI M3 164 (fS M2 k s).toInt.toNat + 1)]) tkX7_wayAt rfl rfl k150 rfl ?_
        refine k_cof (d := d + 4) ?_
        refine Wf.s2 (x := mI M3 164 (fS M2 k s).toInt.toNat + 1) (y := coI (mI M2 161 24) (nI k)) tkX7_wayAt rfl ?_
        refine Wf.sAl tkX7_wayAt rfl rfl rfl ?_
        refine Wf.sG tkX7_wayAt rfl k150 ?_
        show Wf l X uX7_wayAt (d + 6) true b 138 _ [.ref (mR M3 150 33), .int (mI M3 164 (fS M2 k s).toInt.toNat + 1 + coI (mI M2 161 24) (nI k))] M3 kr
        rw [r33]
        refine Wf.sIl tkX7_wayAt rfl rfl ?_
        refine Wf.sIal (j := k) tkX7_wayAt rfl k164 ⟨rfl, by omega, by rw [m164]; exact hk⟩ ?_
        refine Wf.sCm (x := mI M3 164 (fS M2 k s).toInt.toNat + 1 + coI (mI M2 161 24) (nI k)) (y := mI M3 164 k) tkX7_wayAt rfl (fun z => ?_) (fun z => ?_)
        · refine hfin s hs4 hf.1 ?_
          have z := congrArg Int32.toInt (show mI M3 164 (fS M2 k s).toInt.toNat + 1 + coI (mI M2 161 24) (nI k) = mI M3 164 k from z)
          rw [ev] at z
          exact z
        · refine Wf.sInc tkX7_wayAt rfl rfl rfl ?_
          refine Wf.sGo tkX7_wayAt rfl ?_
          rw [nI_1]
          exact ih
    refine Wf.sIc tkX7_wayAt rfl ?_
    refine Wf.sIs tkX7_wayAt rfl rfl ?_
    exact srch9 0 (Nat.zero_le _)
  refine dwn _ i ?_ ?_
  · intro k hk hc hm zs hz
    refine kee i k zs hz ?_
    refine Wf.sIl tkX7_wayAt rfl rfl ?_
    refine Wf.sIl tkX7_wayAt rfl rfl ?_
    refine Wf.sCm (x := nI i) (y := nI i) tkX7_wayAt rfl (fun z => absurd z (fun z => Int.lt_irrefl _ (Int32.lt_iff_toInt_lt.mp z))) (fun _ => ?_)
    refine cell i k (Nat.le_refl _) hk hc (by omega) (fun s hs hf heq => ?_)
    refine Wf.sIl tkX7_wayAt rfl rfl ?_
    refine Wf.sIl tkX7_wayAt rfl rfl ?_
    refine Wf.sCm (x := nI i) (y := nI i) tkX7_wayAt rfl (fun z => absurd rfl z) (fun _ => ?_)
    refine Wf.sIl tkX7_wayAt rfl rfl ?_
    exact Wf.sIr tkX7_wayAt rfl (h _)
  · intro dn hdn ih k hk hc hm zs hz
    refine kee dn k zs hz ?_
    refine Wf.sIl tkX7_wayAt rfl rfl ?_
    refine Wf.sIl tkX7_wayAt rfl rfl ?_
    refine Wf.sCm (x := nI dn) (y := nI i) tkX7_wayAt rfl (fun z => absurd (Int32.not_le.mpr z) (fun q => q (nI_le (by omega) (by omega)))) (fun _ => ?_)
    refine cell dn k (by omega) hk hc (by omega) (fun s hs hf heq => ?_)
    refine Wf.sIl tkX7_wayAt rfl rfl ?_
    refine Wf.sIl tkX7_wayAt rfl rfl ?_
    have hne : ¬ nI dn = nI i := by
      intro z
      have := congrArg Int32.toInt z
      rw [nI_toInt (by omega), nI_toInt (by omega)] at this
      omega
    refine Wf.sCm (x := nI dn) (y := nI i) tkX7_wayAt rfl (fun _ => ?_) (fun z => absurd z hne)
    refine Wf.sAl tkX7_wayAt rfl rfl rfl ?_
    refine Wf.sIl tkX7_wayAt rfl rfl ?_
    refine Wf.sIl tkX7_wayAt rfl rfl ?_
    refine Wf.sCv (as := [.int (nI k), .int (nI s)]) (rest := []) tkX7_wayAt rfl rfl k150 rfl ?_
    refine k_sf (d := d + 3) hJ.2.1 hw0 ?_
    rw [ly_sf hJ]
    have hfb : 0 ≤ (fS M2 k s).toInt ∧ (fS M2 k s).toInt ≤ 19 := by
      have fb : fS M2 k s = -2 ∨ (0 ≤ (fS M2 k s).toInt ∧ (fS M2 k s).toInt ≤ 19) := sfI_b hWd hDp
      rcases fb with q | q
      · have e2 : (-2 : Int32).toInt = -2 := by decide
        rw [q, e2] at hf
        omega
      · exact q
    have eo : fS M2 k s = nI (fS M2 k s).toInt.toNat := nI_at (by omega) (by omega)
    have cKb := cK_b (mI M2 161 24) k
    have b1 := hL.1 _ (show (fS M2 k s).toInt.toNat < 20 by omega)
    rw [eo]
    refine Wf.sIs tkX7_wayAt rfl rfl ?_
    refine Wf.sInc tkX7_wayAt rfl rfl rfl ?_
    refine Wf.sGo tkX7_wayAt rfl ?_
    rw [nI_1]
    exact ih (fS M2 k s).toInt.toNat (by omega) (by omega) (by omega) [(7, .int (nI s))] (Or.inr ⟨_, rfl⟩)
theorem rem1000 {x : Int32} (h : 0 ≤ x.toInt) : (x - x / 1000 * 1000).toInt = x.toInt % 1000 := by
  have e : (1000 : Int32).toInt = 1000 := by decide
  rw [rem_i h (by rw [e]; decide), e]
  exact Int.tmod_eq_emod_of_nonneg h
set_option maxRecDepth 20000 in
theorem wa_ev {w1 n1 i1 : Int32} (hR : wyR R) (hO : wyO l X R e (d + 5)) (hD : wyD l X R e (d + 4)) (hI : Iv (mkP R) M) (he : eO e M) (h : ∀ (r : Int32) (M' : Mm), Jv (mkP R) [(150, 0, 0), (150, 11, 11), (150, 26, 26), (160, 0, 4), (161, 0, 24), (164, 0, 19)] (M, e) M' → kr (some (.int r)) M') : Ev l X uX7_wayAt (d + 6) true 0 0 [.ref 150, .int w1, .int n1, .int i1] M kr := by
  have k150 : kk M 150 7 = true := kk_ok hI rfl
  refine Ev.of (by decide) (Nat.le_of_ble_eq_true rfl) ?_
  have hJ0 : Jv (mkP R) [(150, 0, 0), (150, 11, 11), (150, 26, 26), (160, 0, 4), (161, 0, 24), (164, 0, 19)] (M, e) M := Jv.rf hI he
  have noo : ∀ (Mx : Mm) (pc : Nat) (a : Int32) (ls : Ls), Jv (mkP R) [(150, 0, 0), (150, 11, 11), (150, 26, 26), (160, 0, 4), (161, 0, 24), (164, 0, 19)] (M, e) Mx → lo (tbX7_wayAt l X (d + 5)) pc = oCv l X (d + 5) pc uX7_no 7 1 → lo (tbX7_wayAt l X (d + 5)) (pc + 3) = oIr → Wf l X uX7_wayAt (d + 6) true (mC M + 0, mS M + 0) pc ls [.int a, .ref 150] Mx kr := by
    intro Mx pc a ls hJx h1 h2
    have k150 : kk Mx 150 7 = true := kk_ok hJx.2.1 rfl
    refine Wf.sCv (as := [.int a]) (rest := []) tkX7_wayAt h1 rfl k150 rfl ?_
    refine hO.2.1 a Mx _ hJx.2.1 hJx.2.2.2 (fun M' hJ' => ?_)
    exact Wf.sIr tkX7_wayAt h2 (h _ M' (Jv_tr hJx hJ' (by decide)))
  refine Wf.sAl tkX7_wayAt rfl rfl rfl ?_
  refine Wf.sCv (as := []) (rest := []) tkX7_wayAt rfl rfl k150 rfl ?_
  refine hO.1 M _ hI he (fun M1 hJ1 => ?_)
  have hJ1' := Jv_tr hJ0 hJ1 (by decide)
  have k150 : kk M1 150 7 = true := kk_ok hJ1.2.1 rfl
  refine Wf.sAl tkX7_wayAt rfl rfl rfl ?_
  refine Wf.sIl tkX7_wayAt rfl rfl ?_
  refine Wf.sCv (as := [.int w1]) (rest := []) tkX7_wayAt rfl rfl k150 rfl ?_
  refine hO.2.2 w1 M1 _ hJ1.2.1 hJ1.2.2.2 (fun M2 hJ2 => ?_) (fun M2 hJ2 hw1 hw2 => ?_)
  · refine Wf.sIf tkX7_wayAt rfl (fun z => absurd rfl z) (fun _ => ?_)
    refine Wf.sAl tkX7_wayAt rfl rfl rfl ?_
    refine Wf.sIc tkX7_wayAt rfl ?_
    exact noo M2 14 _ _ (Jv_tr hJ1' hJ2 (by decide)) rfl rfl
  have hJ2' := Jv_tr hJ1' hJ2 (by decide)
  have k150 : kk M2 150 7 = true := kk_ok hJ2.2.1 rfl
  refine Wf.sIf tkX7_wayAt rfl (fun _ => ?_) (fun z => absurd z (by decide))
  refine Wf.sIl tkX7_wayAt rfl rfl ?_
  refine Wf.sIc tkX7_wayAt rfl ?_
  refine Wf.sIc tkX7_wayAt rfl ?_
  refine Wf.sCs (as := [.int n1, .int 1, .int 60]) (rest := []) tkX7_wayAt rfl rfl rfl ?_
  refine k_inB ?_
  cases b1 : inB n1 1 60 with
  | false =>
    refine Wf.sIf tkX7_wayAt rfl (fun z => absurd rfl z) (fun _ => ?_)
    refine Wf.sAl tkX7_wayAt rfl rfl rfl ?_
    refine Wf.sIc tkX7_wayAt rfl ?_
    exact noo M2 30 _ _ hJ2' rfl rfl
  | true =>
  refine Wf.sIf tkX7_wayAt rfl (fun _ => ?_) (fun z => absurd z (by decide))
  have ew : w1 = nI w1.toInt.toNat := nI_at (by omega) (by omega)
  refine Wf.sAl tkX7_wayAt rfl rfl rfl ?_
  refine Wf.sIl tkX7_wayAt rfl rfl ?_
  refine Wf.sIl tkX7_wayAt rfl rfl ?_
  refine Wf.sCv (as := [.int w1, .int n1]) (rest := []) tkX7_wayAt rfl rfl k150 rfl ?_
  have way : Ev l X uX7_wayOf (d + 5) true 0 0 [.ref 150, .int (nI w1.toInt.toNat), .int n1] M2 (fun r M' => Wf l X uX7_wayAt (d + 6) true (mC M + 0, mS M + 0) (37 + 3) [(0, .ref 150), (1, .int w1), (2, .int n1), (3, .int i1)] (r.toList ++ []) M' kr) := by
    refine wo_ev (d := d + 1) hR hD hJ2.2.1 hJ2.2.2.2 (by omega) (fun M3 M4 to fr c hI3 hJ4 hy hL hF hto hfr efr hc => ?_)
    have hJ4' := Jv_tr hJ2' hJ4 (by decide)
    have k150 : kk M4 150 7 = true := kk_ok hJ4.2.1 rfl
    have k153 : kk M4 153 9 = true := kk_ok hJ4.2.1 rfl
    have r15 : mR M4 150 15 = 153 := List.mem_singleton.mp (hJ4.2.1.2.2.1 150 15 (by decide))
    have m153 : (mK M4 153).2 = 202 := by rw [hJ4.2.1.2.1 153 (by decide)]; rfl
    refine Wf.sIs tkX7_wayAt rfl rfl ?_
    refine Wf.sIl tkX7_wayAt rfl rfl ?_
    refine Wf.sIf tkX7_wayAt rfl (fun _ => ?_) (fun hc0 => ?_)
    · refine Wf.sAl tkX7_wayAt rfl rfl rfl ?_
      refine Wf.sIc tkX7_wayAt rfl ?_
      exact noo M4 65 _ _ hJ4' rfl rfl
    have hc0 : ¬ c < 0 := hc0
    have hc1 : c = mI M4 164 fr ∧ cw M4 fr < 100000000 := by
      rcases hc with z | z
      · rw [z] at hc0
        exact absurd (by decide) hc0
      · exact z
    have cb := hL.1 fr hfr
    have ec : c.toInt = cw M4 fr := by rw [hc1.1]; rfl
    refine Wf.sIl tkX7_wayAt rfl rfl ?_
    refine Wf.sIc tkX7_wayAt rfl ?_
    refine Wf.sIl tkX7_wayAt rfl rfl ?_
    refine Wf.sIc tkX7_wayAt rfl ?_
    refine Wf.stp1 tkX7_wayAt (o := o2d 54 (fun x y => x - x / y * y)) rfl ⟨by decide, ?_⟩
    refine Wf.sIc tkX7_wayAt rfl ?_
    refine Wf.s2 (x := c - c / 1000 * 1000) (y := 1) tkX7_wayAt rfl ?_
    refine Wf.sCs (as := [.int i1, .int 0, .int (c - c / 1000 * 1000 - 1)]) (rest := []) tkX7_wayAt rfl rfl rfl ?_
    refine k_inB ?_
    cases b2 : inB i1 0 (c - c / 1000 * 1000 - 1) with
    | false =>
      refine Wf.sIf tkX7_wayAt rfl (fun z => absurd rfl z) (fun _ => ?_)
      refine Wf.sAl tkX7_wayAt rfl rfl rfl ?_
      refine Wf.sIc tkX7_wayAt rfl ?_
      exact noo M4 65 _ _ hJ4' rfl rfl
    | true =>
    refine Wf.sIf tkX7_wayAt rfl (fun _ => ?_) (fun z => absurd z (by decide))
    have hi : 0 ≤ i1.toInt ∧ i1.toInt < c.toInt % 1000 := by
      unfold inB at b2
      obtain ⟨q1, q2⟩ := andT b2
      have q1 := of_decide_eq_true q1
      have q2 := of_decide_eq_true q2
      rw [Int32.lt_iff_toInt_lt] at q1 q2
      have e0 : (0 : Int32).toInt = 0 := rfl
      have e1 : (1 : Int32).toInt = 1 := rfl
      have er := rem1000 (x := c) (by omega)
      have lo : iLo ≤ -1 := by decide
      have hhi : (1000 : Int) ≤ iHi := by decide
      rw [sub_i (by rw [er, e1]; omega) (by rw [er, e1]; omega), er, e1] at q2
      omega
    have ei : i1 = nI i1.toInt.toNat := nI_at (by omega) (by omega)
    refine Wf.sAl tkX7_wayAt rfl rfl rfl ?_
    refine Wf.sG tkX7_wayAt rfl k150 ?_
    show Wf l X uX7_wayAt (d + 6) true _ 73 _ [.ref (mR M4 150 15)] M4 kr
    rw [r15]
    refine Wf.sIc tkX7_wayAt rfl ?_
    refine Wf.sIc tkX7_wayAt rfl ?_
    refine Wf.sIl tkX7_wayAt rfl rfl ?_
    show Wf l X uX7_wayAt (d + 6) true _ 77 _ [.int w1, .int 2, .int 45, .ref 153] M4 kr
    refine Wf.s2 (x := 2) (y := w1) tkX7_wayAt rfl ?_
    refine Wf.s2 (x := 45) (y := 2 * w1) tkX7_wayAt rfl ?_
    refine Wf.sIal (j := 45 + 2 * w1.toInt.toNat) tkX7_wayAt rfl k153 ⟨by rw [← wk_i (W := w1.toInt.toNat) (by omega), ← ew], by omega, by rw [m153]; omega⟩ ?_
    rw [efr]
    refine Wf.sIs tkX7_wayAt rfl rfl ?_
    refine Wf.sIc tkX7_wayAt rfl ?_
    refine Wf.sIs tkX7_wayAt rfl rfl ?_
    have hl := wa_loop (l := l) (X := X) (d := d) (w1 := w1) (n1 := n1) (c0 := c) (b := (mC M + 0, mS M + 0)) (i := i1.toInt.toNat) hR hI3 hy hL hF hto (by omega) (fun r => h r M4 hJ4') 0 (Nat.zero_le _) fr hfr hc1.2 (by omega) [] (Or.inl rfl)
    rw [← ei] at hl
    exact hl
  rw [← ew] at way
  exact way
theorem vh_wayAt (hR : wyR R) (d : Nat) (hO : wyO l X R e (d + 6)) (hD : wyD l X R e (d + 5)) : Vc l X U0 (mkP R) e (d + 7) ((238, [(2, 0, 0, [150]), (0, iLo, iHi, []), (0, iLo, iHi, []), (0, iLo, iHi, [])], []), [(150, 0, 0), (150, 11, 11), (150, 26, 26), (160, 0, 4), (161, 0, 24), (164, 0, 19)], [(some (0, iLo, iHi, []), [], [])]) := by
  intro av M kr hI he hb hf hr
  obtain ⟨v, t, rfl, hv, ht⟩ := gbs_1 hb
  obtain ⟨v2, t, rfl, hv2, ht⟩ := gbs_1 ht
  obtain ⟨v3, t, rfl, hv3, ht⟩ := gbs_1 ht
  obtain ⟨v4, t, rfl, hv4, ht⟩ := gbs_1 ht
  obtain rfl := gbs_0 ht
  obtain rfl := gb_r1 hv
  obtain ⟨w1, rfl, -, -⟩ := gb_i hv2
  obtain ⟨n1, rfl, -, -⟩ := gb_i hv3
  obtain ⟨i1, rfl, -, -⟩ := gb_i hv4
  exact wa_ev (d := d + 1) hR hO hD hI he (fun r M' hJ' => hr _ M' hJ' gps_any)
end WAY
