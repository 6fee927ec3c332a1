/-! the class's lines: canons, walkers; unsure, dropped -/
section LNX
variable {l : Launch} {X : Nat × (Nat → Int32)} {d : Nat} {w : Nat × Nat} {p r : Nat} {I : Nat → Nat → Int32} {L : Nat → Nat → Int64} {kr : KR} {b : Nat → Nat} {n e : Nat} {nm : List Nm} {F : Nat → Nat} {W : Int32}
theorem nam_6 {so : Nat} (hs : ∀ i, i < nm.length → (nmD nm i).2.2.2 < 6) : (nam b n nm so e).2 < 6 := by
  unfold nam
  split
  · split
    · decide
    · rename_i i hk
      have := ff_b hk
      split
      · exact hs i this
      · decide
  · decide
theorem nms_a {x : Nm} (hs : ∀ i, i < nm.length → (nmD nm i).2.2.1 < 10 ∧ (nmD nm i).2.2.2 < 6) (hx : x.2.2.1 < 10 ∧ x.2.2.2 < 6) : ∀ i, i < (nm ++ [x]).length → (nmD (nm ++ [x]) i).2.2.1 < 10 ∧ (nmD (nm ++ [x]) i).2.2.2 < 6 := by
  intro i hi
  rw [List.length_append] at hi
  have hi : i < nm.length + 1 := hi
  rcases Nat.lt_or_ge i nm.length with z | z
  · rw [nmD_o z]; exact hs i z
  · rw [show i = nm.length by omega, nmD_a]; exact hx
set_option maxHeartbeats 2000000 in
set_option maxRecDepth 20000 in
theorem x_readsCanon (hq : r = 7 ∨ r = 20) (hB : Bd F W nm) (hT : 0 < F 0) (hS : SC b n r (F, W, nm, e) I L) (hE : ∀ er, lnCanon b n F W nm e = .inl er → ∀ I' L', sL r I I' L L' → I' 2 13 = nI er.1 → I' 2 14 = nI er.2 → kr (some (.int 0)) (mk w p r I' L')) (hO : ∀ P', lnCanon b n F W nm e = .inr P' → ∀ I' L', sL r I I' L L' → SC b n r P' I' L' → kr (some (.int 1)) (mk w p r I' L')) : Ev l X uX4_readsCanon (d + 9) true 0 0 [.ref 2] (mk w p r I L) kr := by
  obtain ⟨tx0, he, hc0, nc0, pc0⟩ := hS
  have he : e ≤ n := he
  have hc0 : TC b n (tn b n 0 e) I L := hc0
  have nc0 : NC b nm I L := nc0
  have sl0 : sL r I I L L := sL.rf
  obtain ⟨⟨B0, B1, B3, B4, B5, B6, B7⟩, BF, Bp, Bn, Bs, Bt⟩ := hB
  refine Ev.of (by decide) (Nat.le_of_ble_eq_true rfl) ?_
  unfold lnCanon at hE hO
  obtain ⟨Bt0, Bt1⟩ := Bt hT
  have hc4 : 2 * 2 ≤ F 0 * F 1 := Nat.mul_le_mul Bt0 Bt1
  have hc20 : F 0 * F 1 ≤ 5 * 4 := Nat.mul_le_mul B0 B1
  have ecel : (nI (F 0 * F 1) - nI 1 : Int32) = nI (F 0 * F 1 - 1) := nI_sub (by omega)
  rcases hq with rfl | rfl
  · refine Wf.gc tkX4_readsCanon [8] ?_
    conv => whnf
    show Wf l X uX4_readsCanon (d + 9) true (mC (mk w p 7 I L) + 0, mS (mk w p 7 I L) + 0) 8 [(0, .ref 2), (1, .int (I 7 10))] [] (mk w p 7 I L) kr
    rw [show I 7 10 = nI (F 5) from pc0.1.2.2.2.2.2.1]
    refine Wf.gc tkX4_readsCanon [] ?_
    conv => whnf
    refine ⟨fun z => ?_, fun z => ?_⟩
    · have z : nI (F 5) < 5 := z
      rw [show (5 : Int32) = nI 5 from rfl, nI_ltI (by omega) (by decide)] at z
      rw [if_neg (by omega)] at hE hO
      conv => whnf
      refine x_take (d := d + 7) tx0 (tn_b he 1) hc0.2.2.1 (fun I1 L1 hs1 hc1 => ?_)
      have hc1 : TC b n (tn b n 1 e) I1 L1 := hc1
      have tx1 := TX_sT tx0 hs1
      have nc1 := NC_sT nc0 hs1
      have pc1 := PC_sT (by decide) pc0 hs1
      have sl1 := sl0.tr (hs1.sL (q := 7))
      conv => whnf
      show Ev l X uX4_tells (d + 8) true 0 0 [.ref 2, .int (nI 2), .int (nI (F 5))] (mk w p 7 I1 L1) _
      refine x_tells (d := d + 1) tx1 (tn_b he 1) hc1 nc1 (by omega) (fun q I2 L2 hs2 ht2 nc2 hc2 => ?_) (fun q => ?_)
      · rw [if_neg (fun z => z q)] at hE hO
        conv => whnf
        refine b1 (by decide) ?_
        conv => whnf
        have hc2 : TC b n (tn b n 2 e) I2 L2 := hc2
        have nc2 : NC b (nm ++ [nw b n (tn b n 1 e) 2 (F 5)]) I2 L2 := nc2
        have tx2 : TX b n I2 := TX_sL (Or.inl rfl) tx1 hs2
        have pc2 : PC 7 F W I2 := PC_eq pc1 (fun a i z1 z2 => ht2 a i (by omega) (by omega) (by omega))
        have sl2 : sL 7 I I2 L L2 := sl1.tr ⟨fun a i z1 z2 z3 z4 => hs2x hs2 ht2 z1 z2 z3, hs2.2⟩
        have Bs2 := nms_a (x := nw b n (tn b n 1 e) 2 (F 5)) Bs ⟨by show 2 < 10; decide, by show F 5 < 6; omega⟩
        show Ev l X uX4_named (d + 8) true 0 0 [.ref 2, .int (nI 1)] (mk w p 7 I2 L2) _
        have hf6 : (nam b n (nm ++ [nw b n (tn b n 1 e) 2 (F 5)]) 1 (tn b n 2 e)).2 < 6 := nam_6 (fun i hi => (Bs2 i hi).2)
        refine x_named (so := 1) (d := d + 1) (by decide) (fun i hi => (Bs2 i hi).1) tx2 (tn_b he 2) hc2 nc2 (fun q => ?_) (fun q => ?_)
        · rw [if_neg (fun z => z q)] at hE hO
          conv => whnf
          refine b1 (nI_m2 (by omega)) ?_
          conv => whnf
          refine x_toldCanonOf (q := 7) (Or.inl rfl) (by omega) (fun f _ => BF _) B5 pc2 ?_
          conv => whnf
          cases hfo : toc F (nam b n (nm ++ [nw b n (tn b n 1 e) 2 (F 5)]) 1 (tn b n 2 e)).2 with
          | some g =>
            rw [if_pos (by rw [hfo]; rfl)] at hE
            have := ff_b hfo
            refine b2 (nI_m2 (by omega)) ?_
            conv => whnf
            refine x_fails hc2 ?_
            conv => whnf
            exact ⟨Or.inl rfl, hE (3, tst b n (tn b n 2 e)) rfl (fl I2 3 (tst b n (tn b n 2 e))) L2 (sl2.tr sL_fl) fl_13 fl_14⟩
          | none =>
            rw [if_neg (by rw [hfo]; decide)] at hE hO
            refine b1 (fun z => z rfl) ?_
            conv => whnf
            refine ⟨F 5, ix (N := 5) (by omega) (by decide), ?_⟩
            conv => whnf
            show Ev l X uX4_take (d + 8) true 0 0 [.ref 2] (mk w p 7 (u2 I2 13 (F 5) (nI (nam b n (nm ++ [nw b n (tn b n 1 e) 2 (F 5)]) 1 (tn b n 2 e)).2)) L2) _
            obtain ⟨I3, hI3⟩ : ∃ J, J = u2 I2 13 (F 5) (nI (nam b n (nm ++ [nw b n (tn b n 1 e) 2 (F 5)]) 1 (tn b n 2 e)).2) := ⟨_, rfl⟩
            obtain ⟨L3, hL3⟩ : ∃ J, J = L2 := ⟨_, rfl⟩
            rw [← hI3, ← hL3]
            have tx3 : TX b n I3 := by rw [hI3]; exact TX_u (by decide) tx2
            have hc3 : TC b n (tn b n 2 e) I3 L3 := by rw [hI3, hL3]; exact TC_u (by decide) hc2
            have nc3 : NC b (nm ++ [nw b n (tn b n 1 e) 2 (F 5)]) I3 L3 := by rw [hI3, hL3]; exact NC_u (by decide) nc2
            have pc3 : PC 7 F W I3 := by rw [hI3]; exact PC_new (q := 7) (j := 6) pc2 (by omega)
            have sl3 : sL 7 I I3 L L3 := by rw [hI3, hL3]; exact sl2.tr (sL_u (by decide))
            have xf3 : I3 13 (F 5) = (nI (nam b n (nm ++ [nw b n (tn b n 1 e) 2 (F 5)]) 1 (tn b n 2 e)).2) := by rw [hI3, u2_s]
            refine x_take (d := d + 7) tx3 (tn_b he 3) hc3.2.2.1 (fun I4 L4 hs4 hc4 => ?_)
            have hc4 : TC b n (tn b n 3 e) I4 L4 := hc4
            have tx4 := TX_sT tx3 hs4
            have nc4 := NC_sT nc3 hs4
            have pc4 := PC_sT (by decide) pc3 hs4
            have sl4 := sl3.tr (hs4.sL (q := 7))
            have xf4 : I4 13 (F 5) = (nI (nam b n (nm ++ [nw b n (tn b n 1 e) 2 (F 5)]) 1 (tn b n 2 e)).2) := (hs4.1 _ _ (by omega)).trans xf3
            conv => whnf
            refine x_labelled (wd := 5016) (lo := 1) (hi := 30) (d := d + 2) (by decide) (by decide) tx4 (tn_b he 3) hc4 (by decide) (fun q I5 L5 hs5 hc5 t2 v1 v2 => ?_) (fun q I5 L5 hs5 => ?_)
            · have q : (lab b n 16 1 30 (tn b n 3 e)).1 = 0 := q
              rw [if_neg (fun z => z q)] at hE hO
              have hc5 : TC b n (tn b n 4 e) I5 L5 := hc5
              have w4 : I5 2 7 = nI (tvl b n (tn b n 4 e)) := hc5.2.2.2.1 t2
              have hu4 : tvl b n (tn b n 4 e) < 1000 := (tvl_b (tn_b he 4) t2).1
              have tx5 := TX_sT tx4 hs5
              have nc5 := NC_sT nc4 hs5
              have pc5 := PC_sT (by decide) pc4 hs5
              have sl5 := sl4.tr (hs5.sL (q := 7))
              have xf5 : I5 13 (F 5) = (nI (nam b n (nm ++ [nw b n (tn b n 1 e) 2 (F 5)]) 1 (tn b n 2 e)).2) := (hs5.1 _ _ (by omega)).trans xf4
              conv => whnf
              refine b1 (by decide) ?_
              conv => whnf
              refine ⟨F 5, ix (N := 5) (by omega) (by decide), ?_⟩
              conv => whnf
              show Ev l X uX4_take (d + 8) true 0 0 [.ref 2] (mk w p 7 (u2 I5 14 (F 5) (I5 2 7)) L5) _
              rw [w4]
              show Ev l X uX4_take (d + 8) true 0 0 [.ref 2] (mk w p 7 (u2 I5 14 (F 5) (nI (tvl b n (tn b n 4 e)))) L5) _
              obtain ⟨I6, hI6⟩ : ∃ J, J = u2 I5 14 (F 5) (nI (tvl b n (tn b n 4 e))) := ⟨_, rfl⟩
              obtain ⟨L6, hL6⟩ : ∃ J, J = L5 := ⟨_, rfl⟩
              rw [← hI6, ← hL6]
              have tx6 : TX b n I6 := by rw [hI6]; exact TX_u (by decide) tx5
              have hc6 : TC b n (tn b n 4 e) I6 L6 := by rw [hI6, hL6]; exact TC_u (by decide) hc5
              have nc6 : NC b (nm ++ [nw b n (tn b n 1 e) 2 (F 5)]) I6 L6 := by rw [hI6, hL6]; exact NC_u (by decide) nc5
              have pc6 : PC 7 F W I6 := by rw [hI6]; exact PC_new (q := 7) (j := 7) pc5 (by omega)
              have sl6 : sL 7 I I6 L L6 := by rw [hI6, hL6]; exact sl5.tr (sL_u (by decide))
              have xf6 : I6 13 (F 5) = (nI (nam b n (nm ++ [nw b n (tn b n 1 e) 2 (F 5)]) 1 (tn b n 2 e)).2) := by rw [hI6, u2_o (by omega)]; exact xf5
              have xv6 : I6 14 (F 5) = (nI (tvl b n (tn b n 4 e))) := by rw [hI6, u2_s]
              refine x_take (d := d + 7) tx6 (tn_b he 5) hc6.2.2.1 (fun I7 L7 hs7 hc7 => ?_)
              have hc7 : TC b n (tn b n 5 e) I7 L7 := hc7
              have tx7 := TX_sT tx6 hs7
              have nc7 := NC_sT nc6 hs7
              have pc7 := PC_sT (by decide) pc6 hs7
              have sl7 := sl6.tr (hs7.sL (q := 7))
              have xf7 : I7 13 (F 5) = (nI (nam b n (nm ++ [nw b n (tn b n 1 e) 2 (F 5)]) 1 (tn b n 2 e)).2) := (hs7.1 _ _ (by omega)).trans xf6
              have xv7 : I7 14 (F 5) = (nI (tvl b n (tn b n 4 e))) := (hs7.1 _ _ (by omega)).trans xv6
              conv => whnf
              refine x_labelled (wd := 5017) (lo := 1) (hi := 9) (d := d + 2) (by decide) (by decide) tx7 (tn_b he 5) hc7 (by decide) (fun q I8 L8 hs8 hc8 t2 v1 v2 => ?_) (fun q I8 L8 hs8 => ?_)
              · have q : (lab b n 17 1 9 (tn b n 5 e)).1 = 0 := q
                rw [if_neg (fun z => z q)] at hE hO
                have hc8 : TC b n (tn b n 6 e) I8 L8 := hc8
                have w6 : I8 2 7 = nI (tvl b n (tn b n 6 e)) := hc8.2.2.2.1 t2
                have hu6 : tvl b n (tn b n 6 e) < 1000 := (tvl_b (tn_b he 6) t2).1
                have tx8 := TX_sT tx7 hs8
                have nc8 := NC_sT nc7 hs8
                have pc8 := PC_sT (by decide) pc7 hs8
                have sl8 := sl7.tr (hs8.sL (q := 7))
                have xf8 : I8 13 (F 5) = (nI (nam b n (nm ++ [nw b n (tn b n 1 e) 2 (F 5)]) 1 (tn b n 2 e)).2) := (hs8.1 _ _ (by omega)).trans xf7
                have xv8 : I8 14 (F 5) = (nI (tvl b n (tn b n 4 e))) := (hs8.1 _ _ (by omega)).trans xv7
                conv => whnf
                refine b1 (by decide) ?_
                conv => whnf
                refine ⟨F 5, ix (N := 5) (by omega) (by decide), ?_⟩
                conv => whnf
                show Ev l X uX4_take (d + 8) true 0 0 [.ref 2] (mk w p 7 (u2 (u2 I8 15 (F 5) (I8 2 7)) 7 10 (u2 I8 15 (F 5) (I8 2 7) 7 10 + 1)) L8) _
                rw [w6, u2_o (by omega), show I8 7 10 = nI (F 5) from pc8.1.2.2.2.2.2.1, nI_1]
                have pcn : PC 7 F W (u2 I8 15 (F 5) (nI (tvl b n (tn b n 6 e)))) := PC_new (q := 7) (j := 8) pc8 (by omega)
                have pcf := PC_canon pcn B4 B5 B6 B7 (by omega) (by rw [u2_o (by omega)]; exact xf8) (by rw [u2_o (by omega)]; exact xv8) (by rw [u2_s])
                refine x_take (d := d + 7) (TX_u (by decide) (TX_u (by decide) tx8)) (tn_b he 7) (TC_u (by decide) (TC_u (by decide) hc8)).2.2.1 (fun I99 L99 hs99 hc99 => ?_)
                conv => whnf
                exact ⟨Or.inr rfl, hO _ rfl I99 L99 (sl8.tr ((sL_u (by decide)).tr ((sL_u (by decide)).tr hs99.sL))) ⟨TX_sT (TX_u (by decide) (TX_u (by decide) tx8)) hs99, tn_b he 7, hc99, NC_sT (NC_u (by decide) (NC_u (by decide) nc8)) hs99, PC_sT (by decide) pcf hs99⟩⟩
              · have q : (lab b n 17 1 9 (tn b n 5 e)).1 ≠ 0 := q
                rw [if_pos q] at hE
                conv => whnf
                refine b2 (by decide) ?_
                conv => whnf
                exact ⟨Or.inl rfl, hE _ rfl _ _ ((sl7.tr (hs8.sL (q := 7))).tr sL_fl) fl_13 fl_14⟩
            · have q : (lab b n 16 1 30 (tn b n 3 e)).1 ≠ 0 := q
              rw [if_pos q] at hE
              conv => whnf
              refine b2 (by decide) ?_
              conv => whnf
              exact ⟨Or.inl rfl, hE _ rfl _ _ ((sl4.tr (hs5.sL (q := 7))).tr sL_fl) fl_13 fl_14⟩
        · rw [if_pos q] at hE
          conv => whnf
          refine b2 (fun z => z rfl) ?_
          conv => whnf
          exact ⟨Or.inl rfl, hE _ rfl _ _ (sl2.tr sL_fl) fl_13 fl_14⟩
      · rw [if_pos q] at hE
        conv => whnf
        refine b2 (by decide) ?_
        conv => whnf
        exact ⟨Or.inl rfl, hE _ rfl _ _ (sl1.tr sL_fl) fl_13 fl_14⟩
    · have z : ¬ nI (F 5) < 5 := z
      rw [show (5 : Int32) = nI 5 from rfl, nI_ltI (by omega) (by decide)] at z
      rw [if_pos (by omega)] at hE
      conv => whnf
      refine x_fails hc0 ?_
      conv => whnf
      exact ⟨Or.inl rfl, hE (5, tst b n (tn b n 0 e)) rfl (fl I 5 (tst b n (tn b n 0 e))) L (sl0.tr sL_fl) fl_13 fl_14⟩
  · refine Wf.gc tkX4_readsCanon [8] ?_
    conv => whnf
    show Wf l X uX4_readsCanon (d + 9) true (mC (mk w p 20 I L) + 0, mS (mk w p 20 I L) + 0) 8 [(0, .ref 2), (1, .int (I 20 10))] [] (mk w p 20 I L) kr
    rw [show I 20 10 = nI (F 5) from pc0.1.2.2.2.2.2.1]
    refine Wf.gc tkX4_readsCanon [] ?_
    conv => whnf
    refine ⟨fun z => ?_, fun z => ?_⟩
    · have z : nI (F 5) < 5 := z
      rw [show (5 : Int32) = nI 5 from rfl, nI_ltI (by omega) (by decide)] at z
      rw [if_neg (by omega)] at hE hO
      conv => whnf
      refine x_take (d := d + 7) tx0 (tn_b he 1) hc0.2.2.1 (fun I1 L1 hs1 hc1 => ?_)
      have hc1 : TC b n (tn b n 1 e) I1 L1 := hc1
      have tx1 := TX_sT tx0 hs1
      have nc1 := NC_sT nc0 hs1
      have pc1 := PC_sT (by decide) pc0 hs1
      have sl1 := sl0.tr (hs1.sL (q := 20))
      conv => whnf
      show Ev l X uX4_tells (d + 8) true 0 0 [.ref 2, .int (nI 2), .int (nI (F 5))] (mk w p 20 I1 L1) _
      refine x_tells (d := d + 1) tx1 (tn_b he 1) hc1 nc1 (by omega) (fun q I2 L2 hs2 ht2 nc2 hc2 => ?_) (fun q => ?_)
      · rw [if_neg (fun z => z q)] at hE hO
        conv => whnf
        refine b1 (by decide) ?_
        conv => whnf
        have hc2 : TC b n (tn b n 2 e) I2 L2 := hc2
        have nc2 : NC b (nm ++ [nw b n (tn b n 1 e) 2 (F 5)]) I2 L2 := nc2
        have tx2 : TX b n I2 := TX_sL (Or.inl rfl) tx1 hs2
        have pc2 : PC 20 F W I2 := PC_eq pc1 (fun a i z1 z2 => ht2 a i (by omega) (by omega) (by omega))
        have sl2 : sL 20 I I2 L L2 := sl1.tr ⟨fun a i z1 z2 z3 z4 => hs2x hs2 ht2 z1 z2 z3, hs2.2⟩
        have Bs2 := nms_a (x := nw b n (tn b n 1 e) 2 (F 5)) Bs ⟨by show 2 < 10; decide, by show F 5 < 6; omega⟩
        show Ev l X uX4_named (d + 8) true 0 0 [.ref 2, .int (nI 1)] (mk w p 20 I2 L2) _
        have hf6 : (nam b n (nm ++ [nw b n (tn b n 1 e) 2 (F 5)]) 1 (tn b n 2 e)).2 < 6 := nam_6 (fun i hi => (Bs2 i hi).2)
        refine x_named (so := 1) (d := d + 1) (by decide) (fun i hi => (Bs2 i hi).1) tx2 (tn_b he 2) hc2 nc2 (fun q => ?_) (fun q => ?_)
        · rw [if_neg (fun z => z q)] at hE hO
          conv => whnf
          refine b1 (nI_m2 (by omega)) ?_
          conv => whnf
          refine x_toldCanonOf (q := 20) (Or.inr rfl) (by omega) (fun f _ => BF _) B5 pc2 ?_
          conv => whnf
          cases hfo : toc F (nam b n (nm ++ [nw b n (tn b n 1 e) 2 (F 5)]) 1 (tn b n 2 e)).2 with
          | some g =>
            rw [if_pos (by rw [hfo]; rfl)] at hE
            have := ff_b hfo
            refine b2 (nI_m2 (by omega)) ?_
            conv => whnf
            refine x_fails hc2 ?_
            conv => whnf
            exact ⟨Or.inl rfl, hE (3, tst b n (tn b n 2 e)) rfl (fl I2 3 (tst b n (tn b n 2 e))) L2 (sl2.tr sL_fl) fl_13 fl_14⟩
          | none =>
            rw [if_neg (by rw [hfo]; decide)] at hE hO
            refine b1 (fun z => z rfl) ?_
            conv => whnf
            refine ⟨F 5, ix (N := 5) (by omega) (by decide), ?_⟩
            conv => whnf
            show Ev l X uX4_take (d + 8) true 0 0 [.ref 2] (mk w p 20 (u2 I2 26 (F 5) (nI (nam b n (nm ++ [nw b n (tn b n 1 e) 2 (F 5)]) 1 (tn b n 2 e)).2)) L2) _
            obtain ⟨I3, hI3⟩ : ∃ J, J = u2 I2 26 (F 5) (nI (nam b n (nm ++ [nw b n (tn b n 1 e) 2 (F 5)]) 1 (tn b n 2 e)).2) := ⟨_, rfl⟩
            obtain ⟨L3, hL3⟩ : ∃ J, J = L2 := ⟨_, rfl⟩
            rw [← hI3, ← hL3]
            have tx3 : TX b n I3 := by rw [hI3]; exact TX_u (by decide) tx2
            have hc3 : TC b n (tn b n 2 e) I3 L3 := by rw [hI3, hL3]; exact TC_u (by decide) hc2
            have nc3 : NC b (nm ++ [nw b n (tn b n 1 e) 2 (F 5)]) I3 L3 := by rw [hI3, hL3]; exact NC_u (by decide) nc2
            have pc3 : PC 20 F W I3 := by rw [hI3]; exact PC_new (q := 20) (j := 6) pc2 (by omega)
            have sl3 : sL 20 I I3 L L3 := by rw [hI3, hL3]; exact sl2.tr (sL_u (by decide))
            have xf3 : I3 26 (F 5) = (nI (nam b n (nm ++ [nw b n (tn b n 1 e) 2 (F 5)]) 1 (tn b n 2 e)).2) := by rw [hI3, u2_s]
            refine x_take (d := d + 7) tx3 (tn_b he 3) hc3.2.2.1 (fun I4 L4 hs4 hc4 => ?_)
            have hc4 : TC b n (tn b n 3 e) I4 L4 := hc4
            have tx4 := TX_sT tx3 hs4
            have nc4 := NC_sT nc3 hs4
            have pc4 := PC_sT (by decide) pc3 hs4
            have sl4 := sl3.tr (hs4.sL (q := 20))
            have xf4 : I4 26 (F 5) = (nI (nam b n (nm ++ [nw b n (tn b n 1 e) 2 (F 5)]) 1 (tn b n 2 e)).2) := (hs4.1 _ _ (by omega)).trans xf3
            conv => whnf
            refine x_labelled (wd := 5016) (lo := 1) (hi := 30) (d := d + 2) (by decide) (by decide) tx4 (tn_b he 3) hc4 (by decide) (fun q I5 L5 hs5 hc5 t2 v1 v2 => ?_) (fun q I5 L5 hs5 => ?_)
            · have q : (lab b n 16 1 30 (tn b n 3 e)).1 = 0 := q
              rw [if_neg (fun z => z q)] at hE hO
              have hc5 : TC b n (tn b n 4 e) I5 L5 := hc5
              have w4 : I5 2 7 = nI (tvl b n (tn b n 4 e)) := hc5.2.2.2.1 t2
              have hu4 : tvl b n (tn b n 4 e) < 1000 := (tvl_b (tn_b he 4) t2).1
              have tx5 := TX_sT tx4 hs5
              have nc5 := NC_sT nc4 hs5
              have pc5 := PC_sT (by decide) pc4 hs5
              have sl5 := sl4.tr (hs5.sL (q := 20))
              have xf5 : I5 26 (F 5) = (nI (nam b n (nm ++ [nw b n (tn b n 1 e) 2 (F 5)]) 1 (tn b n 2 e)).2) := (hs5.1 _ _ (by omega)).trans xf4
              conv => whnf
              refine b1 (by decide) ?_
              conv => whnf
              refine ⟨F 5, ix (N := 5) (by omega) (by decide), ?_⟩
              conv => whnf
              show Ev l X uX4_take (d + 8) true 0 0 [.ref 2] (mk w p 20 (u2 I5 27 (F 5) (I5 2 7)) L5) _
              rw [w4]
              show Ev l X uX4_take (d + 8) true 0 0 [.ref 2] (mk w p 20 (u2 I5 27 (F 5) (nI (tvl b n (tn b n 4 e)))) L5) _
              obtain ⟨I6, hI6⟩ : ∃ J, J = u2 I5 27 (F 5) (nI (tvl b n (tn b n 4 e))) := ⟨_, rfl⟩
              obtain ⟨L6, hL6⟩ : ∃ J, J = L5 := ⟨_, rfl⟩
              rw [← hI6, ← hL6]
              have tx6 : TX b n I6 := by rw [hI6]; exact TX_u (by decide) tx5
              have hc6 : TC b n (tn b n 4 e) I6 L6 := by rw [hI6, hL6]; exact TC_u (by decide) hc5
              have nc6 : NC b (nm ++ [nw b n (tn b n 1 e) 2 (F 5)]) I6 L6 := by rw [hI6, hL6]; exact NC_u (by decide) nc5
              have pc6 : PC 20 F W I6 := by rw [hI6]; exact PC_new (q := 20) (j := 7) pc5 (by omega)
              have sl6 : sL 20 I I6 L L6 := by rw [hI6, hL6]; exact sl5.tr (sL_u (by decide))
              have xf6 : I6 26 (F 5) = (nI (nam b n (nm ++ [nw b n (tn b n 1 e) 2 (F 5)]) 1 (tn b n 2 e)).2) := by rw [hI6, u2_o (by omega)]; exact xf5
              have xv6 : I6 27 (F 5) = (nI (tvl b n (tn b n 4 e))) := by rw [hI6, u2_s]
              refine x_take (d := d + 7) tx6 (tn_b he 5) hc6.2.2.1 (fun I7 L7 hs7 hc7 => ?_)
              have hc7 : TC b n (tn b n 5 e) I7 L7 := hc7
              have tx7 := TX_sT tx6 hs7
              have nc7 := NC_sT nc6 hs7
              have pc7 := PC_sT (by decide) pc6 hs7
              have sl7 := sl6.tr (hs7.sL (q := 20))
              have xf7 : I7 26 (F 5) = (nI (nam b n (nm ++ [nw b n (tn b n 1 e) 2 (F 5)]) 1 (tn b n 2 e)).2) := (hs7.1 _ _ (by omega)).trans xf6
              have xv7 : I7 27 (F 5) = (nI (tvl b n (tn b n 4 e))) := (hs7.1 _ _ (by omega)).trans xv6
              conv => whnf
              refine x_labelled (wd := 5017) (lo := 1) (hi := 9) (d := d + 2) (by decide) (by decide) tx7 (tn_b he 5) hc7 (by decide) (fun q I8 L8 hs8 hc8 t2 v1 v2 => ?_) (fun q I8 L8 hs8 => ?_)
              · have q : (lab b n 17 1 9 (tn b n 5 e)).1 = 0 := q
                rw [if_neg (fun z => z q)] at hE hO
                have hc8 : TC b n (tn b n 6 e) I8 L8 := hc8
                have w6 : I8 2 7 = nI (tvl b n (tn b n 6 e)) := hc8.2.2.2.1 t2
                have hu6 : tvl b n (tn b n 6 e) < 1000 := (tvl_b (tn_b he 6) t2).1
                have tx8 := TX_sT tx7 hs8
                have nc8 := NC_sT nc7 hs8
                have pc8 := PC_sT (by decide) pc7 hs8
                have sl8 := sl7.tr (hs8.sL (q := 20))
                have xf8 : I8 26 (F 5) = (nI (nam b n (nm ++ [nw b n (tn b n 1 e) 2 (F 5)]) 1 (tn b n 2 e)).2) := (hs8.1 _ _ (by omega)).trans xf7
                have xv8 : I8 27 (F 5) = (nI (tvl b n (tn b n 4 e))) := (hs8.1 _ _ (by omega)).trans xv7
                conv => whnf
                refine b1 (by decide) ?_
                conv => whnf
                refine ⟨F 5, ix (N := 5) (by omega) (by decide), ?_⟩
                conv => whnf
                show Ev l X uX4_take (d + 8) true 0 0 [.ref 2] (mk w p 20 (u2 (u2 I8 28 (F 5) (I8 2 7)) 20 10 (u2 I8 28 (F 5) (I8 2 7) 20 10 + 1)) L8) _
                rw [w6, u2_o (by omega), show I8 20 10 = nI (F 5) from pc8.1.2.2.2.2.2.1, nI_1]
                have pcn : PC 20 F W (u2 I8 28 (F 5) (nI (tvl b n (tn b n 6 e)))) := PC_new (q := 20) (j := 8) pc8 (by omega)
                have pcf := PC_canon pcn B4 B5 B6 B7 (by omega) (by rw [u2_o (by omega)]; exact xf8) (by rw [u2_o (by omega)]; exact xv8) (by rw [u2_s])
                refine x_take (d := d + 7) (TX_u (by decide) (TX_u (by decide) tx8)) (tn_b he 7) (TC_u (by decide) (TC_u (by decide) hc8)).2.2.1 (fun I99 L99 hs99 hc99 => ?_)
                conv => whnf
                exact ⟨Or.inr rfl, hO _ rfl I99 L99 (sl8.tr ((sL_u (by decide)).tr ((sL_u (by decide)).tr hs99.sL))) ⟨TX_sT (TX_u (by decide) (TX_u (by decide) tx8)) hs99, tn_b he 7, hc99, NC_sT (NC_u (by decide) (NC_u (by decide) nc8)) hs99, PC_sT (by decide) pcf hs99⟩⟩
              · have q : (lab b n 17 1 9 (tn b n 5 e)).1 ≠ 0 := q
                rw [if_pos q] at hE
                conv => whnf
                refine b2 (by decide) ?_
                conv => whnf
                exact ⟨Or.inl rfl, hE _ rfl _ _ ((sl7.tr (hs8.sL (q := 20))).tr sL_fl) fl_13 fl_14⟩
            · have q : (lab b n 16 1 30 (tn b n 3 e)).1 ≠ 0 := q
              rw [if_pos q] at hE
              conv => whnf
              refine b2 (by decide) ?_
              conv => whnf
              exact ⟨Or.inl rfl, hE _ rfl _ _ ((sl4.tr (hs5.sL (q := 20))).tr sL_fl) fl_13 fl_14⟩
        · rw [if_pos q] at hE
          conv => whnf
          refine b2 (fun z => z rfl) ?_
          conv => whnf
          exact ⟨Or.inl rfl, hE _ rfl _ _ (sl2.tr sL_fl) fl_13 fl_14⟩
      · rw [if_pos q] at hE
        conv => whnf
        refine b2 (by decide) ?_
        conv => whnf
        exact ⟨Or.inl rfl, hE _ rfl _ _ (sl1.tr sL_fl) fl_13 fl_14⟩
    · have z : ¬ nI (F 5) < 5 := z
      rw [show (5 : Int32) = nI 5 from rfl, nI_ltI (by omega) (by decide)] at z
      rw [if_pos (by omega)] at hE
      conv => whnf
      refine x_fails hc0 ?_
      conv => whnf
      exact ⟨Or.inl rfl, hE (5, tst b n (tn b n 0 e)) rfl (fl I 5 (tst b n (tn b n 0 e))) L (sl0.tr sL_fl) fl_13 fl_14⟩
end LNX
