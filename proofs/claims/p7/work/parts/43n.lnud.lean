/-! the class's lines: canons, walkers; unsure, dropped -/
section LNX
variable {l : Launch} {X : Nat × (Nat → Int32)} {d : Nat} {w : Nat × Nat} {p r : Nat} {I : Nat → Nat → Int32} {L : Nat → Nat → Int64} {kr : KR} {b : Nat → Nat} {n e : Nat} {nm : List Nm} {F : Nat → Nat} {W : Int32}
set_option maxHeartbeats 2000000 in
set_option maxRecDepth 20000 in
theorem x_readsUnsure (hq : r = 7 ∨ r = 20) (hB : Bd F W nm) (hT : 0 < F 0) (hS : SC b n r (F, W, nm, e) I L) (hE : ∀ er, lnUnsure b n F W nm e = .inl er → ∀ I' L', sL r I I' L L' → I' 2 13 = nI er.1 → I' 2 14 = nI er.2 → kr (some (.int 0)) (mk w p r I' L')) (hO : ∀ P', lnUnsure b n F W nm e = .inr P' → ∀ I' L', sL r I I' L L' → SC b n r P' I' L' → kr (some (.int 1)) (mk w p r I' L')) : Ev l X uX4_readsUnsure (d + 9) true 0 0 [.ref 2] (mk w p r I L) kr := by
  obtain ⟨tx0, he, hc0, nc0, pc0⟩ := hS
  have he : e ≤ n := he
  have hc0 : TC b n (tn b n 0 e) I L := hc0
  have nc0 : NC b nm I L := nc0
  have sl0 : sL r I I L L := sL.rf
  obtain ⟨⟨B0, B1, B3, B4, B5, B6, B7⟩, BF, Bp, Bn, Bs, Bt⟩ := hB
  refine Ev.of (by decide) (Nat.le_of_ble_eq_true rfl) ?_
  unfold lnUnsure at hE hO
  obtain ⟨Bt0, Bt1⟩ := Bt hT
  have hc4 : 2 * 2 ≤ F 0 * F 1 := Nat.mul_le_mul Bt0 Bt1
  have hc20 : F 0 * F 1 ≤ 5 * 4 := Nat.mul_le_mul B0 B1
  have ecel : (nI (F 0 * F 1) - nI 1 : Int32) = nI (F 0 * F 1 - 1) := nI_sub (by omega)
  rcases hq with rfl | rfl
  · refine Wf.gc tkX4_readsUnsure [8] ?_
    conv => whnf
    show Wf l X uX4_readsUnsure (d + 9) true (mC (mk w p 7 I L) + 0, mS (mk w p 7 I L) + 0) 8 [(0, .ref 2), (1, .int (I 7 17))] [] (mk w p 7 I L) kr
    rw [show I 7 17 = nI (F 7) from pc0.1.2.2.2.2.2.2.2]
    refine Wf.gc tkX4_readsUnsure [] ?_
    conv => whnf
    refine ⟨fun z => ?_, fun z => ?_⟩
    · have z : nI (F 7) < 4 := z
      rw [show (4 : Int32) = nI 4 from rfl, nI_ltI (by omega) (by decide)] at z
      rw [if_neg (by omega)] at hE hO
      conv => whnf
      refine x_take (d := d + 7) tx0 (tn_b he 1) hc0.2.2.1 (fun I1 L1 hs1 hc1 => ?_)
      have hc1 : TC b n (tn b n 1 e) I1 L1 := hc1
      have tx1 := TX_sT tx0 hs1
      have nc1 := NC_sT nc0 hs1
      have pc1 := PC_sT (by decide) pc0 hs1
      have sl1 := sl0.tr (hs1.sL (q := 7))
      conv => whnf
      show Ev l X uX4_named (d + 8) true 0 0 [.ref 2, .int (nI 2)] (mk w p 7 I1 L1) _
      have hf6 : (nam b n nm 2 (tn b n 1 e)).2 < 6 := nam_6 (fun i hi => (Bs i hi).2)
      refine x_named (so := 2) (d := d + 1) (by decide) (fun i hi => (Bs i hi).1) tx1 (tn_b he 1) hc1 nc1 (fun q => ?_) (fun q => ?_)
      · rw [if_neg (fun z => z q)] at hE hO
        conv => whnf
        refine b1 (nI_m2 (by omega)) ?_
        conv => whnf
        refine x_unsureOf (q := 7) (Or.inl rfl) (by omega) (fun f _ => BF _) B7 pc1 ?_
        conv => whnf
        cases hfo : usd F (nam b n nm 2 (tn b n 1 e)).2 with
        | some g =>
          rw [if_pos (by rw [hfo]; rfl)] at hE
          have := ff_b hfo
          refine b2 (nI_m2 (by omega)) ?_
          conv => whnf
          refine x_fails hc1 ?_
          conv => whnf
          exact ⟨Or.inl rfl, hE (3, tst b n (tn b n 1 e)) rfl (fl I1 3 (tst b n (tn b n 1 e))) L1 (sl1.tr sL_fl) fl_13 fl_14⟩
        | none =>
          rw [if_neg (by rw [hfo]; decide)] at hE hO
          refine b1 (fun z => z rfl) ?_
          conv => whnf
          refine x_take (d := d + 7) tx1 (tn_b he 2) hc1.2.2.1 (fun I2 L2 hs2 hc2 => ?_)
          have hc2 : TC b n (tn b n 2 e) I2 L2 := hc2
          have tx2 := TX_sT tx1 hs2
          have nc2 := NC_sT nc1 hs2
          have pc2 := PC_sT (by decide) pc1 hs2
          have sl2 := sl1.tr (hs2.sL (q := 7))
          conv => whnf
          show Ev l X uX4_bounded (d + 8) true 0 0 [.ref 2, .int (nI 1), .int (nI 30)] (mk w p 7 I2 L2) _
          refine x_bounded (d := d + 7) (by decide) (by decide) (tn_b he 2) hc2 (fun q => ?_) (fun q => ?_)
          · have t2 : tso b n (tn b n 2 e) = 2 := bnd_t q
            have w2 : I2 2 7 = nI (tvl b n (tn b n 2 e)) := hc2.2.2.2.1 t2
            rw [if_neg (fun z => z q)] at hE hO
            conv => whnf
            refine b1 (by decide) ?_
            conv => whnf
            refine ⟨F 7, ix (N := 4) (by omega) (by decide), ?_⟩
            conv => whnf
            refine ⟨F 7, ix (N := 4) (by omega) (by decide), ?_⟩
            conv => whnf
            show Ev l X uX4_take (d + 8) true 0 0 [.ref 2] (mk w p 7 (u2 (u2 (u2 I2 18 (F 7) (nI (nam b n nm 2 (tn b n 1 e)).2)) 19 (F 7) (I2 2 7)) 7 17 (u2 (u2 I2 18 (F 7) (nI (nam b n nm 2 (tn b n 1 e)).2)) 19 (F 7) (I2 2 7) 7 17 + 1)) L2) _
            rw [w2, u2_o (by omega), u2_o (by omega), show I2 7 17 = nI (F 7) from pc2.1.2.2.2.2.2.2.2, nI_1]
            have pcn : PC 7 F W (u2 (u2 I2 18 (F 7) (nI (nam b n nm 2 (tn b n 1 e)).2)) 19 (F 7) (nI (tvl b n (tn b n 2 e)))) := PC_new (q := 7) (j := 12) (PC_new (q := 7) (j := 11) pc2 (by omega)) (by omega)
            have pcf := PC_unsure pcn B4 B5 B6 B7 (by omega) (by rw [u2_o (by omega), u2_s]) (by rw [u2_s])
            refine x_take (d := d + 7) (TX_u (by decide) (TX_u (by decide) (TX_u (by decide) tx2))) (tn_b he 3) (TC_u (by decide) (TC_u (by decide) (TC_u (by decide) hc2))).2.2.1 (fun I99 L99 hs99 hc99 => ?_)
            conv => whnf
            exact ⟨Or.inr rfl, hO _ rfl I99 L99 (sl2.tr ((sL_u (by decide)).tr ((sL_u (by decide)).tr ((sL_u (by decide)).tr hs99.sL)))) ⟨TX_sT (TX_u (by decide) (TX_u (by decide) (TX_u (by decide) tx2))) hs99, tn_b he 3, hc99, NC_sT (NC_u (by decide) (NC_u (by decide) (NC_u (by decide) nc2))) hs99, PC_sT (by decide) pcf hs99⟩⟩
          · rw [if_pos q] at hE
            conv => whnf
            refine b2 (by decide) ?_
            conv => whnf
            exact ⟨Or.inl rfl, hE _ rfl _ _ (sl2.tr sL_fl) fl_13 fl_14⟩
      · rw [if_pos q] at hE
        conv => whnf
        refine b2 (fun z => z rfl) ?_
        conv => whnf
        exact ⟨Or.inl rfl, hE _ rfl _ _ (sl1.tr sL_fl) fl_13 fl_14⟩
    · have z : ¬ nI (F 7) < 4 := z
      rw [show (4 : Int32) = nI 4 from rfl, nI_ltI (by omega) (by decide)] at z
      rw [if_pos (by omega)] at hE
      conv => whnf
      refine x_fails hc0 ?_
      conv => whnf
      exact ⟨Or.inl rfl, hE (5, tst b n (tn b n 0 e)) rfl (fl I 5 (tst b n (tn b n 0 e))) L (sl0.tr sL_fl) fl_13 fl_14⟩
  · refine Wf.gc tkX4_readsUnsure [8] ?_
    conv => whnf
    show Wf l X uX4_readsUnsure (d + 9) true (mC (mk w p 20 I L) + 0, mS (mk w p 20 I L) + 0) 8 [(0, .ref 2), (1, .int (I 20 17))] [] (mk w p 20 I L) kr
    rw [show I 20 17 = nI (F 7) from pc0.1.2.2.2.2.2.2.2]
    refine Wf.gc tkX4_readsUnsure [] ?_
    conv => whnf
    refine ⟨fun z => ?_, fun z => ?_⟩
    · have z : nI (F 7) < 4 := z
      rw [show (4 : Int32) = nI 4 from rfl, nI_ltI (by omega) (by decide)] at z
      rw [if_neg (by omega)] at hE hO
      conv => whnf
      refine x_take (d := d + 7) tx0 (tn_b he 1) hc0.2.2.1 (fun I1 L1 hs1 hc1 => ?_)
      have hc1 : TC b n (tn b n 1 e) I1 L1 := hc1
      have tx1 := TX_sT tx0 hs1
      have nc1 := NC_sT nc0 hs1
      have pc1 := PC_sT (by decide) pc0 hs1
      have sl1 := sl0.tr (hs1.sL (q := 20))
      conv => whnf
      show Ev l X uX4_named (d + 8) true 0 0 [.ref 2, .int (nI 2)] (mk w p 20 I1 L1) _
      have hf6 : (nam b n nm 2 (tn b n 1 e)).2 < 6 := nam_6 (fun i hi => (Bs i hi).2)
      refine x_named (so := 2) (d := d + 1) (by decide) (fun i hi => (Bs i hi).1) tx1 (tn_b he 1) hc1 nc1 (fun q => ?_) (fun q => ?_)
      · rw [if_neg (fun z => z q)] at hE hO
        conv => whnf
        refine b1 (nI_m2 (by omega)) ?_
        conv => whnf
        refine x_unsureOf (q := 20) (Or.inr rfl) (by omega) (fun f _ => BF _) B7 pc1 ?_
        conv => whnf
        cases hfo : usd F (nam b n nm 2 (tn b n 1 e)).2 with
        | some g =>
          rw [if_pos (by rw [hfo]; rfl)] at hE
          have := ff_b hfo
          refine b2 (nI_m2 (by omega)) ?_
          conv => whnf
          refine x_fails hc1 ?_
          conv => whnf
          exact ⟨Or.inl rfl, hE (3, tst b n (tn b n 1 e)) rfl (fl I1 3 (tst b n (tn b n 1 e))) L1 (sl1.tr sL_fl) fl_13 fl_14⟩
        | none =>
          rw [if_neg (by rw [hfo]; decide)] at hE hO
          refine b1 (fun z => z rfl) ?_
          conv => whnf
          refine x_take (d := d + 7) tx1 (tn_b he 2) hc1.2.2.1 (fun I2 L2 hs2 hc2 => ?_)
          have hc2 : TC b n (tn b n 2 e) I2 L2 := hc2
          have tx2 := TX_sT tx1 hs2
          have nc2 := NC_sT nc1 hs2
          have pc2 := PC_sT (by decide) pc1 hs2
          have sl2 := sl1.tr (hs2.sL (q := 20))
          conv => whnf
          show Ev l X uX4_bounded (d + 8) true 0 0 [.ref 2, .int (nI 1), .int (nI 30)] (mk w p 20 I2 L2) _
          refine x_bounded (d := d + 7) (by decide) (by decide) (tn_b he 2) hc2 (fun q => ?_) (fun q => ?_)
          · have t2 : tso b n (tn b n 2 e) = 2 := bnd_t q
            have w2 : I2 2 7 = nI (tvl b n (tn b n 2 e)) := hc2.2.2.2.1 t2
            rw [if_neg (fun z => z q)] at hE hO
            conv => whnf
            refine b1 (by decide) ?_
            conv => whnf
            refine ⟨F 7, ix (N := 4) (by omega) (by decide), ?_⟩
            conv => whnf
            refine ⟨F 7, ix (N := 4) (by omega) (by decide), ?_⟩
            conv => whnf
            show Ev l X uX4_take (d + 8) true 0 0 [.ref 2] (mk w p 20 (u2 (u2 (u2 I2 31 (F 7) (nI (nam b n nm 2 (tn b n 1 e)).2)) 32 (F 7) (I2 2 7)) 20 17 (u2 (u2 I2 31 (F 7) (nI (nam b n nm 2 (tn b n 1 e)).2)) 32 (F 7) (I2 2 7) 20 17 + 1)) L2) _
            rw [w2, u2_o (by omega), u2_o (by omega), show I2 20 17 = nI (F 7) from pc2.1.2.2.2.2.2.2.2, nI_1]
            have pcn : PC 20 F W (u2 (u2 I2 31 (F 7) (nI (nam b n nm 2 (tn b n 1 e)).2)) 32 (F 7) (nI (tvl b n (tn b n 2 e)))) := PC_new (q := 20) (j := 12) (PC_new (q := 20) (j := 11) pc2 (by omega)) (by omega)
            have pcf := PC_unsure pcn B4 B5 B6 B7 (by omega) (by rw [u2_o (by omega), u2_s]) (by rw [u2_s])
            refine x_take (d := d + 7) (TX_u (by decide) (TX_u (by decide) (TX_u (by decide) tx2))) (tn_b he 3) (TC_u (by decide) (TC_u (by decide) (TC_u (by decide) hc2))).2.2.1 (fun I99 L99 hs99 hc99 => ?_)
            conv => whnf
            exact ⟨Or.inr rfl, hO _ rfl I99 L99 (sl2.tr ((sL_u (by decide)).tr ((sL_u (by decide)).tr ((sL_u (by decide)).tr hs99.sL)))) ⟨TX_sT (TX_u (by decide) (TX_u (by decide) (TX_u (by decide) tx2))) hs99, tn_b he 3, hc99, NC_sT (NC_u (by decide) (NC_u (by decide) (NC_u (by decide) nc2))) hs99, PC_sT (by decide) pcf hs99⟩⟩
          · rw [if_pos q] at hE
            conv => whnf
            refine b2 (by decide) ?_
            conv => whnf
            exact ⟨Or.inl rfl, hE _ rfl _ _ (sl2.tr sL_fl) fl_13 fl_14⟩
      · rw [if_pos q] at hE
        conv => whnf
        refine b2 (fun z => z rfl) ?_
        conv => whnf
        exact ⟨Or.inl rfl, hE _ rfl _ _ (sl1.tr sL_fl) fl_13 fl_14⟩
    · have z : ¬ nI (F 7) < 4 := z
      rw [show (4 : Int32) = nI 4 from rfl, nI_ltI (by omega) (by decide)] at z
      rw [if_pos (by omega)] at hE
      conv => whnf
      refine x_fails hc0 ?_
      conv => whnf
      exact ⟨Or.inl rfl, hE (5, tst b n (tn b n 0 e)) rfl (fl I 5 (tst b n (tn b n 0 e))) L (sl0.tr sL_fl) fl_13 fl_14⟩
set_option maxHeartbeats 2000000 in
set_option maxRecDepth 20000 in
theorem x_readsDropped (hq : r = 7 ∨ r = 20) (hB : Bd F W nm) (hT : 0 < F 0) (hS : SC b n r (F, W, nm, e) I L) (hE : ∀ er, lnDropped b n F W nm e = .inl er → ∀ I' L', sL r I I' L L' → I' 2 13 = nI er.1 → I' 2 14 = nI er.2 → kr (some (.int 0)) (mk w p r I' L')) (hO : ∀ P', lnDropped b n F W nm e = .inr P' → ∀ I' L', sL r I I' L L' → SC b n r P' I' L' → kr (some (.int 1)) (mk w p r I' L')) : Ev l X uX4_readsDropped (d + 9) true 0 0 [.ref 2] (mk w p r I L) kr := by
  obtain ⟨tx0, he, hc0, nc0, pc0⟩ := hS
  have he : e ≤ n := he
  have hc0 : TC b n (tn b n 0 e) I L := hc0
  have nc0 : NC b nm I L := nc0
  have sl0 : sL r I I L L := sL.rf
  obtain ⟨⟨B0, B1, B3, B4, B5, B6, B7⟩, BF, Bp, Bn, Bs, Bt⟩ := hB
  refine Ev.of (by decide) (Nat.le_of_ble_eq_true rfl) ?_
  unfold lnDropped at hE hO
  obtain ⟨Bt0, Bt1⟩ := Bt hT
  have hc4 : 2 * 2 ≤ F 0 * F 1 := Nat.mul_le_mul Bt0 Bt1
  have hc20 : F 0 * F 1 ≤ 5 * 4 := Nat.mul_le_mul B0 B1
  have ecel : (nI (F 0 * F 1) - nI 1 : Int32) = nI (F 0 * F 1 - 1) := nI_sub (by omega)
  rcases hq with rfl | rfl
  · refine Wf.gc tkX4_readsDropped [] ?_
    conv => whnf
    refine x_take (d := d + 7) tx0 (tn_b he 1) hc0.2.2.1 (fun I1 L1 hs1 hc1 => ?_)
    have hc1 : TC b n (tn b n 1 e) I1 L1 := hc1
    have tx1 := TX_sT tx0 hs1
    have nc1 := NC_sT nc0 hs1
    have pc1 := PC_sT (by decide) pc0 hs1
    have sl1 := sl0.tr (hs1.sL (q := 7))
    conv => whnf
    show Ev l X uX4_named (d + 8) true 0 0 [.ref 2, .int (nI 1)] (mk w p 7 I1 L1) _
    have hf6 : (nam b n nm 1 (tn b n 1 e)).2 < 6 := nam_6 (fun i hi => (Bs i hi).2)
    refine x_named (so := 1) (d := d + 1) (by decide) (fun i hi => (Bs i hi).1) tx1 (tn_b he 1) hc1 nc1 (fun q => ?_) (fun q => ?_)
    · rw [if_neg (fun z => z q)] at hE hO
      conv => whnf
      refine b1 (nI_m2 (by omega)) ?_
      conv => whnf
      refine ⟨(nam b n nm 1 (tn b n 1 e)).2, ix (N := 6) hf6 (by decide), ?_⟩
      conv => whnf
      refine ⟨fun z3 => ?_, fun z3 => ?_⟩
      · have z3 : I1 12 (nam b n nm 1 (tn b n 1 e)).2 = 0 := z3
        rw [show I1 12 (nam b n nm 1 (tn b n 1 e)).2 = nI (F (61 + (nam b n nm 1 (tn b n 1 e)).2)) from pc1.2.2.1 _ hf6, show (0 : Int32) = nI 0 from rfl, nI_eq (by have := BF (61 + (nam b n nm 1 (tn b n 1 e)).2); omega) (by decide)] at z3
        rw [if_neg (fun q => q z3)] at hE hO
        conv => whnf
        refine x_take (d := d + 7) tx1 (tn_b he 2) hc1.2.2.1 (fun I2 L2 hs2 hc2 => ?_)
        have hc2 : TC b n (tn b n 2 e) I2 L2 := hc2
        have tx2 := TX_sT tx1 hs2
        have nc2 := NC_sT nc1 hs2
        have pc2 := PC_sT (by decide) pc1 hs2
        have sl2 := sl1.tr (hs2.sL (q := 7))
        conv => whnf
        refine x_labelled (wd := 5020) (lo := 1) (hi := 40) (d := d + 2) (by decide) (by decide) tx2 (tn_b he 2) hc2 (by decide) (fun q I3 L3 hs3 hc3 t2 v1 v2 => ?_) (fun q I3 L3 hs3 => ?_)
        · have q : (lab b n 20 1 40 (tn b n 2 e)).1 = 0 := q
          rw [if_neg (fun z => z q)] at hE hO
          have hc3 : TC b n (tn b n 3 e) I3 L3 := hc3
          have w3 : I3 2 7 = nI (tvl b n (tn b n 3 e)) := hc3.2.2.2.1 t2
          have hu3 : tvl b n (tn b n 3 e) < 1000 := (tvl_b (tn_b he 3) t2).1
          have tx3 := TX_sT tx2 hs3
          have nc3 := NC_sT nc2 hs3
          have pc3 := PC_sT (by decide) pc2 hs3
          have sl3 := sl2.tr (hs3.sL (q := 7))
          conv => whnf
          refine b1 (by decide) ?_
          conv => whnf
          refine ⟨(nam b n nm 1 (tn b n 1 e)).2, ix (N := 6) hf6 (by decide), ?_⟩
          conv => whnf
          show Ev l X uX4_take (d + 8) true 0 0 [.ref 2] (mk w p 7 (u2 I3 12 (nam b n nm 1 (tn b n 1 e)).2 (I3 2 7)) L3) _
          rw [w3]
          have pcf := PC_drop (v := tvl b n (tn b n 3 e)) hf6 B4 B5 B6 B7 pc3
          refine x_take (d := d + 7) (TX_u (by decide) tx3) (tn_b he 4) (TC_u (by decide) hc3).2.2.1 (fun I99 L99 hs99 hc99 => ?_)
          conv => whnf
          exact ⟨Or.inr rfl, hO _ rfl I99 L99 (sl3.tr ((sL_u (by decide)).tr hs99.sL)) ⟨TX_sT (TX_u (by decide) tx3) hs99, tn_b he 4, hc99, NC_sT (NC_u (by decide) nc3) hs99, PC_sT (by decide) pcf hs99⟩⟩
        · have q : (lab b n 20 1 40 (tn b n 2 e)).1 ≠ 0 := q
          rw [if_pos q] at hE
          conv => whnf
          refine b2 (by decide) ?_
          conv => whnf
          exact ⟨Or.inl rfl, hE _ rfl _ _ ((sl2.tr (hs3.sL (q := 7))).tr sL_fl) fl_13 fl_14⟩
      · have z3 : ¬ I1 12 (nam b n nm 1 (tn b n 1 e)).2 = 0 := z3
        rw [show I1 12 (nam b n nm 1 (tn b n 1 e)).2 = nI (F (61 + (nam b n nm 1 (tn b n 1 e)).2)) from pc1.2.2.1 _ hf6, show (0 : Int32) = nI 0 from rfl, nI_eq (by have := BF (61 + (nam b n nm 1 (tn b n 1 e)).2); omega) (by decide)] at z3
        rw [if_pos z3] at hE
        conv => whnf
        refine x_fails hc1 ?_
        conv => whnf
        exact ⟨Or.inl rfl, hE (3, tst b n (tn b n 1 e)) rfl (fl I1 3 (tst b n (tn b n 1 e))) L1 (sl1.tr sL_fl) fl_13 fl_14⟩
    · rw [if_pos q] at hE
      conv => whnf
      refine b2 (fun z => z rfl) ?_
      conv => whnf
      exact ⟨Or.inl rfl, hE _ rfl _ _ (sl1.tr sL_fl) fl_13 fl_14⟩
  · refine Wf.gc tkX4_readsDropped [] ?_
    conv => whnf
    refine x_take (d := d + 7) tx0 (tn_b he 1) hc0.2.2.1 (fun I1 L1 hs1 hc1 => ?_)
    have hc1 : TC b n (tn b n 1 e) I1 L1 := hc1
    have tx1 := TX_sT tx0 hs1
    have nc1 := NC_sT nc0 hs1
    have pc1 := PC_sT (by decide) pc0 hs1
    have sl1 := sl0.tr (hs1.sL (q := 20))
    conv => whnf
    show Ev l X uX4_named (d + 8) true 0 0 [.ref 2, .int (nI 1)] (mk w p 20 I1 L1) _
    have hf6 : (nam b n nm 1 (tn b n 1 e)).2 < 6 := nam_6 (fun i hi => (Bs i hi).2)
    refine x_named (so := 1) (d := d + 1) (by decide) (fun i hi => (Bs i hi).1) tx1 (tn_b he 1) hc1 nc1 (fun q => ?_) (fun q => ?_)
    · rw [if_neg (fun z => z q)] at hE hO
      conv => whnf
      refine b1 (nI_m2 (by omega)) ?_
      conv => whnf
      refine ⟨(nam b n nm 1 (tn b n 1 e)).2, ix (N := 6) hf6 (by decide), ?_⟩
      conv => whnf
      refine ⟨fun z3 => ?_, fun z3 => ?_⟩
      · have z3 : I1 25 (nam b n nm 1 (tn b n 1 e)).2 = 0 := z3
        rw [show I1 25 (nam b n nm 1 (tn b n 1 e)).2 = nI (F (61 + (nam b n nm 1 (tn b n 1 e)).2)) from pc1.2.2.1 _ hf6, show (0 : Int32) = nI 0 from rfl, nI_eq (by have := BF (61 + (nam b n nm 1 (tn b n 1 e)).2); omega) (by decide)] at z3
        rw [if_neg (fun q => q z3)] at hE hO
        conv => whnf
        refine x_take (d := d + 7) tx1 (tn_b he 2) hc1.2.2.1 (fun I2 L2 hs2 hc2 => ?_)
        have hc2 : TC b n (tn b n 2 e) I2 L2 := hc2
        have tx2 := TX_sT tx1 hs2
        have nc2 := NC_sT nc1 hs2
        have pc2 := PC_sT (by decide) pc1 hs2
        have sl2 := sl1.tr (hs2.sL (q := 20))
        conv => whnf
        refine x_labelled (wd := 5020) (lo := 1) (hi := 40) (d := d + 2) (by decide) (by decide) tx2 (tn_b he 2) hc2 (by decide) (fun q I3 L3 hs3 hc3 t2 v1 v2 => ?_) (fun q I3 L3 hs3 => ?_)
        · have q : (lab b n 20 1 40 (tn b n 2 e)).1 = 0 := q
          rw [if_neg (fun z => z q)] at hE hO
          have hc3 : TC b n (tn b n 3 e) I3 L3 := hc3
          have w3 : I3 2 7 = nI (tvl b n (tn b n 3 e)) := hc3.2.2.2.1 t2
          have hu3 : tvl b n (tn b n 3 e) < 1000 := (tvl_b (tn_b he 3) t2).1
          have tx3 := TX_sT tx2 hs3
          have nc3 := NC_sT nc2 hs3
          have pc3 := PC_sT (by decide) pc2 hs3
          have sl3 := sl2.tr (hs3.sL (q := 20))
          conv => whnf
          refine b1 (by decide) ?_
          conv => whnf
          refine ⟨(nam b n nm 1 (tn b n 1 e)).2, ix (N := 6) hf6 (by decide), ?_⟩
          conv => whnf
          show Ev l X uX4_take (d + 8) true 0 0 [.ref 2] (mk w p 20 (u2 I3 25 (nam b n nm 1 (tn b n 1 e)).2 (I3 2 7)) L3) _
          rw [w3]
          have pcf := PC_drop (v := tvl b n (tn b n 3 e)) hf6 B4 B5 B6 B7 pc3
          refine x_take (d := d + 7) (TX_u (by decide) tx3) (tn_b he 4) (TC_u (by decide) hc3).2.2.1 (fun I99 L99 hs99 hc99 => ?_)
          conv => whnf
          exact ⟨Or.inr rfl, hO _ rfl I99 L99 (sl3.tr ((sL_u (by decide)).tr hs99.sL)) ⟨TX_sT (TX_u (by decide) tx3) hs99, tn_b he 4, hc99, NC_sT (NC_u (by decide) nc3) hs99, PC_sT (by decide) pcf hs99⟩⟩
        · have q : (lab b n 20 1 40 (tn b n 2 e)).1 ≠ 0 := q
          rw [if_pos q] at hE
          conv => whnf
          refine b2 (by decide) ?_
          conv => whnf
          exact ⟨Or.inl rfl, hE _ rfl _ _ ((sl2.tr (hs3.sL (q := 20))).tr sL_fl) fl_13 fl_14⟩
      · have z3 : ¬ I1 25 (nam b n nm 1 (tn b n 1 e)).2 = 0 := z3
        rw [show I1 25 (nam b n nm 1 (tn b n 1 e)).2 = nI (F (61 + (nam b n nm 1 (tn b n 1 e)).2)) from pc1.2.2.1 _ hf6, show (0 : Int32) = nI 0 from rfl, nI_eq (by have := BF (61 + (nam b n nm 1 (tn b n 1 e)).2); omega) (by decide)] at z3
        rw [if_pos z3] at hE
        conv => whnf
        refine x_fails hc1 ?_
        conv => whnf
        exact ⟨Or.inl rfl, hE (3, tst b n (tn b n 1 e)) rfl (fl I1 3 (tst b n (tn b n 1 e))) L1 (sl1.tr sL_fl) fl_13 fl_14⟩
    · rw [if_pos q] at hE
      conv => whnf
      refine b2 (fun z => z rfl) ?_
      conv => whnf
      exact ⟨Or.inl rfl, hE _ rfl _ _ (sl1.tr sL_fl) fl_13 fl_14⟩
end LNX
