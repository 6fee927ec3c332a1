/-! the class's reads -/
section RDS
variable {l : Launch} {X : Nat × (Nat → Int32)} {d : Nat} {w : Nat × Nat} {p r : Nat} {I : Nat → Nat → Int32} {L : Nat → Nat → Int64} {kr : KR} {b : Nat → Nat} {n e : Nat} {nm : List Nm} {F : Nat → Nat} {W : Int32}
def P00 : Ps := (F00, 0, [], 0)
theorem B3_00 : B3 P00 := by
  refine ⟨⟨⟨⟨by decide, by decide, by decide, by decide, by decide, by decide, by decide⟩, fun k => by show 0 < 1000; decide, by decide +kernel, rfl, fun i hi => absurd hi (Nat.not_lt_zero _), fun z => absurd z (by decide)⟩, 0, by decide, rfl, by decide⟩, by decide⟩
set_option maxHeartbeats 2000000 in
set_option maxRecDepth 20000 in
/-- the lines' loop -/
theorem x_rloop {J0 : Nat → Nat → Int32} {K0 : Nat → Nat → Int64} {av : List Value} {MM : Mm} (hq : r = 7 ∨ r = 20) (ha : ∃ v, av = [v]) (hE : ∀ er, ∀ I' L', sL r J0 I' K0 L' → I' 2 13 = nI er.1 → I' 2 14 = nI er.2 → rdT b n (n + 1) P00 = .inl er → kr (some (.int 0)) (mk w p r I' L')) (hO : ∀ P', rdT b n (n + 1) P00 = .inr P' → ∀ I' L', sL r J0 I' K0 L' → SC b n r P' I' L' → kr (some (.int 1)) (mk w p r I' L')) (hn9 : n ≤ 900) :
    ∀ (f j : Nat), f + j = n + 1 → ∀ (P : Ps) (I : Nat → Nat → Int32) (L : Nat → Nat → Int64), rdT b n f P = rdT b n (n + 1) P00 → B3 P → sL r J0 I K0 L → SC b n r P I L → ∀ (x : Int32) (y : Nat), Wf l X uX4_reads (d + 11) true (mC MM + 0, mS MM + 0) 49 [(0, .ref 2), (1, .int x), (2, .ref y), (3, .int (nI j))] [] (mk w p r I L) kr := by
  intro f
  induction f with
  | zero =>
    intro j hj P I L hr hB hs hS x y
    obtain ⟨tx, he, hc, nc, pc⟩ := id hS
    refine Wf.gc tkX4_reads [] ?_
    conv => whnf
    refine b1' (by show I 2 2 < nI j; rw [tx.2.1, nI_ltI (by omega) (by omega)]; omega) ?_
    conv => whnf
    refine x_fails hc ?_
    conv => whnf
    exact ⟨Or.inl rfl, hE (1, tst b n P.2.2.2) (fl I 1 (tst b n P.2.2.2)) L (hs.tr sL_fl) fl_13 fl_14 hr.symm⟩
  | succ f ih =>
    intro j hj P I L hr hB hs hS x y
    obtain ⟨F, W, nm, e⟩ := P
    obtain ⟨tx, he, hc, nc, pc⟩ := id hS
    have he : e ≤ n := he
    refine Wf.gc tkX4_reads [66] ?_
    conv => whnf
    refine b2' (by show ¬ I 2 2 < nI j; rw [tx.2.1, nI_ltI (by omega) (by omega)]; omega) ?_
    conv => whnf
    unfold rdT at hr
    dsimp only at hr
    refine x_readsLine (d := d) hq hB.1.1 hS (fun er hl I' L' h1 h2 h3 => ?_) (fun P' hl I' L' h1 hS' => ?_)
    · rw [hl] at hr
      conv => whnf
      refine b2 (by decide) ?_
      conv => whnf
      exact ⟨Or.inl rfl, hE er I' L' (hs.tr h1) h2 h3 hr.symm⟩
    · rw [hl] at hr
      dsimp only at hr
      obtain ⟨hB', he', -⟩ := B3_ln hB he hl
      obtain ⟨tx', -, hc', nc', pc'⟩ := id hS'
      have s5 := tso_5 (b := b) (n := n) (e := P'.2.2.2)
      conv => whnf
      refine b1 (by decide) ?_
      conv => whnf
      show Wf l X uX4_reads (d + 11) true (mC MM + 0, mS MM + 0) 66 [(0, .ref 2), (1, .int x), (2, .ref y), (3, .int (nI j))] [] (mk w p r I' L') kr
      have mid : tso b n P'.2.2.2 ≠ 0 → Wf l X uX4_reads (d + 11) true (mC MM + 0, mS MM + 0) 98 [(0, .ref 2), (1, .int x), (2, .ref y), (3, .int (nI j))] [] (mk w p r I' L') kr := by
        intro z0
        rw [if_neg z0] at hr
        refine Wf.gc tkX4_reads [49] ?_
        conv => whnf
        refine ⟨fun z => ?_, fun z => ?_⟩
        · have z : I' 2 4 = 3 := z
          rw [hc'.1, show (3 : Int32) = nI 3 from rfl, nI_eq (by omega) (by decide)] at z
          rw [if_pos z] at hr
          conv => whnf
          have hsp := tsp_b (b := b) he'
          refine x_take (d := d + 9) tx' hsp.2 hc'.2.2.1 (fun I2 L2 hs2 hc2 => ?_)
          conv => whnf
          have q := ih (j + 1) (by omega) (P'.1, P'.2.1, P'.2.2.1, tsp b n P'.2.2.2) I2 L2 hr hB' ((hs.tr h1).tr hs2.sL) ⟨TX_sT tx' hs2, hsp.2, hc2, NC_sT nc' hs2, PC_sT (by rcases hq with rfl | rfl <;> decide) pc' hs2⟩ x y
          rw [← nI_1] at q
          exact q
        · have z : ¬ I' 2 4 = 3 := z
          rw [hc'.1, show (3 : Int32) = nI 3 from rfl, nI_eq (by omega) (by decide)] at z
          rw [if_neg z] at hr
          conv => whnf
          refine x_fails hc' ?_
          conv => whnf
          exact ⟨Or.inl rfl, hE (1, tst b n P'.2.2.2) (fl I' 1 (tst b n P'.2.2.2)) L' ((hs.tr h1).tr sL_fl) fl_13 fl_14 hr.symm⟩
      have B4 : P'.1 4 ≤ 6 := hB'.1.1.1.2.2.2.1
      rcases hq with rfl | rfl
      · refine Wf.gc tkX4_reads [98] ?_
        conv => whnf
        refine ⟨fun z => ?_, fun z => ?_⟩
        · have z : ¬ I' 2 4 = 0 := z
          rw [hc'.1, show (0 : Int32) = nI 0 from rfl, nI_eq (by omega) (by decide)] at z
          conv => whnf
          exact mid z
        · have z : I' 2 4 = 0 := z
          rw [hc'.1, show (0 : Int32) = nI 0 from rfl, nI_eq (by omega) (by decide)] at z
          rw [if_pos z] at hr
          conv => whnf
          refine ⟨fun z2 => ?_, fun z2 => ?_⟩
          · have z2 : 0 < I' 7 4 := z2
            rw [show I' 7 4 = nI (P'.1 4) from pc'.1.2.2.2.2.1, show (0 : Int32) = nI 0 from rfl, nI_ltI (by decide) (by omega)] at z2
            rw [if_pos z2] at hr
            conv => whnf
            exact ⟨Or.inr rfl, hO P' hr.symm I' L' (hs.tr h1) hS'⟩
          · have z2 : ¬ 0 < I' 7 4 := z2
            rw [show I' 7 4 = nI (P'.1 4) from pc'.1.2.2.2.2.1, show (0 : Int32) = nI 0 from rfl, nI_ltI (by decide) (by omega)] at z2
            rw [if_neg z2] at hr
            conv => whnf
            refine x_fails hc' ?_
            conv => whnf
            refine b1 (by decide) ?_
            conv => whnf
            exact ⟨Or.inl rfl, hE (6, tst b n P'.2.2.2) (fl I' 6 (tst b n P'.2.2.2)) L' ((hs.tr h1).tr sL_fl) fl_13 fl_14 hr.symm⟩
      · refine Wf.gc tkX4_reads [98] ?_
        conv => whnf
        refine ⟨fun z => ?_, fun z => ?_⟩
        · have z : ¬ I' 2 4 = 0 := z
          rw [hc'.1, show (0 : Int32) = nI 0 from rfl, nI_eq (by omega) (by decide)] at z
          conv => whnf
          exact mid z
        · have z : I' 2 4 = 0 := z
          rw [hc'.1, show (0 : Int32) = nI 0 from rfl, nI_eq (by omega) (by decide)] at z
          rw [if_pos z] at hr
          conv => whnf
          refine ⟨fun z2 => ?_, fun z2 => ?_⟩
          · have z2 : 0 < I' 20 4 := z2
            rw [show I' 20 4 = nI (P'.1 4) from pc'.1.2.2.2.2.1, show (0 : Int32) = nI 0 from rfl, nI_ltI (by decide) (by omega)] at z2
            rw [if_pos z2] at hr
            conv => whnf
            exact ⟨Or.inr rfl, hO P' hr.symm I' L' (hs.tr h1) hS'⟩
          · have z2 : ¬ 0 < I' 20 4 := z2
            rw [show I' 20 4 = nI (P'.1 4) from pc'.1.2.2.2.2.1, show (0 : Int32) = nI 0 from rfl, nI_ltI (by decide) (by omega)] at z2
            rw [if_neg z2] at hr
            conv => whnf
            refine x_fails hc' ?_
            conv => whnf
            refine b1 (by decide) ?_
            conv => whnf
            exact ⟨Or.inl rfl, hE (6, tst b n P'.2.2.2) (fl I' 6 (tst b n P'.2.2.2)) L' ((hs.tr h1).tr sL_fl) fl_13 fl_14 hr.symm⟩
end RDS
