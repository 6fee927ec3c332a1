/-! the reference's close -/
section RL9
variable {l : Launch} {X : Nat × (Nat → Int32)} {d : Nat} {w : Nat × Nat} {p r : Nat} {I : Nat → Nat → Int32} {L : Nat → Nat → Int64} {kr : KR} {b : Nat → Nat} {n e : Nat} {nm : List Nm} {F : Nat → Nat} {W : Int32}
theorem SF_cg {P : Ps} {I' : Nat → Nat → Int32} (h : SF b n P I) (ho : ∀ a i, a ≠ 153 → a ≠ 155 → a ≠ 157 → ¬ (a = 150 ∧ 14 ≤ i) → I' a i = I a i) : SF b n P I' := by
  obtain ⟨hr, he, hc, h0, hf, hn, hi, hu, hk, h9⟩ := h
  have sn : sN I I' → RX b n I' := fun q => RX_sN hr q
  refine ⟨⟨hr.1, by rw [ho 150 3 (by decide) (by decide) (by decide) (by omega)]; exact hr.2.1, fun i hi => ⟨(hr.2.2 i hi).1, by rw [ho 151 i (by decide) (by decide) (by decide) (by omega)]; exact (hr.2.2 i hi).2⟩⟩, he, ⟨by rw [ho 150 6 (by decide) (by decide) (by decide) (by omega)]; exact hc.1, by rw [ho 150 4 (by decide) (by decide) (by decide) (by omega)]; exact hc.2.1, by rw [ho 150 5 (by decide) (by decide) (by decide) (by omega)]; exact hc.2.2.1, fun q => by rw [ho 150 7 (by decide) (by decide) (by decide) (by omega)]; exact hc.2.2.2.1 q, fun q => ⟨by rw [ho 150 8 (by decide) (by decide) (by decide) (by omega)]; exact (hc.2.2.2.2 q).1, fun k hk => by rw [ho 152 k (by decide) (by decide) (by decide) (by omega)]; exact (hc.2.2.2.2 q).2 k hk⟩⟩, by rw [ho 150 13 (by decide) (by decide) (by decide) (by omega)]; exact h0, FR_cg hf (fun k _ => ho 154 k (by decide) (by decide) (by decide) (by omega)) (fun k => ho 156 k (by decide) (by decide) (by decide) (by omega)), RN_cg hn (fun i _ => ho 154 i (by decide) (by decide) (by decide) (by omega)), hi, hu, hk, h9⟩
set_option maxRecDepth 20000 in
theorem y_close2 {v : Int32} (hN : ¬ (0 ≤ v ∧ v ≤ I 150 2)) (h : kr (some (.int (-1))) (mk w p r (u2 (u2 (u2 I 150 0 0) 150 11 0) 150 11 2) L)) : Ev l X uX7_close (d + 11) true 0 0 [.ref 150, .int v] (mk w p r I L) kr := by
  refine Ev.of (by decide) (Nat.le_of_ble_eq_true rfl) ?_
  refine Wf.gc tkX7_close [39] ?_
  conv => whnf
  refine y_good ?_
  conv => whnf
  show Ev l X uX7_in (d + 10) true 0 0 [.int v, .int 0, .int (u2 (u2 I 150 0 0) 150 11 0 150 2)] (mk w p r (u2 (u2 I 150 0 0) 150 11 0) L) _
  rw [u2_o (by decide), u2_o (by decide)]
  refine y_in (fun z1 z2 => absurd ⟨z1, z2⟩ hN) (fun _ => ?_)
  conv => whnf
  refine b2 (fun z => z rfl) ?_
  conv => whnf
  refine y_no ?_
  conv => whnf
  exact h
set_option maxHeartbeats 8000000 in
set_option maxRecDepth 20000 in
theorem y_close {t : Nat} (ht : I 150 2 = nI t) (ht9 : t ≤ 900) (hn : n ≤ t) (hb : ∀ i, i < t → b i < 256 ∧ I 151 i = nI (b i)) (hE : ∀ er, rdT b n (n + 1) P00 = .inl er → ∀ I', (∀ a i, ¬ (a = 150 ∧ i ≤ 13) → a ≠ 152 → a ≠ 154 → a ≠ 156 → I' a i = I a i) → I' 150 0 = 0 → I' 150 2 = 0 → I' 150 9 = nI er.1 → I' 150 10 = nI er.2 → I' 150 11 = 4 → kr (some (.int (-1))) (mk w p r I' L)) (hO : ∀ P', rdT b n (n + 1) P00 = .inr P' → ∀ I', (∀ a i, ¬ (a = 150 ∧ (i ≤ 14 ∨ i = 22 ∨ i = 23)) → ¬ (152 ≤ a ∧ a ≤ 157) → I' a i = I a i) → I' 150 0 = 0 → I' 150 2 = 0 → I' 150 9 = 0 → I' 150 11 = 0 → I' 150 14 = 1 → I' 150 22 = 0 → I' 150 23 = 0 → SF b n P' I' → B3 P' → 0 < P'.1 4 → (∀ i, i < 202 → I' 153 i = I' 154 i) → (∀ i, i < 25 → I' 155 i = I' 156 i ∧ I' 157 i = I' 156 i) → kr (some (.int (nI (P'.1 4)))) (mk w p r I' L)) : Ev l X uX7_close (d + 11) true 0 0 [.ref 150, .int (nI n)] (mk w p r I L) kr := by
  refine Ev.of (by decide) (Nat.le_of_ble_eq_true rfl) ?_
  refine Wf.gc tkX7_close [39] ?_
  conv => whnf
  refine y_good ?_
  conv => whnf
  show Ev l X uX7_in (d + 10) true 0 0 [.int (nI n), .int (nI 0), .int (u2 (u2 I 150 0 0) 150 11 0 150 2)] (mk w p r (u2 (u2 I 150 0 0) 150 11 0) L) _
  rw [u2_o (by decide), u2_o (by decide), ht]
  refine y_in (fun _ _ => ?_) (fun z => absurd ⟨by rw [nI_leI (by decide) (by omega)]; omega, by rw [nI_leI (by omega) (by omega)]; exact hn⟩ z)
  conv => whnf
  refine b1 (by decide) ?_
  conv => whnf
  refine ⟨Or.inl rfl, ?_⟩
  conv => whnf
  show Wf l X uX7_close (d + 11) true (mC (mk w p r I L) + 0, mS (mk w p r I L) + 0) 39 [(0, .ref 150), (1, .int (nI n)), (2, .int (nI 0))] [] (mk w p r (u2 (u2 (u2 (u2 (u2 I 150 0 0) 150 11 0) 150 2 0) 150 9 0) 150 13 0) L) kr
  have jO : ∀ a i, ¬ (a = 150 ∧ (i = 0 ∨ i = 11 ∨ i = 2 ∨ i = 9 ∨ i = 13)) → (u2 (u2 (u2 (u2 (u2 I 150 0 0) 150 11 0) 150 2 0) 150 9 0) 150 13 0) a i = I a i := fun a i z => by rw [u2_o (by omega), u2_o (by omega), u2_o (by omega), u2_o (by omega), u2_o (by omega)]
  have j0 : (u2 (u2 (u2 (u2 (u2 I 150 0 0) 150 11 0) 150 2 0) 150 9 0) 150 13 0) 150 0 = 0 := by rw [u2_o (by decide), u2_o (by decide), u2_o (by decide), u2_o (by decide), u2_s]
  have j11 : (u2 (u2 (u2 (u2 (u2 I 150 0 0) 150 11 0) 150 2 0) 150 9 0) 150 13 0) 150 11 = 0 := by rw [u2_o (by decide), u2_o (by decide), u2_o (by decide), u2_s]
  have j2 : (u2 (u2 (u2 (u2 (u2 I 150 0 0) 150 11 0) 150 2 0) 150 9 0) 150 13 0) 150 2 = 0 := by rw [u2_o (by decide), u2_o (by decide), u2_s]
  have j9 : (u2 (u2 (u2 (u2 (u2 I 150 0 0) 150 11 0) 150 2 0) 150 9 0) 150 13 0) 150 9 = 0 := by rw [u2_o (by decide), u2_s]
  have j13 : (u2 (u2 (u2 (u2 (u2 I 150 0 0) 150 11 0) 150 2 0) 150 9 0) 150 13 0) 150 13 = 0 := u2_s
  generalize (u2 (u2 (u2 (u2 (u2 I 150 0 0) 150 11 0) 150 2 0) 150 9 0) 150 13 0) = J at jO j0 j11 j2 j9 j13 ⊢
  have l1 := down (fun j => ∀ K : Nat → Nat → Int32, (∀ x i, ¬ (x = 154 ∧ i < 202) → K x i = J x i) → (∀ i, i < j → K 154 i = 0) → Wf l X uX7_close (d + 11) true (mC (mk w p r I L) + 0, mS (mk w p r I L) + 0) 39 [(0, .ref 150), (1, .int (nI n)), (2, .int (nI j))] [] (mk w p r K L) kr) 202 ?_ ?_ 0 (Nat.zero_le _)
  · exact l1 J (fun _ _ _ => rfl) (fun i hi => absurd hi (Nat.not_lt_zero _))
  · intro K k1 k2
    refine Wf.gc tkX7_close [61] ?_
    conv => whnf
    refine b1' (by decide) ?_
    conv => whnf
    show Wf l X uX7_close (d + 11) true (mC (mk w p r I L) + 0, mS (mk w p r I L) + 0) 61 [(0, .ref 150), (1, .int (nI n)), (2, .int (nI 0))] [] (mk w p r K L) kr
    have l2 := down (fun j => ∀ M : Nat → Nat → Int32, (∀ x i, ¬ (x = 156 ∧ i < 25) → M x i = K x i) → (∀ i, i < j → M 156 i = 0) → Wf l X uX7_close (d + 11) true (mC (mk w p r I L) + 0, mS (mk w p r I L) + 0) 61 [(0, .ref 150), (1, .int (nI n)), (2, .int (nI j))] [] (mk w p r M L) kr) 25 ?_ ?_ 0 (Nat.zero_le _)
    · exact l2 K (fun _ _ _ => rfl) (fun i hi => absurd hi (Nat.not_lt_zero _))
    · intro M m1 m2
      refine Wf.gc tkX7_close [98] ?_
      conv => whnf
      refine b1' (by decide) ?_
      conv => whnf
      show Ev l X uX7_next (d + 10) true 0 0 [.ref 150] (mk w p r (u2 (u2 M 150 3 (nI n)) 150 5 0) L) _
      have mO : ∀ a i, ¬ (a = 150 ∧ (i = 3 ∨ i = 5)) → (u2 (u2 M 150 3 (nI n)) 150 5 0) a i = M a i := fun a i z => by rw [u2_o (by omega), u2_o (by omega)]
      have M3 : (u2 (u2 M 150 3 (nI n)) 150 5 0) 150 3 = nI n := by rw [u2_o (by decide), u2_s]
      have M5 : (u2 (u2 M 150 3 (nI n)) 150 5 0) 150 5 = nI 0 := u2_s
      generalize (u2 (u2 M 150 3 (nI n)) 150 5 0) = N at mO M3 M5 ⊢
      have nJ : ∀ a i, ¬ (a = 150 ∧ (i = 3 ∨ i = 5)) → ¬ (a = 154 ∧ i < 202) → ¬ (a = 156 ∧ i < 25) → N a i = J a i := fun a i z1 z2 z3 => ((mO a i z1).trans (m1 a i z3)).trans (k1 a i z2)
      have rx : RX b n N := ⟨by omega, M3, fun i hi => ⟨(hb i (by omega)).1, by rw [nJ 151 i (by omega) (by omega) (by omega), jO 151 i (by omega)]; exact (hb i (by omega)).2⟩⟩
      refine y_next (d := d + 8) (e := 0) rx (Nat.zero_le _) M5 (fun I1 hs1 hc1 => ?_)
      have z4 : ∀ i, i < 202 → I1 154 i = 0 := fun i hi => by rw [hs1 154 i (by omega) (by decide), mO 154 i (by omega), m1 154 i (by omega)]; exact k2 i hi
      have z6 : ∀ i, i < 25 → I1 156 i = 0 := fun i hi => by rw [hs1 156 i (by omega) (by decide), mO 156 i (by omega)]; exact m2 i hi
      have hS1 : SF b n (F00, 0, [], 0) I1 := ⟨RX_sN rx hs1, Nat.zero_le _, hc1, by rw [hs1 150 13 (by omega) (by decide), nJ 150 13 (by omega) (by omega) (by omega)]; exact j13, ⟨fun k q1 _ => z4 k (by omega), z4 10 (by decide), fun c hc => z6 _ (by omega), fun f hf => z6 f (by omega), fun i _ q2 _ => z6 i q2⟩, ⟨fun i hi => absurd hi (Nat.not_lt_zero _), fun m hm _ => z4 _ (by omega)⟩, fun i hi => absurd hi (Nat.not_lt_zero _), fun i _ hi => absurd hi (Nat.not_lt_zero _), fun i hi => absurd hi (Nat.not_lt_zero _), Iff.rfl⟩
      obtain ⟨R, hR⟩ : ∃ R, rdT b n (n + 1) P00 = R := ⟨_, rfl⟩
      rw [hR] at hE hO
      unfold rdT at hR
      have bE : ∀ er, R = .inl er → ∀ I', FE N er I' → kr (some (.int (-1))) (mk w p r (u2 I' 150 11 4) L) := fun er hr I' fe => hE er hr (u2 I' 150 11 4) (fun a i q1 q2 q3 q4 => by rw [u2_o (by omega), fe.1.1 a i (by omega) q2 q3 q4, nJ a i (by omega) (by omega) (by omega), jO a i (by omega)]) (by rw [u2_o (by decide), fe.1.1 150 0 (by omega) (by decide) (by decide) (by decide), nJ 150 0 (by omega) (by omega) (by omega)]; exact j0) (by rw [u2_o (by decide), fe.1.1 150 2 (by omega) (by decide) (by decide) (by decide), nJ 150 2 (by omega) (by omega) (by omega)]; exact j2) (by rw [u2_o (by decide)]; exact fe.2.2.1) (by rw [u2_o (by decide)]; exact fe.2.2.2) u2_s
      have bO : ∀ P', R = .inr P' → ∀ I', sQ N I' → SF b n P' I' → 0 < P'.1 4 → B3 P' → Wf l X uX7_close (d + 11) true (mC (mk w p r I L) + 0, mS (mk w p r I L) + 0) 197 [(0, .ref 150), (1, .int (nI n)), (2, .int (nI 25))] [] (mk w p r I' L) kr := by
        intro P' hP I' sq sf h4 hB
        refine Wf.gc tkX7_close [] ?_
        conv => whnf
        refine y_copy3 (fun K1 a1 a2 => ?_)
        conv => whnf
        refine y_copy5 (fun K2 b1 b2 => ?_)
        conv => whnf
        refine y_copy7 (fun K3 c1 c2 => ?_)
        conv => whnf
        refine ⟨Or.inr rfl, ?_⟩
        conv => whnf
        refine ⟨4, ⟨rfl, by decide, show 4 < 202 by decide⟩, ?_⟩
        conv => whnf
        have o1 : ∀ a i, ¬ (a = 150 ∧ (i = 14 ∨ i = 22 ∨ i = 23)) → a ≠ 153 → a ≠ 155 → a ≠ 157 → (u2 (u2 (u2 K3 150 14 1) 150 22 0) 150 23 0) a i = I' a i := fun a i q1 q2 q3 q4 => by rw [u2_o (by omega), u2_o (by omega), u2_o (by omega), c1 a i (by omega), b1 a i (by omega), a1 a i (by omega)]
        have o3 : ∀ i, i < 202 → (u2 (u2 (u2 K3 150 14 1) 150 22 0) 150 23 0) 153 i = (u2 (u2 (u2 K3 150 14 1) 150 22 0) 150 23 0) 154 i := fun i hi => by rw [o1 154 i (by omega) (by decide) (by decide) (by decide), u2_o (by omega), u2_o (by omega), u2_o (by omega), c1 153 i (by omega), b1 153 i (by omega)]; exact a2 i hi
        have o5 : ∀ i, i < 25 → (u2 (u2 (u2 K3 150 14 1) 150 22 0) 150 23 0) 155 i = (u2 (u2 (u2 K3 150 14 1) 150 22 0) 150 23 0) 156 i ∧ (u2 (u2 (u2 K3 150 14 1) 150 22 0) 150 23 0) 157 i = (u2 (u2 (u2 K3 150 14 1) 150 22 0) 150 23 0) 156 i := fun i hi => by
          rw [o1 156 i (by omega) (by decide) (by decide) (by decide), u2_o (by omega), u2_o (by omega), u2_o (by omega), u2_o (by omega), u2_o (by omega), u2_o (by omega), c1 155 i (by omega)]
          exact ⟨(b2 i hi).trans (a1 156 i (by omega)), (c2 i hi).trans ((b1 156 i (by omega)).trans (a1 156 i (by omega)))⟩
        have fin := hO P' hP (u2 (u2 (u2 K3 150 14 1) 150 22 0) 150 23 0) (fun a i q1 q2 => by rw [o1 a i (by omega) (by omega) (by omega) (by omega), sq.1 a i (by omega) (by omega) (by omega) (by omega), nJ a i (by omega) (by omega) (by omega), jO a i (by omega)]) (by rw [o1 150 0 (by omega) (by decide) (by decide) (by decide), sq.1 150 0 (by omega) (by decide) (by decide) (by decide), nJ 150 0 (by omega) (by omega) (by omega)]; exact j0) (by rw [o1 150 2 (by omega) (by decide) (by decide) (by decide), sq.1 150 2 (by omega) (by decide) (by decide) (by decide), nJ 150 2 (by omega) (by omega) (by omega)]; exact j2) (by rw [o1 150 9 (by omega) (by decide) (by decide) (by decide), (sq.2 sf.2.2.2.1).2, nJ 150 9 (by omega) (by omega) (by omega)]; exact j9) (by rw [o1 150 11 (by omega) (by decide) (by decide) (by decide), sq.1 150 11 (by omega) (by decide) (by decide) (by decide), nJ 150 11 (by omega) (by omega) (by omega)]; exact j11) (by rw [u2_o (by decide), u2_o (by decide), u2_s]) (by rw [u2_o (by decide), u2_s]) u2_s (SF_cg sf (fun a i q1 q2 q3 q4 => o1 a i (by omega) q1 q2 q3)) hB h4 o3 o5
        have ev : (u2 (u2 (u2 K3 150 14 1) 150 22 0) 150 23 0) 153 4 = nI (P'.1 4) := by rw [o3 4 (by decide), o1 154 4 (by omega) (by decide) (by decide) (by decide)]; exact sf.2.2.2.2.1.1 4 (by decide) (by decide)
        rw [← ev] at fin
        exact fin
      conv => whnf
      refine y_readLine (d := d) B3_00.1.1 (fun _ => ⟨rfl, rfl, rfl, rfl, rfl⟩) hS1 (fun er hl I2 fe => ?_) (fun P2 hl I2 sq sf => ?_)
      · have hl : ln b n P00.1 P00.2.1 P00.2.2.1 P00.2.2.2 = .inl er := hl
        rw [hl] at hR
        conv => whnf
        have fe2 := FE_tr hs1.sQ fe
        exact cz_98 (FE_0 fe2) (bE er hR.symm I2 fe2)
      · obtain ⟨hB2, he2, hg2⟩ := B3_ln B3_00 (Nat.zero_le n) hl
        have hp := ln_pos hl
        have hl : ln b n P00.1 P00.2.1 P00.2.2.1 P00.2.2.2 = .inr P2 := hl
        rw [hl] at hR
        conv => whnf
        exact y_cl98 bE bO n P2 I2 hR (by omega) hB2 hp sf (hs1.sQ.tr sq)
    · intro j hj ih M m1 m2
      have ih := ih (u2 M 156 j 0) (fun x i z => by rw [u2_o (by omega)]; exact m1 x i z) (fun i hi => by
        rcases Nat.lt_or_ge i j with z | z
        · rw [u2_o (by omega)]; exact m2 i z
        · rw [show i = j by omega, u2_s])
      rw [← nI_1] at ih
      refine Wf.gc tkX7_close [61] ?_
      conv => whnf
      refine b2' (by show ¬ (25 : Int32) ≤ nI j; rw [show (25 : Int32) = nI 25 from rfl]; exact nI_ge hj (by decide)) ?_
      conv => whnf
      refine ⟨j, ⟨rfl, by omega, show j < 25 by omega⟩, ?_⟩
      conv => whnf
      exact ih
  · intro j hj ih K k1 k2
    have ih := ih (u2 K 154 j 0) (fun x i z => by rw [u2_o (by omega)]; exact k1 x i z) (fun i hi => by
      rcases Nat.lt_or_ge i j with z | z
      · rw [u2_o (by omega)]; exact k2 i z
      · rw [show i = j by omega, u2_s])
    rw [← nI_1] at ih
    refine Wf.gc tkX7_close [39] ?_
    conv => whnf
    refine b2' (by show ¬ (202 : Int32) ≤ nI j; rw [show (202 : Int32) = nI 202 from rfl]; exact nI_ge hj (by decide)) ?_
    conv => whnf
    refine ⟨j, ⟨rfl, by omega, show j < 202 by omega⟩, ?_⟩
    conv => whnf
    exact ih
end RL9
