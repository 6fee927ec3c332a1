/-! the reference's labels and wholes -/
section RNM
variable {l : Launch} {X : Nat × (Nat → Int32)} {d : Nat} {w : Nat × Nat} {p r : Nat} {I : Nat → Nat → Int32} {L : Nat → Nat → Int64} {kr : KR} {b : Nat → Nat} {n e : Nat}
theorem RX_sN {I' : Nat → Nat → Int32} (hr : RX b n I) (hs : sN I I') : RX b n I' := ⟨hr.1, by rw [hs 150 3 (by omega) (by decide)]; exact hr.2.1, fun i hi => ⟨(hr.2.2 i hi).1, by rw [hs 151 i (by omega) (by decide)]; exact (hr.2.2 i hi).2⟩⟩
theorem sN13 {I' : Nat → Nat → Int32} (hs : sN I I') : I' 150 13 = I 150 13 := hs 150 13 (by omega) (by decide)
theorem sN.rf : sN I I := fun _ _ _ _ => rfl
theorem sN.tr {I' I'' : Nat → Nat → Int32} (h : sN I I') (h2 : sN I' I'') : sN I I'' := fun a i z1 z2 => (h2 a i z1 z2).trans (h a i z1 z2)
theorem flR_13 {k s : Nat} : flR I k s 150 13 = 1 := by unfold flR; rw [u2_o (by decide), u2_o (by decide), u2_s]
theorem flR_n {k s : Nat} : ¬ flR I k s 150 13 = 0 := by rw [flR_13]; decide
theorem wd21 {wd i : Nat} (h : wd - 5000 = 21 + i) : isW b n (wd - 5000) e = isW b n i e := by rw [h]; exact isW_21
theorem y_takesWord {wd i : Nat} (hi : wd - 5000 = 21 + i) (hr : RX b n I) (he : e ≤ n) (hc : TR b n e I) (h0 : I 150 13 = 0) (hw : 5000 ≤ wd ∧ wd < 5042) (h1 : isW b n i e = true → ∀ I', sN I I' → TR b n (tsp b n e) I' → kr (some (.int 1)) (mk w p r I' L)) (h2 : isW b n i e = false → kr (some (.int 0)) (mk w p r I L)) : Ev l X uX7_takesWord (d + 6) true 0 0 [.ref 150, .ref wd] (mk w p r I L) kr := by
  have p0 : Nat.blt 0 wd = true := Nat.ble_eq_true_of_le (by omega)
  refine Ev.of (by decide) (Nat.le_of_ble_eq_true rfl) ?_
  refine Wf.sAl tkX7_takesWord rfl rfl rfl ?_
  refine Wf.sAl tkX7_takesWord rfl rfl p0 ?_
  refine Wf.sCv (as := [.ref wd]) (rest := []) tkX7_takesWord rfl rfl rfl rfl ?_
  refine y_isWord (d := d) hr he hc h0 hw ?_
  rw [wd21 hi]
  refine Wf.sIf (x := bI (isW b n i e)) tkX7_takesWord rfl (fun z => ?_) (fun z => ?_)
  · refine Wf.gc tkX7_takesWord [] ?_
    conv => whnf
    refine y_next (d := d + 3) hr (tsp_b (b := b) he).2 hc.2.2.1 (fun I' hs hc' => ?_)
    conv => whnf
    exact ⟨Or.inr rfl, h1 (bI_t z) I' hs hc'⟩
  · refine Wf.gc tkX7_takesWord [] ?_
    conv => whnf
    exact ⟨Or.inl rfl, h2 (bI_f z)⟩
theorem y_must_f {wd : Nat} (hf : ¬ I 150 13 = 0) (h : kr none (mk w p r I L)) : Ev l X uX7_must (d + 7) true 0 0 [.ref 150, .ref wd] (mk w p r I L) kr := by
  refine Ev.of (by decide) (Nat.le_of_ble_eq_true rfl) ?_
  refine Wf.gc tkX7_must [] ?_
  conv => whnf
  refine b1 hf ?_
  conv => whnf
  exact h
theorem y_must {wd i : Nat} (hi : wd - 5000 = 21 + i) (hr : RX b n I) (he : e ≤ n) (hc : TR b n e I) (h0 : I 150 13 = 0) (hw : 5000 ≤ wd ∧ wd < 5042) (h1 : isW b n i e = true → ∀ I', sN I I' → TR b n (tsp b n e) I' → kr none (mk w p r I' L)) (h2 : isW b n i e = false → kr none (mk w p r (flR I 1 (tst b n e)) L)) : Ev l X uX7_must (d + 7) true 0 0 [.ref 150, .ref wd] (mk w p r I L) kr := by
  have p0 : Nat.blt 0 wd = true := Nat.ble_eq_true_of_le (by omega)
  refine Ev.of (by decide) (Nat.le_of_ble_eq_true rfl) ?_
  refine Wf.sAl tkX7_must rfl rfl rfl ?_
  refine Wf.sG tkX7_must rfl rfl ?_
  refine Wf.sIf (x := I 150 13) tkX7_must rfl (fun z => absurd h0 z) (fun _ => ?_)
  refine Wf.sAl tkX7_must rfl rfl rfl ?_
  refine Wf.sAl tkX7_must rfl rfl p0 ?_
  refine Wf.sCv (as := [.ref wd]) (rest := []) tkX7_must rfl rfl rfl rfl ?_
  refine y_takesWord (d := d) hi hr he hc h0 hw (fun q I' hs hc' => ?_) (fun q => ?_)
  · refine Wf.sIf (x := 1) tkX7_must rfl (fun _ => ?_) (fun z => absurd z (by decide))
    exact Wf.sVr tkX7_must rfl (h1 q I' hs hc')
  · refine Wf.sIf (x := 0) tkX7_must rfl (fun z => absurd rfl z) (fun _ => ?_)
    refine Wf.gc tkX7_must [] ?_
    conv => whnf
    refine y_wrong0 h0 ?_
    conv => whnf
    have q := h2 q
    unfold flR at q
    rw [← hc.2.1] at q
    exact q
theorem y_pass_f (hf : ¬ I 150 13 = 0) (h : kr none (mk w p r I L)) : Ev l X uX7_pass (d + 3) true 0 0 [.ref 150] (mk w p r I L) kr := by
  refine Ev.of (by decide) (Nat.le_of_ble_eq_true rfl) ?_
  refine Wf.gc tkX7_pass [] ?_
  conv => whnf
  refine b1 hf ?_
  conv => whnf
  exact h
theorem y_pass (hr : RX b n I) (he : e ≤ n) (hc : TR b n e I) (h0 : I 150 13 = 0) (h : ∀ I', sN I I' → TR b n (tsp b n e) I' → kr none (mk w p r I' L)) : Ev l X uX7_pass (d + 3) true 0 0 [.ref 150] (mk w p r I L) kr := by
  refine Ev.of (by decide) (Nat.le_of_ble_eq_true rfl) ?_
  refine Wf.gc tkX7_pass [] ?_
  conv => whnf
  refine b2 (fun q => q h0) ?_
  conv => whnf
  refine y_next (d := d) hr (tsp_b (b := b) he).2 hc.2.2.1 (fun I' hs hc' => ?_)
  conv => whnf
  exact h I' hs hc'
theorem y_in {x lo hi : Int32} {M : Mm} (h1 : lo ≤ x → x ≤ hi → kr (some (.int 1)) M) (h0 : ¬ (lo ≤ x ∧ x ≤ hi) → kr (some (.int 0)) M) : Ev l X uX7_in d true 0 0 [.int x, .int lo, .int hi] M kr := by
  refine Ev.of (by decide) (Nat.le_of_ble_eq_true rfl) ?_
  refine Wf.gc tkX7_in [] ?_
  conv => whnf
  refine ⟨fun c1 => ?_, fun c1 => ?_⟩
  · have c1 : x < lo := c1
    conv => whnf
    exact ⟨Or.inl rfl, h0 (fun z => absurd z.1 (Int32.not_le.mpr c1))⟩
  · have c1 : ¬ x < lo := c1
    conv => whnf
    refine ⟨fun c2 => ?_, fun c2 => ?_⟩
    · have c2 : hi < x := c2
      conv => whnf
      exact ⟨Or.inl rfl, h0 (fun z => absurd z.2 (Int32.not_le.mpr c2))⟩
    · have c2 : ¬ hi < x := c2
      conv => whnf
      exact ⟨Or.inr rfl, h1 (Int32.not_lt.mp c1) (Int32.not_lt.mp c2)⟩
theorem y_numberHere_f {lo hi : Int32} (hf : ¬ I 150 13 = 0) (h : kr (some (.int lo)) (mk w p r I L)) : Ev l X uX7_numberHere (d + 1) true 0 0 [.ref 150, .int lo, .int hi] (mk w p r I L) kr := by
  refine Ev.of (by decide) (Nat.le_of_ble_eq_true rfl) ?_
  refine Wf.gc tkX7_numberHere [] ?_
  conv => whnf
  refine b2' hf ?_
  conv => whnf
  exact h
set_option maxRecDepth 20000 in
theorem y_numberHere {lo hi : Nat} (hlo : lo < 1000) (hhi : hi < 1000) (he : e ≤ n) (hc : TR b n e I) (h0 : I 150 13 = 0) (h1 : bnd b n lo hi e = 0 → kr (some (.int (nI (tvl b n e)))) (mk w p r I L)) (h2 : bnd b n lo hi e ≠ 0 → kr (some (.int (nI lo))) (mk w p r (flR I (bnd b n lo hi e) (tst b n e)) L)) : Ev l X uX7_numberHere (d + 1) true 0 0 [.ref 150, .int (nI lo), .int (nI hi)] (mk w p r I L) kr := by
  have s4 := tso_5 (b := b) (n := n) (e := e)
  refine Ev.of (by decide) (Nat.le_of_ble_eq_true rfl) ?_
  unfold bnd at h1 h2
  have bad : ∀ (k : Nat) (J : Nat → Nat → Int32), J = flR I k (tst b n e) → kr (some (.int (nI lo))) (mk w p r (flR I k (tst b n e)) L) → Wf l X uX7_numberHere (d + 1) true (mC (mk w p r I L) + 0, mS (mk w p r I L) + 0) 50 [(0, .ref 150), (1, .int (nI lo)), (2, .int (nI hi))] [] (mk w p r J L) kr := by
    intro k J hJ q
    subst hJ
    refine Wf.gc tkX7_numberHere [] ?_
    conv => whnf
    refine b2' (flR_n (I := I) (k := k) (s := tst b n e)) ?_
    conv => whnf
    exact q
  refine Wf.gc tkX7_numberHere [50] ?_
  conv => whnf
  refine b1' h0 ?_
  conv => whnf
  refine ⟨fun z => ?_, fun z => ?_⟩
  · have z : I 150 6 = 3 := z
    have t2 : tso b n e = 2 := by
      rw [hc.1] at z
      rcases (show tso b n e = 0 ∨ tso b n e = 1 ∨ tso b n e = 2 ∨ tso b n e = 3 ∨ tso b n e = 4 by omega) with q | q | q | q | q
      · rw [q] at z; exact absurd z (by decide)
      · rw [q] at z; exact absurd z (by decide)
      · exact q
      · rw [q] at z; exact absurd z (by decide)
      · rw [q] at z; exact absurd z (by decide)
    rw [if_pos t2] at h1 h2
    have hv := (tvl_b he t2).1
    have h7 := hc.2.2.2.1 t2
    conv => whnf
    refine y_in ?_ ?_
    · intro z1 z2
      have z1 : nI lo ≤ I 150 7 := z1
      have z2 : I 150 7 ≤ nI hi := z2
      rw [h7, nI_leI (by omega) (by omega)] at z1 z2
      rw [if_pos ⟨z1, z2⟩] at h1
      conv => whnf
      refine b1 (by decide) ?_
      conv => whnf
      show Wf l X uX7_numberHere (d + 1) true (mC (mk w p r I L) + 0, mS (mk w p r I L) + 0) 50 [(0, .ref 150), (1, .int (nI lo)), (2, .int (nI hi))] [] (mk w p r I L) kr
      refine Wf.gc tkX7_numberHere [] ?_
      conv => whnf
      refine b1' h0 ?_
      conv => whnf
      have q := h1 rfl
      rw [← h7] at q
      exact q
    · intro z1
      have z1 : ¬ (nI lo ≤ I 150 7 ∧ I 150 7 ≤ nI hi) := z1
      rw [h7, nI_leI (by omega) (by omega), nI_leI (by omega) (by omega)] at z1
      rw [if_neg z1] at h2
      conv => whnf
      refine b2 (by decide) ?_
      conv => whnf
      refine y_wrong0 h0 ?_
      conv => whnf
      exact bad 4 _ (by unfold flR; rw [← hc.2.1]; rfl) (h2 (by decide))
  · have z : ¬ I 150 6 = 3 := z
    have t2 : ¬ tso b n e = 2 := fun q => by rw [hc.1, q] at z; exact absurd rfl z
    rw [if_neg t2] at h2
    conv => whnf
    refine y_wrong0 h0 ?_
    conv => whnf
    exact bad 1 _ (by unfold flR; rw [← hc.2.1]; rfl) (h2 (by decide))
theorem y_number_f {lo hi : Int32} (hf : ¬ I 150 13 = 0) (h : kr (some (.int lo)) (mk w p r I L)) : Ev l X uX7_number (d + 4) true 0 0 [.ref 150, .int lo, .int hi] (mk w p r I L) kr := by
  refine Ev.of (by decide) (Nat.le_of_ble_eq_true rfl) ?_
  refine Wf.gc tkX7_number [] ?_
  conv => whnf
  refine y_numberHere_f (d := d + 2) hf ?_
  conv => whnf
  refine y_pass_f (d := d) hf ?_
  conv => whnf
  exact h
theorem y_number {lo hi : Nat} (hlo : lo < 1000) (hhi : hi < 1000) (hr : RX b n I) (he : e ≤ n) (hc : TR b n e I) (h0 : I 150 13 = 0) (h1 : bnd b n lo hi e = 0 → ∀ I', sN I I' → TR b n (tsp b n e) I' → kr (some (.int (nI (tvl b n e)))) (mk w p r I' L)) (h2 : bnd b n lo hi e ≠ 0 → kr (some (.int (nI lo))) (mk w p r (flR I (bnd b n lo hi e) (tst b n e)) L)) : Ev l X uX7_number (d + 4) true 0 0 [.ref 150, .int (nI lo), .int (nI hi)] (mk w p r I L) kr := by
  refine Ev.of (by decide) (Nat.le_of_ble_eq_true rfl) ?_
  refine Wf.gc tkX7_number [] ?_
  conv => whnf
  refine y_numberHere (d := d + 2) hlo hhi he hc h0 (fun q => ?_) (fun q => ?_)
  · conv => whnf
    refine y_pass (d := d) hr he hc h0 (fun I' hs hc' => ?_)
    conv => whnf
    exact h1 q I' hs hc'
  · conv => whnf
    refine y_pass_f (d := d) flR_n ?_
    conv => whnf
    exact h2 q
theorem y_after_f {wd : Nat} {lo hi : Int32} (hw : 5000 ≤ wd ∧ wd < 5042) (hf : ¬ I 150 13 = 0) (h : kr (some (.int lo)) (mk w p r I L)) : Ev l X uX7_after (d + 8) true 0 0 [.ref 150, .ref wd, .int lo, .int hi] (mk w p r I L) kr := by
  have p0 : Nat.blt 0 wd = true := Nat.ble_eq_true_of_le (by omega)
  refine Ev.of (by decide) (Nat.le_of_ble_eq_true rfl) ?_
  refine Wf.sAl tkX7_after rfl rfl rfl ?_
  refine Wf.sAl tkX7_after rfl rfl p0 ?_
  refine Wf.sCv (as := [.ref wd]) (rest := []) tkX7_after rfl rfl rfl rfl ?_
  refine y_must_f (d := d) hf ?_
  refine Wf.gc tkX7_after [] ?_
  conv => whnf
  refine y_number_f (d := d + 3) hf ?_
  conv => whnf
  exact h
theorem y_after {wd i lo hi : Nat} (hi' : wd - 5000 = 21 + i) (hlo : lo < 1000) (hhi : hi < 1000) (hr : RX b n I) (he : e ≤ n) (hc : TR b n e I) (h0 : I 150 13 = 0) (hw : 5000 ≤ wd ∧ wd < 5042) (h1 : (lab b n i lo hi e).1 = 0 → ∀ I', sN I I' → TR b n (tsp b n (tsp b n e)) I' → lo ≤ tvl b n (tsp b n e) → tvl b n (tsp b n e) ≤ hi → kr (some (.int (nI (tvl b n (tsp b n e))))) (mk w p r I' L)) (h2 : (lab b n i lo hi e).1 ≠ 0 → ∀ I', sN I I' → kr (some (.int (nI lo))) (mk w p r (flR I' (lab b n i lo hi e).1 (lab b n i lo hi e).2) L)) : Ev l X uX7_after (d + 8) true 0 0 [.ref 150, .ref wd, .int (nI lo), .int (nI hi)] (mk w p r I L) kr := by
  have p0 : Nat.blt 0 wd = true := Nat.ble_eq_true_of_le (by omega)
  refine Ev.of (by decide) (Nat.le_of_ble_eq_true rfl) ?_
  refine Wf.sAl tkX7_after rfl rfl rfl ?_
  refine Wf.sAl tkX7_after rfl rfl p0 ?_
  refine Wf.sCv (as := [.ref wd]) (rest := []) tkX7_after rfl rfl rfl rfl ?_
  unfold lab at h1 h2
  refine y_must (d := d) hi' hr he hc h0 hw (fun q I' hs hc' => ?_) (fun q => ?_)
  · rw [if_pos q] at h1 h2
    refine Wf.gc tkX7_after [] ?_
    conv => whnf
    refine y_number (d := d + 3) hlo hhi (RX_sN hr hs) (tsp_b (b := b) he).2 hc' ((sN13 hs).trans h0) (fun q2 I2 hs2 hc2 => ?_) (fun q2 => ?_)
    · conv => whnf
      exact h1 q2 I2 (hs.tr hs2) hc2 (bnd_v q2).1 (bnd_v q2).2
    · conv => whnf
      exact h2 q2 I' hs
  · rw [if_neg (by rw [q]; decide)] at h2
    refine Wf.gc tkX7_after [] ?_
    conv => whnf
    refine y_number_f (d := d + 3) flR_n ?_
    conv => whnf
    exact h2 (show (1 : Nat) ≠ 0 by decide) I sN.rf
end RNM
