/-! close once more: with the moment that begins, and what the text read says -/
section CLZ
variable {l : Launch} {X : Nat × (Nat → Int32)} {d : Nat} {w : Nat × Nat} {p r : Nat} {I : Nat → Nat → Int32} {L : Nat → Nat → Int64} {kr : KR} {b : Nat → Nat} {n t : Nat}
/-- the moment that begins -/
def nB (q : Nat) (I : Nat → Nat → Int32) : Prop := (∀ f, f < 6 → I 34 f = I (q + 2) f ∧ I 35 f = 0 ∧ I 36 f = 0) ∧ (∀ c, c < 5 → I 37 c = I (q + 6) c) ∧ I 33 4 = 0 ∧ I 33 5 = 0
theorem nB_of {q : Nat} {J I : Nat → Nat → Int32} (hq : q = 7 ∨ q = 20) (j1 : ∀ a i, (a < 33 ∨ 37 < a) → J a i = I a i) (j2 : ∀ f, f < 6 → J 34 f = I (q + 2) f ∧ J 35 f = 0 ∧ J 36 f = 0) (j3 : ∀ c, c < 5 → J 37 c = I (q + 6) c) (j4 : J 33 4 = 0) (j5 : J 33 5 = 0) : nB q (u2 (u2 (u2 J 1 6 0) 1 8 0) 1 13 0) := by
  have e : ∀ a i, a ≠ 1 → u2 (u2 (u2 J 1 6 0) 1 8 0) 1 13 0 a i = J a i := fun a i h => by rw [u2_o (by omega), u2_o (by omega), u2_o (by omega)]
  refine ⟨fun f hf => ?_, fun c hc => ?_, ?_, ?_⟩
  · rw [e 34 f (by decide), e (q + 2) f (by omega), e 35 f (by decide), e 36 f (by decide), j1 (q + 2) f (by omega)]
    exact j2 f hf
  · rw [e 37 c (by decide), e (q + 6) c (by omega), j1 (q + 6) c (by omega)]
    exact j3 c hc
  · rw [e 33 4 (by decide)]; exact j4
  · rw [e 33 5 (by decide)]; exact j5
set_option maxRecDepth 20000 in
theorem x_closeB (hp : p = 7 ∨ p = 20) (ht : I 2 1 = nI t) (ht9 : t ≤ 900) (hn : n ≤ t) (hb : ∀ i, i < t → b i < 256 ∧ I 3 i = sb (b i)) (hE : ∀ er, rdT b n (n + 1) P00 = .inl er → ∀ I' L', (∀ a i, ¬ (a = 1 ∧ i = 13) → ¬ (a = 2 ∧ 1 ≤ i) → a ≠ 5 → a ≠ 6 → ¬ (27 - p ≤ a ∧ a ≤ 27 - p + 12) → I' a i = I a i) → (∀ a i, a ≠ 2 → a ≠ 4 → L' a i = L a i) → I' 2 13 = nI er.1 → I' 2 14 = nI er.2 → I' 2 1 = 0 → I' 1 13 = 4 → kr (some (.int (-1))) (mk w p (27 - p) I' L')) (hO : ∀ P', rdT b n (n + 1) P00 = .inr P' → ∀ I' L', (∀ a i, ¬ (a = 1 ∧ (i = 6 ∨ i = 8 ∨ i = 13)) → ¬ (a = 2 ∧ 1 ≤ i) → a ≠ 5 → a ≠ 6 → ¬ (27 - p ≤ a ∧ a ≤ 27 - p + 12 ∨ 33 ≤ a ∧ a ≤ 37) → I' a i = I a i) → (∀ a i, a ≠ 2 → a ≠ 4 → L' a i = L a i) → I' 2 13 = 0 → I' 2 1 = 0 → PC (27 - p) P'.1 P'.2.1 I' → I' 1 13 = 0 → I' 1 6 = 0 → I' 1 8 = 0 → nB (27 - p) I' → kr (some (.int (nI (P'.1 4)))) (mk w (27 - p) (27 - p) I' L')) : Ev l X uX6_close (d + 12) true 0 0 [.ref 1, .int (nI n)] (mk w p r I L) kr := by
  refine Ev.of (by decide) (Nat.le_of_ble_eq_true rfl) ?_
  rcases hp with rfl | rfl
  · have ok : ∀ P', rdT b n (n + 1) P00 = .inr P' → ∀ I' L', sR 20 (u2 I 2 1 0) I' L L' → SC b n 20 P' I' L' → Wf l X uX6_close (d + 12) true (mC (mk w 7 r I L) + 0, mS (mk w 7 r I L) + 0) 50 [(0, .ref 1), (1, .int (nI n))] [] (mk w 7 20 I' L') kr := by
      intro P' hP I' L' hs hS
      obtain ⟨tx, he, hc, nc, pc⟩ := id hS
      refine Wf.gc tkX6_close [68] ?_
      conv => whnf
      have rest : Wf l X uX6_close (d + 12) true (mC (mk w 7 r I L) + 0, mS (mk w 7 r I L) + 0) 68 [(0, .ref 1), (1, .int (nI n)), (2, .ref 7)] [] (mk w 20 20 I' L') kr := by
        refine Wf.gc tkX6_close [] ?_
        conv => whnf
        refine x_begin (q := 20) (d := d + 10) (Or.inr rfl) (fun J j1 j2 j3 j4 j5 => ?_)
        conv => whnf
        refine sX6_answer ?_
        conv => whnf
        show kr (some (.int (J 20 4))) (mk w 20 20 (u2 (u2 (u2 J 1 6 0) 1 8 0) 1 13 0) L')
        rw [j1 20 4 (by decide), show I' 20 4 = nI (P'.1 4) from pc.1.2.2.2.2.1]
        refine hO P' hP _ L' (fun a i z1 z2 z3 z4 z5 => ?_) (fun a i z1 z2 => hs.2 a i z1 z2) ?_ ?_ ?_ rfl rfl rfl (nB_of (by decide) j1 j2 j3 j4 j5)
        · rw [u2_o (by omega), u2_o (by omega), u2_o (by omega), j1 a i (by omega), hs.1 a i (by omega) z3 z4 (by omega), u2_o (by omega)]
        · rw [u2_o (by decide), u2_o (by decide), u2_o (by decide), j1 2 13 (by decide)]; exact nc.1.2
        · rw [u2_o (by decide), u2_o (by decide), u2_o (by decide), j1 2 1 (by decide), hs.1 2 1 (by omega) (by decide) (by decide) (by omega)]; rfl
        · have pcJ : PC 20 P'.1 P'.2.1 (u2 (u2 (u2 J 1 6 0) 1 8 0) 1 13 0) := PC_eq pc (fun a i z1 z2 => by rw [u2_o (by omega), u2_o (by omega), u2_o (by omega)]; exact j1 a i (by omega))
          exact pcJ
      rw [← wR_sw (p := 7) (q := 20) rfl] at rest
      exact rest
    refine Wf.gc tkX6_close [50] ?_
    conv => whnf
    refine ⟨fun z => ?_, fun z => ?_⟩
    · have z : nI n < 0 := z
      exact absurd z (nI_pos (by omega))
    conv => whnf
    refine b1' (by show nI n ≤ I 2 1; rw [ht]; exact nI_le hn (by omega)) ?_
    conv => whnf
    show Ev l X uX4_reads (d + 11) true 0 0 [.ref 2, .int (nI n), .ref 20] (mk w 7 r (u2 I 2 1 0) L) _
    refine x_reads (d := d) (b := b) (Or.inr rfl) (by omega) (fun i hi => by rw [u2_o (by omega)]; exact hb i (by omega)) (fun er hr I' L' hs h1 h2 => ?_) (fun P' hr I' L' hs hS => ?_)
    · conv => whnf
      refine b2 (by decide) ?_
      conv => whnf
      refine sX6_refuse ?_
      conv => whnf
      refine hE er hr (u2 I' 1 13 4) L' (fun a i z1 z2 z3 z4 z5 => ?_) hs.2 ?_ ?_ ?_ rfl
      · rw [u2_o (by omega), hs.1 a i (by omega) z3 z4 (by omega), u2_o (by omega)]
      · rw [u2_o (by decide)]; exact h1
      · rw [u2_o (by decide)]; exact h2
      · rw [u2_o (by decide), hs.1 2 1 (by omega) (by decide) (by decide) (by omega)]; rfl
    · conv => whnf
      refine b1 (by decide) ?_
      conv => whnf
      exact ok P' hr I' L' hs hS
  · have ok : ∀ P', rdT b n (n + 1) P00 = .inr P' → ∀ I' L', sR 7 (u2 I 2 1 0) I' L L' → SC b n 7 P' I' L' → Wf l X uX6_close (d + 12) true (mC (mk w 20 r I L) + 0, mS (mk w 20 r I L) + 0) 50 [(0, .ref 1), (1, .int (nI n))] [] (mk w 20 7 I' L') kr := by
      intro P' hP I' L' hs hS
      obtain ⟨tx, he, hc, nc, pc⟩ := id hS
      refine Wf.gc tkX6_close [68] ?_
      conv => whnf
      have rest : Wf l X uX6_close (d + 12) true (mC (mk w 20 r I L) + 0, mS (mk w 20 r I L) + 0) 68 [(0, .ref 1), (1, .int (nI n)), (2, .ref 20)] [] (mk w 7 7 I' L') kr := by
        refine Wf.gc tkX6_close [] ?_
        conv => whnf
        refine x_begin (q := 7) (d := d + 10) (Or.inl rfl) (fun J j1 j2 j3 j4 j5 => ?_)
        conv => whnf
        refine sX6_answer ?_
        conv => whnf
        show kr (some (.int (J 7 4))) (mk w 7 7 (u2 (u2 (u2 J 1 6 0) 1 8 0) 1 13 0) L')
        rw [j1 7 4 (by decide), show I' 7 4 = nI (P'.1 4) from pc.1.2.2.2.2.1]
        refine hO P' hP _ L' (fun a i z1 z2 z3 z4 z5 => ?_) (fun a i z1 z2 => hs.2 a i z1 z2) ?_ ?_ ?_ rfl rfl rfl (nB_of (by decide) j1 j2 j3 j4 j5)
        · rw [u2_o (by omega), u2_o (by omega), u2_o (by omega), j1 a i (by omega), hs.1 a i (by omega) z3 z4 (by omega), u2_o (by omega)]
        · rw [u2_o (by decide), u2_o (by decide), u2_o (by decide), j1 2 13 (by decide)]; exact nc.1.2
        · rw [u2_o (by decide), u2_o (by decide), u2_o (by decide), j1 2 1 (by decide), hs.1 2 1 (by omega) (by decide) (by decide) (by omega)]; rfl
        · have pcJ : PC 7 P'.1 P'.2.1 (u2 (u2 (u2 J 1 6 0) 1 8 0) 1 13 0) := PC_eq pc (fun a i z1 z2 => by rw [u2_o (by omega), u2_o (by omega), u2_o (by omega)]; exact j1 a i (by omega))
          exact pcJ
      rw [← wR_sw (p := 20) (q := 7) rfl] at rest
      exact rest
    refine Wf.gc tkX6_close [50] ?_
    conv => whnf
    refine ⟨fun z => ?_, fun z => ?_⟩
    · have z : nI n < 0 := z
      exact absurd z (nI_pos (by omega))
    conv => whnf
    refine b1' (by show nI n ≤ I 2 1; rw [ht]; exact nI_le hn (by omega)) ?_
    conv => whnf
    show Ev l X uX4_reads (d + 11) true 0 0 [.ref 2, .int (nI n), .ref 7] (mk w 20 r (u2 I 2 1 0) L) _
    refine x_reads (d := d) (b := b) (Or.inl rfl) (by omega) (fun i hi => by rw [u2_o (by omega)]; exact hb i (by omega)) (fun er hr I' L' hs h1 h2 => ?_) (fun P' hr I' L' hs hS => ?_)
    · conv => whnf
      refine b2 (by decide) ?_
      conv => whnf
      refine sX6_refuse ?_
      conv => whnf
      refine hE er hr (u2 I' 1 13 4) L' (fun a i z1 z2 z3 z4 z5 => ?_) hs.2 ?_ ?_ ?_ rfl
      · rw [u2_o (by omega), hs.1 a i (by omega) z3 z4 (by omega), u2_o (by omega)]
      · rw [u2_o (by decide)]; exact h1
      · rw [u2_o (by decide)]; exact h2
      · rw [u2_o (by decide), hs.1 2 1 (by omega) (by decide) (by decide) (by omega)]; rfl
    · conv => whnf
      refine b1 (by decide) ?_
      conv => whnf
      exact ok P' hr I' L' hs hS
end CLZ
section JCM
variable {M M' M'' : Mm}
def eY6 (o : Option ((Nat × Nat) ⊕ Ps)) (M M'' : Mm) : Prop := match o with
  | none => mR M'' 1 1 = mR M 1 1 ∧ ∀ a i, ¬ (a = 1 ∧ i = 13) → mI M'' a i = mI M a i
  | some (.inl er) => mR M'' 1 1 = mR M 1 1 ∧ (∀ a i, ¬ (a = 1 ∧ i = 13) → ¬ (a = 2 ∧ 1 ≤ i) → a ≠ 5 → a ≠ 6 → ¬ (27 - mR M 1 1 ≤ a ∧ a ≤ 27 - mR M 1 1 + 12) → mI M'' a i = mI M a i) ∧ mI M'' 2 14 = nI er.2
  | some (.inr P) => mR M'' 1 1 = 27 - mR M 1 1 ∧ (∀ a i, ¬ (a = 1 ∧ (i = 6 ∨ i = 8 ∨ i = 13)) → ¬ (a = 2 ∧ 1 ≤ i) → a ≠ 5 → a ≠ 6 → ¬ (27 - mR M 1 1 ≤ a ∧ a ≤ 27 - mR M 1 1 + 12 ∨ 33 ≤ a ∧ a ≤ 37) → mI M'' a i = mI M a i) ∧ PC (27 - mR M 1 1) P.1 P.2.1 (mI M'') ∧ mI M'' 1 6 = 0 ∧ mI M'' 1 8 = 0 ∧ nB (27 - mR M 1 1) (mI M'')
variable {l : Launch} {X : Nat × (Nat → Int32)} {kr : KR} {t : Nat} {b : Nat → Nat}
theorem k6_close (d : Nat) {n : Int32} (hL : LPm M) (h6 : T6 t b M) (ht : t ≤ 900) (h : ∀ M', LPm M' → M'.1 = M.1 → kp msZ8 M M' → T6 (clA n t) b M' → mI M' 2 13 = cF (cO b n t) (mI M 2 13) → mI M' 1 13 = clT (cO b n t) → (∃ M'', eY6 (cO b n t) M M'' ∧ M''.1 = M.1 ∧ agr M' M'') → kr (some (.int (cA (cO b n t)))) M') : Ev l X uX6_close (d + 12) true 0 0 [.ref 1, .int n] M kr := by
  have A : Ev l X uX6_close (d + 12) true 0 0 [.ref 1, .int n] M (fun r M' => ∃ x : Int32, r = some (.int x) ∧ (Iv Pt8 M' ∧ RefI M' ∧ M'.1 = M.1 ∧ kp msZ8 M M' ∧ mI M' 2 1 = nI (clA n t))) := by
    refine cl6_ev (d := d + 1) (e := 1) hL.1 (LPm_e hL) (fun r M' hJ ht => ?_)
    exact ⟨_, rfl, hJ.2.1, RefI_keep hL.2.1 hJ.2.1 hJ.2.2.1 (by decide +kernel), hJ.1, hJ.2.2.1, by rw [ht]; exact clA_i h6.1⟩
  have B : Ev l X uX6_close (d + 12) true 0 0 [.ref 1, .int n] M (fun r M'' => ∃ x : Int32, r = some (.int x) ∧ (x = cA (cO b n t) ∧ mR M'' 1 2 = 27 - mR M'' 1 1 ∧ mI M'' 2 13 = cF (cO b n t) (mI M 2 13) ∧ mI M'' 1 13 = clT (cO b n t) ∧ eY6 (cO b n t) M M'')) := by
    refine Ev.ofm hL.1 hL.2.2 ?_
    show Ev l X uX6_close (d + 12) true 0 0 [.ref 1, .int n] (mk (mC M, mS M) (mR M 1 1) (mR M 2 3) (mI M) (mL M)) _
    have hp := Iv_p hL.1
    rcases cO_cases (b := b) (n := n) ht with ⟨e, hn⟩ | ⟨k, hk, rfl, e⟩
    · rw [e]
      refine x_close2 (d := d + 11) hp h6.1 ht hn ⟨_, rfl, rfl, rfl, ?_, ?_, rfl, fun a i z => ?_⟩
      · show u2 (mI M) 1 13 2 2 13 = mI M 2 13
        exact u2_o (by decide)
      · show u2 (mI M) 1 13 2 1 13 = 2
        exact u2_s
      · show u2 (mI M) 1 13 2 a i = mI M a i
        exact u2_o z
    · rw [e]
      refine x_closeB (d := d) hp h6.1 ht hk h6.2 (fun er her I' L' i1 i2 i3 i4 i5 i6 => ?_) (fun P' hP I' L' i1 i2 i3 i4 i5 i6 i7 i8 i9 => ?_)
      · rw [her]
        exact ⟨_, rfl, rfl, rfl, i3, i6, rfl, i1, i4⟩
      · rw [hP]
        refine ⟨_, rfl, rfl, ?_, i3, i6, rfl, i1, i5, i7, i8, i9⟩
        show 27 - (27 - mR M 1 1) = 27 - (27 - mR M 1 1)
        rfl
  refine Ev.imp (Ev.both A B) ?_
  rintro r M' ⟨x, rfl, ⟨a1, a2, a3, a4, a5⟩, M'', ⟨rfl, c2, c3, c4, c5⟩, c6, c7⟩
  have hN : mN M' = 167 := (congrArg (fun x => x.1) a3).trans hL.2.2.1
  have hF : FM M' := ⟨hN, by rw [ag_R a1 hN c7 (by decide) (by decide) (show isR 1 2 = true from rfl), ag_R a1 hN c7 (by decide) (by decide) (show isR 1 1 = true from rfl)]; exact c2⟩
  refine h M' ⟨a1, a2, hF⟩ a3 a4 ⟨a5, fun i hi => ?_⟩ ?_ ?_ ⟨M'', c5, c6, c7⟩
  · rw [(a4 3 i rfl).1]
    refine h6.2 i (Nat.lt_of_lt_of_le hi ?_)
    unfold clA
    split <;> omega
  · rw [ag_I a1 hN c7 (by decide) (by decide) (show isI 2 13 = true from rfl)]
    exact c3
  · rw [ag_I a1 hN c7 (by decide) (by decide) (show isI 1 13 = true from rfl)]
    exact c4
def eY7 (o : Option ((Nat × Nat) ⊕ Ps)) (M M'' : Mm) : Prop := match o with
  | none => ∀ a i, ¬ (a = 150 ∧ (i = 0 ∨ i = 11)) → mI M'' a i = mI M a i
  | some (.inl er) => (∀ a i, ¬ (a = 150 ∧ i ≤ 13) → a ≠ 152 → a ≠ 154 → a ≠ 156 → mI M'' a i = mI M a i) ∧ mI M'' 150 10 = nI er.2
  | some (.inr P) => (∀ a i, ¬ (a = 150 ∧ (i ≤ 14 ∨ i = 22 ∨ i = 23)) → ¬ (152 ≤ a ∧ a ≤ 157) → mI M'' a i = mI M a i) ∧ mI M'' 150 14 = 1 ∧ mI M'' 150 22 = 0 ∧ mI M'' 150 23 = 0 ∧ PI P.1 ∧ B3 P ∧ KM P.1 P.2.2.1 ∧ 0 < P.1 4 ∧ FS P.1 P.2.1 (mI M'') ∧ FH 155 P.1 (mI M'') ∧ FH 157 P.1 (mI M'')
theorem eY7_of {o : Option ((Nat × Nat) ⊕ Ps)} (h : eX7 o M M') (hP : ∀ P, o = some (.inr P) → PI P.1) : eY7 o M M' := by
  cases o with
  | none => exact h
  | some r =>
    cases r with
    | inl er => exact h
    | inr P =>
      obtain ⟨h1, h2, h3, h4, h5, h6⟩ := h
      exact ⟨h1, h2, h3, h4, hP P rfl, h5, h6⟩
theorem k7_close (d : Nat) {n : Int32} (hL : LPm M) (h6 : T7 t b M) (ht : t ≤ 900) (h : ∀ M', LPm M' → M'.1 = M.1 → kp msC M M' → T7 (clA n t) b M' → mI M' 150 9 = cF (cO b n t) (mI M 150 9) → mI M' 150 11 = clT (cO b n t) → (∃ M'', eY7 (cO b n t) M M'' ∧ M''.1 = M.1 ∧ agr M' M'') → kr (some (.int (cA (cO b n t)))) M') : Ev l X uX7_close (d + 12) true 0 0 [.ref 150, .int n] M kr :=
  s7_close d hL h6 ht (fun M' h1 h2 h3 h4 h5 h6 h7 h8 => h M' h1 h2 h3 h4 h5 h6 ⟨M', eY7_of h7 h8, h2, agr_rf M'⟩)
end JCM
