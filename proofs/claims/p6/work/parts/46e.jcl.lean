/-! close of both sides: exact and interval contracts joined -/
section JCL
/-- what a close does: none: the number is out of range; else the reading's end -/
def cO (b : Nat → Nat) (n : Int32) (t : Nat) : Option ((Nat × Nat) ⊕ Ps) := cond (inB n 0 (nI t)) (some (rdT b n.toInt.toNat (n.toInt.toNat + 1) P00)) none
def cA : Option ((Nat × Nat) ⊕ Ps) → Int32
  | some (.inr P) => nI (P.1 4)
  | _ => -1
def cF (o : Option ((Nat × Nat) ⊕ Ps)) (old : Int32) : Int32 := match o with
  | none => old
  | some (.inl er) => nI er.1
  | some (.inr _) => 0
def clT : Option ((Nat × Nat) ⊕ Ps) → Int32
  | none => 2
  | some (.inl _) => 4
  | some (.inr _) => 0
theorem cO_cases {b : Nat → Nat} {n : Int32} {t : Nat} (ht : t ≤ 900) : (cO b n t = none ∧ (n < 0 ∨ nI t < n)) ∨ ∃ k, k ≤ t ∧ n = nI k ∧ cO b n t = some (rdT b k (k + 1) P00) := by
  cases hq : inB n 0 (nI t) with
  | false =>
    refine Or.inl ⟨by unfold cO; rw [hq]; rfl, ?_⟩
    by_cases c : n < 0
    · exact Or.inl c
    · by_cases c2 : nI t < n
      · exact Or.inr c2
      · unfold inB at hq
        rw [decide_eq_true c, decide_eq_true c2] at hq
        cases hq
  | true =>
    refine Or.inr ⟨n.toInt.toNat, ?_⟩
    obtain ⟨x, y⟩ := Bool.and_eq_true_iff.mp hq
    have x : ¬ n < 0 := of_decide_eq_true x
    have y : ¬ nI t < n := of_decide_eq_true y
    have x1 : 0 ≤ n.toInt := by
      rw [Int32.lt_iff_toInt_lt] at x
      have : (0 : Int32).toInt = 0 := rfl
      omega
    have y1 : n.toInt ≤ t := by
      rw [Int32.lt_iff_toInt_lt] at y
      have : (nI t).toInt = t := nI_toInt (by omega)
      omega
    refine ⟨by omega, nI_at x1 (by omega), by unfold cO; rw [hq]; rfl⟩
variable {M M' M'' : Mm}
def eX6 (o : Option ((Nat × Nat) ⊕ Ps)) (M M'' : Mm) : Prop := match o with
  | none => mR M'' 1 1 = mR M 1 1 ∧ ∀ a i, ¬ (a = 1 ∧ i = 13) → mI M'' a i = mI M a i
  | some (.inl er) => mR M'' 1 1 = mR M 1 1 ∧ (∀ a i, ¬ (a = 1 ∧ i = 13) → ¬ (a = 2 ∧ 1 ≤ i) → a ≠ 5 → a ≠ 6 → ¬ (27 - mR M 1 1 ≤ a ∧ a ≤ 27 - mR M 1 1 + 12) → mI M'' a i = mI M a i) ∧ mI M'' 2 14 = nI er.2
  | some (.inr P) => mR M'' 1 1 = 27 - mR M 1 1 ∧ (∀ a i, ¬ (a = 1 ∧ (i = 6 ∨ i = 8 ∨ i = 13)) → ¬ (a = 2 ∧ 1 ≤ i) → a ≠ 5 → a ≠ 6 → ¬ (27 - mR M 1 1 ≤ a ∧ a ≤ 27 - mR M 1 1 + 12 ∨ 33 ≤ a ∧ a ≤ 37) → mI M'' a i = mI M a i) ∧ PC (27 - mR M 1 1) P.1 P.2.1 (mI M'') ∧ mI M'' 1 6 = 0 ∧ mI M'' 1 8 = 0
variable {l : Launch} {X : Nat × (Nat → Int32)} {kr : KR} {t : Nat} {b : Nat → Nat}
theorem j6_close (d : Nat) {n : Int32} (hL : LPm M) (h6 : T6 t b M) (ht : t ≤ 900) (h : ∀ M', LPm M' → M'.1 = M.1 → kp msZ8 M M' → T6 (clA n t) b M' → mI M' 2 13 = cF (cO b n t) (mI M 2 13) → mI M' 1 13 = clT (cO b n t) → (∃ M'', eX6 (cO b n t) M M'' ∧ M''.1 = M.1 ∧ agr M' M'') → kr (some (.int (cA (cO b n t)))) M') : Ev l X uX6_close (d + 12) true 0 0 [.ref 1, .int n] M kr := by
  have A : Ev l X uX6_close (d + 12) true 0 0 [.ref 1, .int n] M (fun r M' => ∃ x : Int32, r = some (.int x) ∧ (Iv Pt8 M' ∧ RefI M' ∧ M'.1 = M.1 ∧ kp msZ8 M M' ∧ mI M' 2 1 = nI (clA n t))) := by
    refine cl6_ev (d := d + 1) (e := 0) hL.1 (LPm_e hL) (fun r M' hJ ht => ?_)
    exact ⟨_, rfl, hJ.2.1, RefI_keep hL.2.1 hJ.2.1 hJ.2.2.1 (by decide +kernel), hJ.1, hJ.2.2.1, by rw [ht]; exact clA_i h6.1⟩
  have B : Ev l X uX6_close (d + 12) true 0 0 [.ref 1, .int n] M (fun r M'' => ∃ x : Int32, r = some (.int x) ∧ (x = cA (cO b n t) ∧ mR M'' 1 2 = 27 - mR M'' 1 1 ∧ mI M'' 2 13 = cF (cO b n t) (mI M 2 13) ∧ mI M'' 1 13 = clT (cO b n t) ∧ eX6 (cO b n t) M M'')) := by
    refine Ev.ofm hL.1 hL.2.2 ?_
    show Ev l X uX6_close (d + 12) true 0 0 [.ref 1, .int n] (mk (mC M, mS M) (mR M 1 1) (mR M 2 3) (mI M) (mL M)) _
    have hp := Iv_p hL.1
    rcases cO_cases (b := b) (n := n) ht with ⟨e, hn⟩ | ⟨k, hk, rfl, e⟩
    · rw [e]
      refine x_close2 (d := d + 11) hp h6.1 ht hn ⟨_, rfl, rfl, rfl, ?_, ?_, rfl, fun a i z => ?_⟩
      · show u2 (mI M) 1 13 2 2 13 = mI M 2 13
        exact u2_o (by decide)
      · show u2 (mI M) 1 13 2 1 13 = 2
        exact u2_s
      · show u2 (mI M) 1 13 2 a i = mI M a i
        exact u2_o z
    · rw [e]
      refine x_close (d := d) hp h6.1 ht hk h6.2 (fun er her I' L' i1 i2 i3 i4 i5 i6 => ?_) (fun P' hP I' L' i1 i2 i3 i4 i5 i6 i7 i8 => ?_)
      · rw [her]
        exact ⟨_, rfl, rfl, rfl, i3, i6, rfl, i1, i4⟩
      · rw [hP]
        refine ⟨_, rfl, rfl, ?_, i3, i6, rfl, i1, i5, i7, i8⟩
        show 27 - (27 - mR M 1 1) = 27 - (27 - mR M 1 1)
        rfl
  refine Ev.imp (Ev.both A B) ?_
  rintro r M' ⟨x, rfl, ⟨a1, a2, a3, a4, a5⟩, M'', ⟨rfl, c2, c3, c4, c5⟩, c6, c7⟩
  have hN : mN M' = 167 := (congrArg (fun x => x.1) a3).trans hL.2.2.1
  have hF : FM M' := ⟨hN, by rw [ag_R a1 hN c7 (by decide) (by decide) (show isR 1 2 = true from rfl), ag_R a1 hN c7 (by decide) (by decide) (show isR 1 1 = true from rfl)]; exact c2⟩
  refine h M' ⟨a1, a2, hF⟩ a3 a4 ⟨a5, fun i hi => ?_⟩ ?_ ?_ ⟨M'', c5, c6, c7⟩
  · rw [(a4 3 i rfl).1]
    refine h6.2 i (Nat.lt_of_lt_of_le hi ?_)
    unfold clA
    split <;> omega
  · rw [ag_I a1 hN c7 (by decide) (by decide) (show isI 2 13 = true from rfl)]
    exact c3
  · rw [ag_I a1 hN c7 (by decide) (by decide) (show isI 1 13 = true from rfl)]
    exact c4
/-- the reference's plan: rows r, told; st as told -/
def FS (F : Nat → Nat) (W : Int32) (I : Nat → Nat → Int32) : Prop := (∀ k, k < 67 → k ≠ 10 → I 153 k = nI (F k)) ∧ I 153 10 = W
def FH (a : Nat) (F : Nat → Nat) (I : Nat → Nat → Int32) : Prop := (∀ c, c < 5 → I a (18 + c) = nI (F (300 + c))) ∧ (∀ f, f < 6 → I a f = nI (F (12 + 4 * f))) ∧ ∀ i, 6 ≤ i → i < 25 → (i < 18 ∨ 23 ≤ i) → I a i = 0
def eX7 (o : Option ((Nat × Nat) ⊕ Ps)) (M M'' : Mm) : Prop := match o with
  | none => ∀ a i, ¬ (a = 150 ∧ (i = 0 ∨ i = 11)) → mI M'' a i = mI M a i
  | some (.inl er) => (∀ a i, ¬ (a = 150 ∧ i ≤ 13) → a ≠ 152 → a ≠ 154 → a ≠ 156 → mI M'' a i = mI M a i) ∧ mI M'' 150 10 = nI er.2
  | some (.inr P) => (∀ a i, ¬ (a = 150 ∧ (i ≤ 14 ∨ i = 22 ∨ i = 23)) → ¬ (152 ≤ a ∧ a ≤ 157) → mI M'' a i = mI M a i) ∧ mI M'' 150 14 = 1 ∧ mI M'' 150 22 = 0 ∧ mI M'' 150 23 = 0 ∧ B3 P ∧ KM P.1 P.2.2.1 ∧ 0 < P.1 4 ∧ FS P.1 P.2.1 (mI M'') ∧ FH 155 P.1 (mI M'') ∧ FH 157 P.1 (mI M'')
theorem j7_close (d : Nat) {n : Int32} (hL : LPm M) (h6 : T7 t b M) (ht : t ≤ 900) (h : ∀ M', LPm M' → M'.1 = M.1 → kp msC M M' → T7 (clA n t) b M' → mI M' 150 9 = cF (cO b n t) (mI M 150 9) → mI M' 150 11 = clT (cO b n t) → (∃ M'', eX7 (cO b n t) M M'' ∧ M''.1 = M.1 ∧ agr M' M'') → kr (some (.int (cA (cO b n t)))) M') : Ev l X uX7_close (d + 12) true 0 0 [.ref 150, .int n] M kr := by
  have A : Ev l X uX7_close (d + 12) true 0 0 [.ref 150, .int n] M (fun r M' => ∃ x : Int32, r = some (.int x) ∧ (Iv Pt8 M' ∧ RefI M' ∧ M'.1 = M.1 ∧ kp msC M M' ∧ mI M' 150 2 = nI (clA n t))) := by
    refine cl_ref (d := d + 1) hL.2.1 (fun r M' hR h1 hk ht => ?_)
    obtain ⟨p, hp, hI⟩ := hR
    exact ⟨_, rfl, Iv_keep hL.1 hI hk (by decide +kernel), ⟨p, hp, hI⟩, h1, hk, by rw [ht]; exact clA_i h6.1⟩
  have B : Ev l X uX7_close (d + 12) true 0 0 [.ref 150, .int n] M (fun r M'' => ∃ x : Int32, r = some (.int x) ∧ (x = cA (cO b n t) ∧ mI M'' 150 9 = cF (cO b n t) (mI M 150 9) ∧ mI M'' 150 11 = clT (cO b n t) ∧ eX7 (cO b n t) M M'')) := by
    refine Ev.ofm hL.1 hL.2.2 ?_
    show Ev l X uX7_close (d + 12) true 0 0 [.ref 150, .int n] (mk (mC M, mS M) (mR M 1 1) (mR M 2 3) (mI M) (mL M)) _
    rcases cO_cases (b := b) (n := n) ht with ⟨e, hn⟩ | ⟨k, hk, rfl, e⟩
    · rw [e]
      refine y_close2 (d := d + 1) ?_ ⟨_, rfl, rfl, ?_, ?_, fun a i z => ?_⟩
      · rw [h6.1]
        rintro ⟨z1, z2⟩
        rw [Int32.le_iff_toInt_le] at z1 z2
        rcases hn with hn | hn
        · rw [Int32.lt_iff_toInt_lt] at hn
          omega
        · rw [Int32.lt_iff_toInt_lt] at hn
          omega
      · show u2 (u2 (u2 (mI M) 150 0 0) 150 11 0) 150 11 2 150 9 = mI M 150 9
        rw [u2_o (by decide), u2_o (by decide), u2_o (by decide)]
      · show u2 (u2 (u2 (mI M) 150 0 0) 150 11 0) 150 11 2 150 11 = 2
        exact u2_s
      · show u2 (u2 (u2 (mI M) 150 0 0) 150 11 0) 150 11 2 a i = mI M a i
        rw [u2_o (by omega), u2_o (by omega), u2_o (by omega)]
    · rw [e]
      refine y_close (d := d + 1) h6.1 ht hk h6.2 (fun er her I' i1 i2 i3 i4 i5 i6 => ?_) (fun P' hP I' i1 i2 i3 i4 i5 i6 i7 i8 i9 j1 j2 j3 j4 => ?_)
      · rw [her]
        exact ⟨_, rfl, rfl, i4, i6, i1, i5⟩
      · rw [hP]
        obtain ⟨s1, s2, s3, s4, s5, s6, s7, s8, s9, s10⟩ := i9
        refine ⟨_, rfl, rfl, i4, i5, i1, i6, i7, i8, j1, s9, j2, ⟨fun k hk hk2 => ?_, ?_⟩, ⟨fun c hc => ?_, fun f hf => ?_, fun i h1 h2 h3 => ?_⟩, ⟨fun c hc => ?_, fun f hf => ?_, fun i h1 h2 h3 => ?_⟩⟩
        · exact (j3 k (by omega)).trans (s5.1 k hk hk2)
        · exact (j3 10 (by decide)).trans s5.2.1
        · exact (j4 (18 + c) (by omega)).1.trans (s5.2.2.1 c hc)
        · exact (j4 f (by omega)).1.trans (s5.2.2.2.1 f hf)
        · exact (j4 i (by omega)).1.trans (s5.2.2.2.2 i h1 h2 h3)
        · exact (j4 (18 + c) (by omega)).2.trans (s5.2.2.1 c hc)
        · exact (j4 f (by omega)).2.trans (s5.2.2.2.1 f hf)
        · exact (j4 i (by omega)).2.trans (s5.2.2.2.2 i h1 h2 h3)
  refine Ev.imp (Ev.both A B) ?_
  rintro r M' ⟨x, rfl, ⟨a1, a2, a3, a4, a5⟩, M'', ⟨rfl, c3, c4, c5⟩, c6, c7⟩
  have hF := FM_kp hL.2.2 a3 a4 rfl rfl
  refine h M' ⟨a1, a2, hF⟩ a3 a4 ⟨a5, fun i hi => ?_⟩ ?_ ?_ ⟨M'', c5, c6, c7⟩
  · rw [(a4 151 i rfl).1]
    refine h6.2 i (Nat.lt_of_lt_of_le hi ?_)
    unfold clA
    split <;> omega
  · rw [ag_I a1 hF.1 c7 (by decide) (by decide) (show isI 150 9 = true from rfl)]
    exact c3
  · rw [ag_I a1 hF.1 c7 (by decide) (by decide) (show isI 150 11 = true from rfl)]
    exact c4
end JCL
