/-! close of both sides: exact and interval contracts joined -/
section JCL
/-- what a close does: none: the number is out of range; else the reading's end -/
def cO (b : Nat → Nat) (n : Int32) (t : Nat) : Option ((Nat × Nat) ⊕ Ps) := cond (inB n 0 (nI t)) (some (rdT b n.toInt.toNat (n.toInt.toNat + 1) P00)) none
def cA : Option ((Nat × Nat) ⊕ Ps) → Int32
  | some (.inr P) => nI (P.1 4)
  | _ => -1
def cF (o : Option ((Nat × Nat) ⊕ Ps)) (old : Int32) : Int32 := match o with
  | none => old
  | some (.inl er) => nI er.1
  | some (.inr _) => 0
def clT : Option ((Nat × Nat) ⊕ Ps) → Int32
  | none => 2
  | some (.inl _) => 4
  | some (.inr _) => 0
theorem cO_cases {b : Nat → Nat} {n : Int32} {t : Nat} (ht : t ≤ 900) : (cO b n t = none ∧ (n < 0 ∨ nI t < n)) ∨ ∃ k, k ≤ t ∧ n = nI k ∧ cO b n t = some (rdT b k (k + 1) P00) := by
  cases hq : inB n 0 (nI t) with
  | false =>
    refine Or.inl ⟨by unfold cO; rw [hq]; rfl, ?_⟩
    by_cases c : n < 0
    · exact Or.inl c
    · by_cases c2 : nI t < n
      · exact Or.inr c2
      · unfold inB at hq
        rw [decide_eq_true c, decide_eq_true c2] at hq
        cases hq
  | true =>
    refine Or.inr ⟨n.toInt.toNat, ?_⟩
    obtain ⟨x, y⟩ := Bool.and_eq_true_iff.mp hq
    have x : ¬ n < 0 := of_decide_eq_true x
    have y : ¬ nI t < n := of_decide_eq_true y
    have x1 : 0 ≤ n.toInt := by
      rw [Int32.lt_iff_toInt_lt] at x
      have : (0 : Int32).toInt = 0 := rfl
      omega
    have y1 : n.toInt ≤ t := by
      rw [Int32.lt_iff_toInt_lt] at y
      have : (nI t).toInt = t := nI_toInt (by omega)
      omega
    refine ⟨by omega, nI_at x1 (by omega), by unfold cO; rw [hq]; rfl⟩
variable {M M' M'' : Mm}
def eX6 (o : Option ((Nat × Nat) ⊕ Ps)) (M M'' : Mm) : Prop := match o with
  | none => mR M'' 1 1 = mR M 1 1 ∧ ∀ a i, ¬ (a = 1 ∧ i = 13) → mI M'' a i = mI M a i
  | some (.inl er) => mR M'' 1 1 = mR M 1 1 ∧ (∀ a i, ¬ (a = 1 ∧ i = 13) → ¬ (a = 2 ∧ 1 ≤ i) → a ≠ 5 → a ≠ 6 → ¬ (27 - mR M 1 1 ≤ a ∧ a ≤ 27 - mR M 1 1 + 12) → mI M'' a i = mI M a i) ∧ mI M'' 2 14 = nI er.2
  | some (.inr P) => mR M'' 1 1 = 27 - mR M 1 1 ∧ (∀ a i, ¬ (a = 1 ∧ (i = 6 ∨ i = 8 ∨ i = 13)) → ¬ (a = 2 ∧ 1 ≤ i) → a ≠ 5 → a ≠ 6 → ¬ (27 - mR M 1 1 ≤ a ∧ a ≤ 27 - mR M 1 1 + 12 ∨ 33 ≤ a ∧ a ≤ 37) → mI M'' a i = mI M a i) ∧ PC (27 - mR M 1 1) P.1 P.2.1 (mI M'') ∧ mI M'' 1 6 = 0 ∧ mI M'' 1 8 = 0
variable {l : Launch} {X : Nat × (Nat → Int32)} {kr : KR} {t : Nat} {b : Nat → Nat}
theorem j6_close (d : Nat) {n : Int32} (hL : LPm M) (h6 : T6 t b M) (ht : t ≤ 900) (h : ∀ M', LPm M' → M'.1 = M.1 → kp msZ8 M M' → T6 (clA n t) b M' → mI M' 2 13 = cF (cO b n t) (mI M 2 13) → mI M' 1 13 = clT (cO b n t) → (∃ M'', eX6 (cO b n t) M M'' ∧ M''.1 = M.1 ∧ agr M' M'') → kr (some (.int (cA (cO b n t)))) M') : Ev l X uX6_close (d + 12) true 0 0 [.ref 1, .int n] M kr := by
  have A : Ev l X uX6_close (d + 12) true 0 0 [.ref 1, .int n] M (fun r M' => ∃ x : Int32, r = some (.int x) ∧ (Iv Pt8 M' ∧ RefI M' ∧ M'.1 = M.1 ∧ kp msZ8 M M' ∧ mI M' 2 1 = nI (clA n t))) := by
    refine cl6_ev (d := d + 1) (e := 1) hL.1 (LPm_e hL) (fun r M' hJ ht => ?_)
    exact ⟨_, rfl, hJ.2.1, RefI_keep hL.2.1 hJ.2.1 hJ.2.2.1 (by decide +kernel), hJ.1, hJ.2.2.1, by rw [ht]; exact clA_i h6.1⟩
  have B : Ev l X uX6_close (d + 12) true 0 0 [.ref 1, .int n] M (fun r M'' => ∃ x : Int32, r = some (.int x) ∧ (x = cA (cO b n t) ∧ mR M'' 1 2 = 27 - mR M'' 1 1 ∧ mI M'' 2 13 = cF (cO b n t) (mI M 2 13) ∧ mI M'' 1 13 = clT (cO b n t) ∧ eX6 (cO b n t) M M'')) := by
    refine Ev.ofm hL.1 hL.2.2 ?_
    show Ev l X uX6_close (d + 12) true 0 0 [.ref 1, .int n] (mk (mC M, mS M) (mR M 1 1) (mR M 2 3) (mI M) (mL M)) _
    have hp := Iv_p hL.1
    rcases cO_cases (b := b) (n := n) ht with ⟨e, hn⟩ | ⟨k, hk, rfl, e⟩
    · rw [e]
      refine x_close2 (d := d + 11) hp h6.1 ht hn ⟨_, rfl, rfl, rfl, ?_, ?_, rfl, fun a i z => ?_⟩
      · show u2 (mI M) 1 13 2 2 13 = mI M 2 13
        exact u2_o (by decide)
      · show u2 (mI M) 1 13 2 1 13 = 2
        exact u2_s
      · show u2 (mI M) 1 13 2 a i = mI M a i
        exact u2_o z
    · rw [e]
      refine x_close (d := d) hp h6.1 ht hk h6.2 (fun er her I' L' i1 i2 i3 i4 i5 i6 => ?_) (fun P' hP I' L' i1 i2 i3 i4 i5 i6 i7 i8 => ?_)
      · rw [her]
        exact ⟨_, rfl, rfl, rfl, i3, i6, rfl, i1, i4⟩
      · rw [hP]
        refine ⟨_, rfl, rfl, ?_, i3, i6, rfl, i1, i5, i7, i8⟩
        show 27 - (27 - mR M 1 1) = 27 - (27 - mR M 1 1)
        rfl
  refine Ev.imp (Ev.both A B) ?_
  rintro r M' ⟨x, rfl, ⟨a1, a2, a3, a4, a5⟩, M'', ⟨rfl, c2, c3, c4, c5⟩, c6, c7⟩
  have hN : mN M' = 167 := (congrArg (fun x => x.1) a3).trans hL.2.2.1
  have hF : FM M' := ⟨hN, by rw [ag_R a1 hN c7 (by decide) (by decide) (show isR 1 2 = true from rfl), ag_R a1 hN c7 (by decide) (by decide) (show isR 1 1 = true from rfl)]; exact c2⟩
  refine h M' ⟨a1, a2, hF⟩ a3 a4 ⟨a5, fun i hi => ?_⟩ ?_ ?_ ⟨M'', c5, c6, c7⟩
  · rw [(a4 3 i rfl).1]
    refine h6.2 i (Nat.lt_of_lt_of_le hi ?_)
    unfold clA
    split <;> omega
  · rw [ag_I a1 hN c7 (by decide) (by decide) (show isI 2 13 = true from rfl)]
    exact c3
  · rw [ag_I a1 hN c7 (by decide) (by decide) (show isI 1 13 = true from rfl)]
    exact c4
/-- the reference's plan: rows r, told; st as told -/
def FS (F : Nat → Nat) (W : Int32) (I : Nat → Nat → Int32) : Prop := (∀ k, k < 67 → k ≠ 10 → I 153 k = nI (F k)) ∧ I 153 10 = W
def FH (a : Nat) (F : Nat → Nat) (I : Nat → Nat → Int32) : Prop := (∀ c, c < 5 → I a (18 + c) = nI (F (300 + c))) ∧ (∀ f, f < 6 → I a f = nI (F (12 + 4 * f))) ∧ ∀ i, 6 ≤ i → i < 25 → (i < 18 ∨ 23 ≤ i) → I a i = 0
def eX7 (o : Option ((Nat × Nat) ⊕ Ps)) (M M'' : Mm) : Prop := match o with
  | none => ∀ a i, ¬ (a = 150 ∧ (i = 0 ∨ i = 11)) → mI M'' a i = mI M a i
  | some (.inl er) => (∀ a i, ¬ (a = 150 ∧ i ≤ 13) → a ≠ 152 → a ≠ 154 → a ≠ 156 → mI M'' a i = mI M a i) ∧ mI M'' 150 10 = nI er.2
  | some (.inr P) => (∀ a i, ¬ (a = 150 ∧ (i ≤ 14 ∨ i = 22 ∨ i = 23)) → ¬ (152 ≤ a ∧ a ≤ 157) → mI M'' a i = mI M a i) ∧ mI M'' 150 14 = 1 ∧ mI M'' 150 22 = 0 ∧ mI M'' 150 23 = 0 ∧ B3 P ∧ KM P.1 P.2.2.1 ∧ 0 < P.1 4 ∧ FS P.1 P.2.1 (mI M'') ∧ FH 155 P.1 (mI M'') ∧ FH 157 P.1 (mI M'')
/-- the chosen end: only what a close may change is changed -/
def mskC (M : Mm) (I' : Nat → Nat → Int32) : Mm := (M.1, fun a k => cond (inm msC a k) (I' a k) (mI M a k), mL M, mR M)
theorem mskC_t {I' : Nat → Nat → Int32} {a k : Nat} (h : inm msC a k = true) : mI (mskC M I') a k = I' a k := by
  show cond (inm msC a k) (I' a k) (mI M a k) = I' a k
  rw [h]
  rfl
theorem mskC_f {I' : Nat → Nat → Int32} {a k : Nat} (h : inm msC a k = false) : mI (mskC M I') a k = mI M a k := by
  show cond (inm msC a k) (I' a k) (mI M a k) = mI M a k
  rw [h]
  rfl
theorem mskC_kp {I' : Nat → Nat → Int32} : kp msC M (mskC M I') := fun _ _ h => ⟨mskC_f h, rfl, rfl⟩
theorem m153 : ∀ k, k < 67 → inm msC 153 k = true := by decide +kernel
theorem m155 : ∀ k, k < 25 → inm msC 155 k = true ∧ inm msC 157 k = true := by decide +kernel
theorem mskC_e {o : Option ((Nat × Nat) ⊕ Ps)} {I' : Nat → Nat → Int32} (h : eX7 o M (M.1, I', mL M, R0 (mR M 1 1) (mR M 2 3))) : eX7 o M (mskC M I') := by
  have k : ∀ {a i : Nat}, I' a i = mI M a i → mI (mskC M I') a i = mI M a i := by
    intro a i z
    cases hb : inm msC a i with
    | true => rw [mskC_t hb]; exact z
    | false => exact mskC_f hb
  cases o with
  | none => exact fun a i z => k (h a i z)
  | some r =>
    cases r with
    | inl er =>
      obtain ⟨h1, h2⟩ := h
      exact ⟨fun a i z1 z2 z3 z4 => k (h1 a i z1 z2 z3 z4), (mskC_t (by decide)).trans h2⟩
    | inr P =>
      obtain ⟨h1, h2, h3, h4, h5, h6, h7, h8, h9, h10⟩ := h
      refine ⟨fun a i z1 z2 => k (h1 a i z1 z2), (mskC_t (by decide)).trans h2, (mskC_t (by decide)).trans h3, (mskC_t (by decide)).trans h4, h5, h6, h7, ⟨fun k hk hk2 => (mskC_t (m153 k hk)).trans (h8.1 k hk hk2), (mskC_t (by decide)).trans h8.2⟩, ⟨fun c hc => (mskC_t (m155 (18 + c) (by omega)).1).trans (h9.1 c hc), fun f hf => (mskC_t (m155 f (by omega)).1).trans (h9.2.1 f hf), fun i z1 z2 z3 => (mskC_t (m155 i z2).1).trans (h9.2.2 i z1 z2 z3)⟩, ⟨fun c hc => (mskC_t (m155 (18 + c) (by omega)).2).trans (h10.1 c hc), fun f hf => (mskC_t (m155 f (by omega)).2).trans (h10.2.1 f hf), fun i z1 z2 z3 => (mskC_t (m155 i z2).2).trans (h10.2.2 i z1 z2 z3)⟩⟩
theorem x150 : ∀ k, k < 44 → isI 150 k = true → inm msC 150 k = true ∨ ¬ (k ≤ 14 ∨ k = 22 ∨ k = 23) := by decide +kernel
theorem xArr : ∀ k, (k < 8 → inm msC 152 k = true) ∧ (k < 202 → inm msC 153 k = true ∧ inm msC 154 k = true) ∧ (k < 25 → inm msC 155 k = true ∧ inm msC 156 k = true ∧ inm msC 157 k = true) := by
  have a1 : ∀ k, k < 8 → inm msC 152 k = true := by decide +kernel
  have a2 : ∀ k, k < 202 → inm msC 153 k = true ∧ inm msC 154 k = true := by decide +kernel
  have a3 : ∀ k, k < 25 → inm msC 155 k = true ∧ inm msC 156 k = true ∧ inm msC 157 k = true := by decide +kernel
  exact fun k => ⟨a1 k, a2 k, a3 k⟩
/-- the structure's ints that a close may change are among those -/
theorem mskC_a {I' : Nat → Nat → Int32} (hI : ∀ a i, ¬ (a = 150 ∧ (i ≤ 14 ∨ i = 22 ∨ i = 23)) → ¬ (152 ≤ a ∧ a ≤ 157) → I' a i = mI M a i) (a k : Nat) (hk : isI a k = true) : I' a k = mI (mskC M I') a k := by
  cases hb : inm msC a k with
  | true => exact (mskC_t hb).symm
  | false =>
    rw [mskC_f hb]
    refine hI a k ?_ ?_
    · rintro ⟨rfl, z⟩
      have hl : k < 44 := by
        have : (Nat.blt k (tf 7).length && Nat.beq ((tf 7).getD k 0) 0) = true := hk
        exact Nat.le_of_ble_eq_true (Bool.and_eq_true_iff.mp this).1
      rcases x150 k hl hk with h | h
      · rw [hb] at h; cases h
      · exact h z
    · intro z
      obtain ⟨x1, x2, x3⟩ := xArr k
      rcases (show a = 152 ∨ a = 153 ∨ a = 154 ∨ a = 155 ∨ a = 156 ∨ a = 157 by omega) with rfl | rfl | rfl | rfl | rfl | rfl
      · have := x1 (Nat.le_of_ble_eq_true (show Nat.blt k 8 = true from hk)); rw [hb] at this; cases this
      · have := (x2 (Nat.le_of_ble_eq_true (show Nat.blt k 202 = true from hk))).1; rw [hb] at this; cases this
      · have := (x2 (Nat.le_of_ble_eq_true (show Nat.blt k 202 = true from hk))).2; rw [hb] at this; cases this
      · have := (x3 (Nat.le_of_ble_eq_true (show Nat.blt k 25 = true from hk))).1; rw [hb] at this; cases this
      · have := (x3 (Nat.le_of_ble_eq_true (show Nat.blt k 25 = true from hk))).2.1; rw [hb] at this; cases this
      · have := (x3 (Nat.le_of_ble_eq_true (show Nat.blt k 25 = true from hk))).2.2; rw [hb] at this; cases this
theorem eX7_i {o : Option ((Nat × Nat) ⊕ Ps)} {M1 : Mm} (h : eX7 o M M1) : ∀ a i, ¬ (a = 150 ∧ (i ≤ 14 ∨ i = 22 ∨ i = 23)) → ¬ (152 ≤ a ∧ a ≤ 157) → mI M1 a i = mI M a i := by
  intro a i z1 z2
  cases o with
  | none => exact h a i (fun z => z1 ⟨z.1, by omega⟩)
  | some r =>
    cases r with
    | inl er =>
      obtain ⟨h1, -⟩ := h
      exact h1 a i (fun z => z1 ⟨z.1, by omega⟩) (by omega) (by omega) (by omega)
    | inr P =>
      obtain ⟨h1, -⟩ := h
      exact h1 a i z1 z2
theorem tr150 : ∀ p, p < 2 → ∀ k, k < 14 → k ≠ 2 → rwB (lkR (rwx p) 150) k = (iLo, iHi) := by decide +kernel
theorem trE : ∀ p, p < 2 → lkR (rwx p) 152 = [] ∧ lkR (rwx p) 154 = [] ∧ lkR (rwx p) 156 = [] := by
  intro p hp
  rcases lt2 hp with rfl | rfl <;> exact ⟨rfl, rfl, rfl⟩
/-- the reference's rows behind a close -/
theorem ref_X7 {o : Option ((Nat × Nat) ⊕ Ps)} {M1 : Mm} {v : Nat} (hR : RefI M) (h0 : Iv (mkP []) M1) (h2 : mI M1 150 2 = nI v) (hv : v ≤ 900) (hP : ∀ P, o = some (.inr P) → PI P.1 ∧ PX P.1) (h : eX7 o M M1) : RefI M1 := by
  have v2 : (mI M1 150 2).toInt = v := by rw [h2]; exact nI_toInt (by omega)
  cases o with
  | none =>
    obtain ⟨p, hp, hI⟩ := hR
    refine ⟨p, ⟨hp.1, eO_cg (fun k => h 153 k (by omega)) hp.2⟩, h0.1, h0.2.1, h0.2.2.1, fun a k ha => ?_⟩
    show (rwB (lkR (rwx p) a) k).1 ≤ (mI M1 a k).toInt ∧ (mI M1 a k).toInt ≤ (rwB (lkR (rwx p) a) k).2
    by_cases c : a = 150 ∧ (k = 0 ∨ k = 11)
    · obtain ⟨rfl, c⟩ := c
      rw [tr150 p hp.1 k (by omega) (by omega)]
      exact ⟨i32_lo _, i32_hi _⟩
    · rw [h a k c]
      exact hI.2.2.2 a k ha
  | some r =>
    cases r with
    | inl er =>
      obtain ⟨p, hp, hI⟩ := hR
      obtain ⟨t1, t2, t3⟩ := trE p hp.1
      obtain ⟨h1, -⟩ := h
      refine ⟨p, ⟨hp.1, eO_cg (fun k => h1 153 k (by omega) (by decide) (by decide) (by decide)) hp.2⟩, h0.1, h0.2.1, h0.2.2.1, fun a k ha => ?_⟩
      show (rwB (lkR (rwx p) a) k).1 ≤ (mI M1 a k).toInt ∧ (mI M1 a k).toInt ≤ (rwB (lkR (rwx p) a) k).2
      by_cases c : a = 150 ∧ k ≤ 13
      · obtain ⟨rfl, c⟩ := c
        by_cases k2 : k = 2
        · subst k2
          rw [(rwx_f hp.1).2.1, v2]
          exact ⟨Int.natCast_nonneg v, by show (v : Int) ≤ 900; omega⟩
        · rw [tr150 p hp.1 k (by omega) k2]
          exact ⟨i32_lo _, i32_hi _⟩
      · by_cases c2 : a = 152
        · rw [c2, t1]
          exact ⟨i32_lo _, i32_hi _⟩
        · by_cases c4 : a = 154
          · rw [c4, t2]
            exact ⟨i32_lo _, i32_hi _⟩
          · by_cases c6 : a = 156
            · rw [c6, t3]
              exact ⟨i32_lo _, i32_hi _⟩
            · rw [h1 a k c c2 c4 c6]
              exact hI.2.2.2 a k ha
    | inr P =>
      obtain ⟨hPI, hPX⟩ := hP P rfl
      obtain ⟨h1, e14, e22, e23, h5, h6, h7, h8, h9, h10⟩ := h
      have hbd : Bd P.1 P.2.1 P.2.2.1 := h5.1.1
      obtain ⟨B0, B1, B3', B4, B5, B6, B7'⟩ := hbd.1
      have hlt : ∀ k, P.1 k < 1000 := hbd.2.1
      obtain ⟨p0, hp0, hI⟩ := hR
      have f2 : 2 ≤ P.1 0 := (hbd.2.2.2.2.2 (Nat.pos_of_ne_zero (hPX.2 (Nat.ne_of_gt h7)))).1
      have v5 : (mI M1 153 5).toInt = (P.1 5 : Int) := by
        rw [h8.1 5 (by decide) (by decide)]
        exact nI_toInt (Nat.lt_trans (hlt 5) (by decide))
      refine ⟨0, ⟨by decide, fun _ c hc h5c => ?_⟩, h0.1, h0.2.1, h0.2.2.1, fun a k ha => ?_⟩
      · rw [v5] at h5c
        have q := (hPI.2.1 c (by omega)).2.2.1
        rw [h8.1 (36 + 2 * c) (by omega) (by omega), nI_toInt (Nat.lt_trans (hlt (36 + 2 * c)) (by decide))]
        omega
      show (rwB (lkR (rwx 0) a) k).1 ≤ (mI M1 a k).toInt ∧ (mI M1 a k).toInt ≤ (rwB (lkR (rwx 0) a) k).2
      have hx : iLo ≤ (mI M1 a k).toInt ∧ (mI M1 a k).toInt ≤ iHi := ⟨i32_lo _, i32_hi _⟩
      rw [rwx_eq (p := 0) (by decide), lk_3]
      by_cases a150 : a = 150
      · subst a150
        rw [if_pos rfl]
        refine rw_all hx (fun r hr hk => ?_)
        obtain ⟨l1, l2⟩ := rIn_b hk
        have hr : r ∈ ([(14, 14, 1, 1), (2, 2, 0, 900), (14, 14, 0, 1), (22, 22, 0, 16), (23, 23, 0, 3)] : List Row) := hr
        rcases List.mem_cons.mp hr with rfl | hr
        · have l1 : 14 ≤ k := l1
          have l2 : k ≤ 14 := l2
          obtain rfl : k = 14 := by omega
          rw [e14]
          exact ⟨by decide, by decide⟩
        rcases List.mem_cons.mp hr with rfl | hr
        · have l1 : 2 ≤ k := l1
          have l2 : k ≤ 2 := l2
          obtain rfl : k = 2 := by omega
          rw [v2]
          exact ⟨Int.natCast_nonneg v, by show (v : Int) ≤ 900; omega⟩
        rcases List.mem_cons.mp hr with rfl | hr
        · have l1 : 14 ≤ k := l1
          have l2 : k ≤ 14 := l2
          obtain rfl : k = 14 := by omega
          rw [e14]
          exact ⟨by decide, by decide⟩
        rcases List.mem_cons.mp hr with rfl | hr
        · have l1 : 22 ≤ k := l1
          have l2 : k ≤ 22 := l2
          obtain rfl : k = 22 := by omega
          rw [e22]
          exact ⟨by decide, by decide⟩
        · obtain rfl := List.mem_singleton.mp hr
          have l1 : 23 ≤ k := l1
          have l2 : k ≤ 23 := l2
          obtain rfl : k = 23 := by omega
          rw [e23]
          exact ⟨by decide, by decide⟩
      rw [if_neg a150]
      by_cases a153 : a = 153
      · subst a153
        rw [if_pos rfl]
        refine rw_all hx (fun r hr hk => ?_)
        obtain ⟨l1, l2⟩ := rIn_b hk
        have key : k < 67 → k ≠ 10 → ∀ {lo hi : Int}, lo ≤ (P.1 k : Int) → (P.1 k : Int) ≤ hi → lo ≤ (mI M1 153 k).toInt ∧ (mI M1 153 k).toInt ≤ hi := by
          intro z1 z2 lo hi z3 z4
          have : (mI M1 153 k).toInt = (P.1 k : Int) := by
            rw [h8.1 k z1 z2]
            exact nI_toInt (Nat.lt_trans (hlt k) (by decide))
          rw [this]
          exact ⟨z3, z4⟩
        have hc := hPX.1 k
        obtain ⟨x1, x2, x3, x4, x5⟩ := hc
        rcases List.mem_append.mp hr with hr | hr
        · obtain rfl := List.mem_singleton.mp (show r ∈ ([(0, 0, 2, 5)] : List Row) from hr)
          have l2 : k ≤ 0 := l2
          obtain rfl : k = 0 := by omega
          exact key (by decide) (by decide) (by show (2 : Int) ≤ _; omega) (by show _ ≤ (5 : Int); omega)
        · have hr : r ∈ ([(0, 0, 0, 5), (1, 1, 0, 4), (2, 2, 0, 100), (4, 4, 0, 6), (5, 5, 0, 5), (6, 6, 0, 4), (7, 7, 0, 4), (35, 44, 0, 30), (45, 52, 0, 19), (53, 53, 0, 4), (55, 55, 0, 4), (57, 57, 0, 4), (59, 59, 0, 4)] : List Row) := hr
          rcases List.mem_cons.mp hr with rfl | hr
          · have l1 : 0 ≤ k := l1
            have l2 : k ≤ 0 := l2
            obtain rfl : k = 0 := by omega
            have w := B0
            exact key (by omega) (by omega) (by show (0 : Int) ≤ _; omega) (by show _ ≤ (5 : Int); omega)
          rcases List.mem_cons.mp hr with rfl | hr
          · have l1 : 1 ≤ k := l1
            have l2 : k ≤ 1 := l2
            obtain rfl : k = 1 := by omega
            have w := B1
            exact key (by omega) (by omega) (by show (0 : Int) ≤ _; omega) (by show _ ≤ (4 : Int); omega)
          rcases List.mem_cons.mp hr with rfl | hr
          · have l1 : 2 ≤ k := l1
            have l2 : k ≤ 2 := l2
            obtain rfl : k = 2 := by omega
            have w := x1 rfl
            exact key (by omega) (by omega) (by show (0 : Int) ≤ _; omega) (by show _ ≤ (100 : Int); omega)
          rcases List.mem_cons.mp hr with rfl | hr
          · have l1 : 4 ≤ k := l1
            have l2 : k ≤ 4 := l2
            obtain rfl : k = 4 := by omega
            have w := B4
            exact key (by omega) (by omega) (by show (0 : Int) ≤ _; omega) (by show _ ≤ (6 : Int); omega)
          rcases List.mem_cons.mp hr with rfl | hr
          · have l1 : 5 ≤ k := l1
            have l2 : k ≤ 5 := l2
            obtain rfl : k = 5 := by omega
            have w := B5
            exact key (by omega) (by omega) (by show (0 : Int) ≤ _; omega) (by show _ ≤ (5 : Int); omega)
          rcases List.mem_cons.mp hr with rfl | hr
          · have l1 : 6 ≤ k := l1
            have l2 : k ≤ 6 := l2
            obtain rfl : k = 6 := by omega
            have w := B6
            exact key (by omega) (by omega) (by show (0 : Int) ≤ _; omega) (by show _ ≤ (4 : Int); omega)
          rcases List.mem_cons.mp hr with rfl | hr
          · have l1 : 7 ≤ k := l1
            have l2 : k ≤ 7 := l2
            obtain rfl : k = 7 := by omega
            have w := B7'
            exact key (by omega) (by omega) (by show (0 : Int) ≤ _; omega) (by show _ ≤ (4 : Int); omega)
          rcases List.mem_cons.mp hr with rfl | hr
          · have l1 : 35 ≤ k := l1
            have l2 : k ≤ 44 := l2
            have w := x2 ⟨l1, l2⟩
            exact key (by omega) (by omega) (by show (0 : Int) ≤ _; omega) (by show _ ≤ (30 : Int); omega)
          rcases List.mem_cons.mp hr with rfl | hr
          · have l1 : 45 ≤ k := l1
            have l2 : k ≤ 52 := l2
            have w := x3 ⟨l1, l2⟩
            exact key (by omega) (by omega) (by show (0 : Int) ≤ _; omega) (by show _ ≤ (19 : Int); omega)
          rcases List.mem_cons.mp hr with rfl | hr
          · have l1 : 53 ≤ k := l1
            have l2 : k ≤ 53 := l2
            obtain rfl : k = 53 := by omega
            have w := x4 (Or.inl rfl)
            exact key (by omega) (by omega) (by show (0 : Int) ≤ _; omega) (by show _ ≤ (4 : Int); omega)
          rcases List.mem_cons.mp hr with rfl | hr
          · have l1 : 55 ≤ k := l1
            have l2 : k ≤ 55 := l2
            obtain rfl : k = 55 := by omega
            have w := x4 (Or.inr (Or.inl rfl))
            exact key (by omega) (by omega) (by show (0 : Int) ≤ _; omega) (by show _ ≤ (4 : Int); omega)
          rcases List.mem_cons.mp hr with rfl | hr
          · have l1 : 57 ≤ k := l1
            have l2 : k ≤ 57 := l2
            obtain rfl : k = 57 := by omega
            have w := x4 (Or.inr (Or.inr (Or.inl rfl)))
            exact key (by omega) (by omega) (by show (0 : Int) ≤ _; omega) (by show _ ≤ (4 : Int); omega)
          · obtain rfl := List.mem_singleton.mp hr
            have l1 : 59 ≤ k := l1
            have l2 : k ≤ 59 := l2
            obtain rfl : k = 59 := by omega
            have w := x4 (Or.inr (Or.inr (Or.inr rfl)))
            exact key (by omega) (by omega) (by show (0 : Int) ≤ _; omega) (by show _ ≤ (4 : Int); omega)
      rw [if_neg a153]
      have same : (a < 152 ∨ 157 < a) → (rwB (lkR (rwt6.drop 2) a) k).1 ≤ (mI M1 a k).toInt ∧ (mI M1 a k).toInt ≤ (rwB (lkR (rwt6.drop 2) a) k).2 := by
        intro z
        rw [h1 a k (fun w => a150 w.1) (by omega)]
        have b := hI.2.2.2 a k ha
        have b : (rwB (lkR (rwx p0) a) k).1 ≤ (mI M a k).toInt ∧ (mI M a k).toInt ≤ (rwB (lkR (rwx p0) a) k).2 := b
        rw [rwx_eq hp0.1, lk_3, if_neg a150, if_neg a153] at b
        exact b
      have his : ∀ c, c < 5 → P.1 (300 + c) ≤ 5 := fun c hc => (hPX.1 (300 + c)).2.2.2.2 ⟨by omega, by omega⟩
      by_cases c7 : 152 ≤ a ∧ a ≤ 157
      · rcases (show a = 152 ∨ a = 154 ∨ a = 155 ∨ a = 156 ∨ a = 157 by omega) with rfl | rfl | rfl | rfl | rfl
        · exact hx
        · exact hx
        · refine rw_all (H := [(18, 22, 0, 5)]) hx (fun r hr hk => ?_)
          obtain ⟨l1, l2⟩ := rIn_b hk
          obtain rfl := List.mem_singleton.mp hr
          have l1 : 18 ≤ k := l1
          have l2 : k ≤ 22 := l2
          have q := h9.1 (k - 18) (by omega)
          rw [show 18 + (k - 18) = k by omega] at q
          have := his (k - 18) (by omega)
          rw [q, nI_toInt (by omega)]
          exact ⟨Int.natCast_nonneg _, by show (P.1 (300 + (k - 18)) : Int) ≤ 5; omega⟩
        · exact hx
        · refine rw_all (H := [(18, 22, 0, 5)]) hx (fun r hr hk => ?_)
          obtain ⟨l1, l2⟩ := rIn_b hk
          obtain rfl := List.mem_singleton.mp hr
          have l1 : 18 ≤ k := l1
          have l2 : k ≤ 22 := l2
          have q := h10.1 (k - 18) (by omega)
          rw [show 18 + (k - 18) = k by omega] at q
          have := his (k - 18) (by omega)
          rw [q, nI_toInt (by omega)]
          exact ⟨Int.natCast_nonneg _, by show (P.1 (300 + (k - 18)) : Int) ≤ 5; omega⟩
      · exact same (by omega)
theorem cO_cl {n : Int32} : (cO b n t = none → clA n t = t) ∧ ∀ r, cO b n t = some r → clA n t = 0 := by
  unfold cO clA
  cases inB n 0 (nI t) with
  | true => exact ⟨fun h => absurd h (by intro z; cases z), fun _ _ => rfl⟩
  | false => exact ⟨fun _ => rfl, fun r h => absurd h (by intro z; cases z)⟩
/-- the reference's close: exactly, over the law's states -/
theorem s7_close (d : Nat) {n : Int32} (hL : LPm M) (h6 : T7 t b M) (ht : t ≤ 900) (h : ∀ M', LPm M' → M'.1 = M.1 → kp msC M M' → T7 (clA n t) b M' → mI M' 150 9 = cF (cO b n t) (mI M 150 9) → mI M' 150 11 = clT (cO b n t) → eX7 (cO b n t) M M' → (∀ P, cO b n t = some (.inr P) → PI P.1) → kr (some (.int (cA (cO b n t)))) M') : Ev l X uX7_close (d + 12) true 0 0 [.ref 150, .int n] M kr := by
  have B : Ev l X uX7_close (d + 12) true 0 0 [.ref 150, .int n] M (fun r M1 => r = some (.int (cA (cO b n t))) ∧ (∃ I', M1 = (M.1, I', mL M, R0 (mR M 1 1) (mR M 2 3))) ∧ mI M1 150 9 = cF (cO b n t) (mI M 150 9) ∧ mI M1 150 11 = clT (cO b n t) ∧ mI M1 150 2 = nI (clA n t) ∧ eX7 (cO b n t) M M1 ∧ ∀ P, cO b n t = some (.inr P) → PI P.1 ∧ PX P.1) := by
    refine Ev.ofm hL.1 hL.2.2 ?_
    show Ev l X uX7_close (d + 12) true 0 0 [.ref 150, .int n] (mk (mC M, mS M) (mR M 1 1) (mR M 2 3) (mI M) (mL M)) _
    obtain ⟨k1, k2⟩ := cO_cl (b := b) (t := t) (n := n)
    rcases cO_cases (b := b) (n := n) ht with ⟨e, hn⟩ | ⟨k, hk, rfl, e⟩
    · rw [k1 e, e]
      refine y_close2 (d := d + 1) ?_ ⟨rfl, ⟨_, rfl⟩, ?_, ?_, ?_, fun a i z => ?_, fun P z => by cases z⟩
      · rw [h6.1]
        rintro ⟨z1, z2⟩
        rw [Int32.le_iff_toInt_le] at z1 z2
        rcases hn with hn | hn
        · rw [Int32.lt_iff_toInt_lt] at hn
          omega
        · rw [Int32.lt_iff_toInt_lt] at hn
          omega
      · show u2 (u2 (u2 (mI M) 150 0 0) 150 11 0) 150 11 2 150 9 = mI M 150 9
        rw [u2_o (by decide), u2_o (by decide), u2_o (by decide)]
      · show u2 (u2 (u2 (mI M) 150 0 0) 150 11 0) 150 11 2 150 11 = 2
        exact u2_s
      · show u2 (u2 (u2 (mI M) 150 0 0) 150 11 0) 150 11 2 150 2 = nI t
        rw [u2_o (by decide), u2_o (by decide), u2_o (by decide)]
        exact h6.1
      · show u2 (u2 (u2 (mI M) 150 0 0) 150 11 0) 150 11 2 a i = mI M a i
        rw [u2_o (by omega), u2_o (by omega), u2_o (by omega)]
    · rw [k2 _ e, e]
      refine y_close (d := d + 1) h6.1 ht hk h6.2 (fun er her I' i1 i2 i3 i4 i5 i6 => ?_) (fun P' hP I' i1 i2 i3 i4 i5 i6 i7 i8 i9 j1 j2 j3 j4 => ?_)
      · rw [her]
        exact ⟨rfl, ⟨_, rfl⟩, i4, i6, i3, ⟨i1, i5⟩, fun P z => by cases z⟩
      · rw [hP]
        obtain ⟨s1, s2, s3, s4, s5, s6, s7, s8, s9, s10⟩ := i9
        refine ⟨rfl, ⟨_, rfl⟩, i4, i5, i3, ⟨i1, i6, i7, i8, j1, s9, j2, ⟨fun k hk hk2 => ?_, ?_⟩, ⟨fun c hc => ?_, fun f hf => ?_, fun i h1 h2 h3 => ?_⟩, ⟨fun c hc => ?_, fun f hf => ?_, fun i h1 h2 h3 => ?_⟩⟩, fun P z => ?_⟩
        · exact (j3 k (by omega)).trans (s5.1 k hk hk2)
        · exact (j3 10 (by decide)).trans s5.2.1
        · exact (j4 (18 + c) (by omega)).1.trans (s5.2.2.1 c hc)
        · exact (j4 f (by omega)).1.trans (s5.2.2.2.1 f hf)
        · exact (j4 i (by omega)).1.trans (s5.2.2.2.2 i h1 h2 h3)
        · exact (j4 (18 + c) (by omega)).2.trans (s5.2.2.1 c hc)
        · exact (j4 f (by omega)).2.trans (s5.2.2.2.1 f hf)
        · exact (j4 i (by omega)).2.trans (s5.2.2.2.2 i h1 h2 h3)
        · have e2 : P' = P := Sum.inr.inj (Option.some.inj z)
          rw [← e2]
          exact ⟨(PK_rd (k + 1) P00 P' B3_00 PK_00 (Nat.zero_le _) hP).1, PX_rd (k + 1) P00 P' B3_00 PK_00 PX_00 (Nat.zero_le _) hP⟩
  refine Ev.post B ?_
  rintro r M1 hO - ⟨rfl, ⟨I', rfl⟩, c3, c4, c5, c6, c7⟩
  have hE := mskC_e c6
  have h0 : Iv (mkP []) (mskC M I') := ⟨hL.1.1, hL.1.2.1, hL.1.2.2.1, fun a k _ => ⟨i32_lo _, i32_hi _⟩⟩
  have h2 : mI (mskC M I') 150 2 = nI (clA n t) := (mskC_t (by decide)).trans c5
  have hR : RefI (mskC M I') := ref_X7 hL.2.1 h0 h2 (clA_b ht) c7 hE
  refine ⟨mskC M I', h (mskC M I') ⟨Iv_keep hL.1 h0 mskC_kp (by decide +kernel), hR, hL.2.2⟩ rfl mskC_kp ⟨h2, fun i hi => ?_⟩ ((mskC_t (by decide)).trans c3) ((mskC_t (by decide)).trans c4) hE (fun P z => (c7 P z).1), rfl, fun a i => hO a i, agr_I hL.1 hL.2.2 (fun a k _ _ hk => mskC_a (fun a i z1 z2 => eX7_i c6 a i z1 z2) a k hk)⟩
  rw [mskC_f (show inm msC 151 i = false from rfl)]
  refine h6.2 i (Nat.lt_of_lt_of_le hi ?_)
  unfold clA
  split <;> omega
theorem j7_close (d : Nat) {n : Int32} (hL : LPm M) (h6 : T7 t b M) (ht : t ≤ 900) (h : ∀ M', LPm M' → M'.1 = M.1 → kp msC M M' → T7 (clA n t) b M' → mI M' 150 9 = cF (cO b n t) (mI M 150 9) → mI M' 150 11 = clT (cO b n t) → (∃ M'', eX7 (cO b n t) M M'' ∧ M''.1 = M.1 ∧ agr M' M'') → kr (some (.int (cA (cO b n t)))) M') : Ev l X uX7_close (d + 12) true 0 0 [.ref 150, .int n] M kr :=
  s7_close d hL h6 ht (fun M' h1 h2 h3 h4 h5 h6 h7 _ => h M' h1 h2 h3 h4 h5 h6 ⟨M', h7, h2, agr_rf M'⟩)
end JCL
