/-! places of the structure; exact and interval contracts of feed and close joined -/
section JOIN
theorem Ev.imp {l : Launch} {X : Nat × (Nat → Int32)} {q : Md} {d mc ms : Nat} {na : Bool} {av : List Value} {M : Mm} {kr kr' : KR} (h : Ev l X q d na mc ms av M kr) (hk : ∀ r M', kr r M' → kr' r M') : Ev l X q d na mc ms av M kr' := by
  intro D g ad A p e ha hc hk' s m args below hf hS hP hK
  obtain ⟨n, o, w, r, en, ⟨r1, M1, ad1, u1, w1, z1⟩, q2⟩ := h D g ad A p e ha hc hk' s m args below hf hS hP hK
  exact ⟨n, o, w, r, en, ⟨r1, M1, ad1, u1, hk _ _ w1, z1⟩, q2⟩
/-- an int lies at place k of name a; a reference does -/
def isI (a k : Nat) : Bool := cond (Nat.blt (kdT a).1 8) (Nat.blt k (tf (kdT a).1).length && Nat.beq ((tf (kdT a).1).getD k 0) 0) (cond (Nat.blt (kdT a).1 10) (Nat.blt k (kdT a).2) false)
def isR (a k : Nat) : Bool := cond (Nat.blt (kdT a).1 8) (Nat.blt k (tf (kdT a).1).length && Nat.beq ((tf (kdT a).1).getD k 0) 2) (cond (Nat.blt 10 (kdT a).1) (Nat.blt k (kdT a).2) false)
variable {R : List (Nat × List Row)} {M M' M'' : Mm}
theorem ag_I (hI : Iv (mkP R) M') (hN : mN M' = 167) (h : agr M' M'') {a k : Nat} (a0 : 0 < a) (a1 : a ≤ 167) (hk : isI a k = true) : mI M' a k = mI M'' a k := by
  have q := h a a0 (by omega)
  have e : mK M' a = kdT a := hI.2.1 a a1
  unfold agA at q
  rw [e] at q
  unfold isI at hk
  cases h8 : Nat.blt (kdT a).1 8 with
  | true =>
    rw [h8] at hk
    obtain ⟨x, y⟩ := Bool.and_eq_true_iff.mp hk
    have z := q.1 (Nat.le_of_ble_eq_true h8) k (Nat.le_of_ble_eq_true x)
    rw [Nat.eq_of_beq_eq_true y] at z
    exact Value.int.inj z
  | false =>
    rw [h8] at hk
    cases h10 : Nat.blt (kdT a).1 10 with
    | true =>
      rw [h10] at hk
      have g1 : ¬ (kdT a).1 < 8 := by
        intro w
        rw [show Nat.blt (kdT a).1 8 = true from Nat.ble_eq_true_of_le w] at h8
        cases h8
      have g2 : (kdT a).1 < 10 := Nat.le_of_ble_eq_true h10
      exact q.2.2.1 (by omega) k (Nat.le_of_ble_eq_true hk)
    | false =>
      rw [h10] at hk
      cases hk
theorem ag_R (hI : Iv (mkP R) M') (hN : mN M' = 167) (h : agr M' M'') {a k : Nat} (a0 : 0 < a) (a1 : a ≤ 167) (hk : isR a k = true) : mR M' a k = mR M'' a k := by
  have q := h a a0 (by omega)
  have e : mK M' a = kdT a := hI.2.1 a a1
  unfold agA at q
  rw [e] at q
  unfold isR at hk
  cases h8 : Nat.blt (kdT a).1 8 with
  | true =>
    rw [h8] at hk
    obtain ⟨x, y⟩ := Bool.and_eq_true_iff.mp hk
    have z := q.1 (Nat.le_of_ble_eq_true h8) k (Nat.le_of_ble_eq_true x)
    rw [Nat.eq_of_beq_eq_true y] at z
    exact Value.ref.inj z
  | false =>
    rw [h8] at hk
    cases h10 : Nat.blt 10 (kdT a).1 with
    | true =>
      rw [h10] at hk
      exact q.2.2.2 (Nat.le_of_ble_eq_true h10) k (Nat.le_of_ble_eq_true hk)
    | false =>
      rw [h10] at hk
      cases hk
/-- the base of the law's states -/
def LPm (M : Mm) : Prop := Iv Pt8 M ∧ RefI M ∧ FM M
theorem LPm_e (h : LPm M) : eO 1 M := by
  obtain ⟨p, hp, -⟩ := h.2.1
  exact hp.2
theorem FM_kp {ms : Md3} (hF : FM M) (h1 : M'.1 = M.1) (hk : kp ms M M') (k1 : inm ms 1 1 = false) (k2 : inm ms 1 2 = false) : FM M' := by
  refine ⟨(congrArg (fun x => x.1) h1).trans hF.1, ?_⟩
  rw [(hk 1 1 k1).2.1, (hk 1 2 k2).2.1]
  exact hF.2
theorem kp_rf {ms : Md3} : kp ms M M := fun _ _ _ => ⟨rfl, rfl, rfl⟩
def T6 (t : Nat) (b : Nat → Nat) (M : Mm) : Prop := mI M 2 1 = nI t ∧ ∀ i, i < t → b i < 256 ∧ mI M 3 i = sb (b i)
def T7 (t : Nat) (b : Nat → Nat) (M : Mm) : Prop := mI M 150 2 = nI t ∧ ∀ i, i < t → b i < 256 ∧ mI M 151 i = nI (b i)
/-! feed -/
def fdB (b : Nat → Nat) (t : Nat) (x1 x2 x3 x4 x5 : Int32) : Nat → Nat := fun i => if i < t then b i else b20 x1 x2 x3 x4 x5 (i - t)
theorem b20_lt (x1 x2 x3 x4 x5 : Int32) (k : Nat) : b20 x1 x2 x3 x4 x5 k < 256 := lb_256 _
variable {l : Launch} {X : Nat × (Nat → Int32)} {kr : KR} {t : Nat} {b : Nat → Nat}
theorem j6_feed (d : Nat) {x1 x2 x3 x4 x5 : Int32} (hL : LPm M) (h6 : T6 t b M) (ht : t ≤ 900) (h : ∀ M', LPm M' → M'.1 = M.1 → kp msF M M' → T6 (fdA t) (fdB b t x1 x2 x3 x4 x5) M' → kr (some (.int (fdR t))) M') : Ev l X uX6_feed (d + 12) true 0 0 [.ref 1, .int x1, .int x2, .int x3, .int x4, .int x5] M kr := by
  have A : Ev l X uX6_feed (d + 12) true 0 0 [.ref 1, .int x1, .int x2, .int x3, .int x4, .int x5] M (fun r M' => ∃ x : Int32, r = some (.int x) ∧ (Iv Pt8 M' ∧ RefI M' ∧ M'.1 = M.1 ∧ kp msF M M' ∧ mI M' 2 1 = nI (fdA t))) := by
    refine fd6 (d := d + 11) (e := 1) hL.1 (LPm_e hL) h6.1 ht (fun z => ?_) (fun M' z hJ ht' => ?_)
    · exact ⟨_, rfl, hL.1, hL.2.1, rfl, kp_rf, by rw [show fdA t = t by unfold fdA; rw [if_neg (by omega)]]; exact h6.1⟩
    · exact ⟨_, rfl, hJ.2.1, RefI_keep hL.2.1 hJ.2.1 hJ.2.2.1 (by decide +kernel), hJ.1, hJ.2.2.1, by rw [show fdA t = t + 20 by unfold fdA; rw [if_pos z]]; exact ht'⟩
  have B : Ev l X uX6_feed (d + 12) true 0 0 [.ref 1, .int x1, .int x2, .int x3, .int x4, .int x5] M (fun r M' => ∃ x : Int32, r = some (.int x) ∧ (x = fdR t ∧ ∀ i, i < fdA t → fdB b t x1 x2 x3 x4 x5 i < 256 ∧ mI M' 3 i = sb (fdB b t x1 x2 x3 x4 x5 i))) := by
    refine Ev.ofm hL.1 hL.2.2 ?_
    show Ev l X uX6_feed (d + 12) true 0 0 [.ref 1, .int x1, .int x2, .int x3, .int x4, .int x5] (mk (mC M, mS M) (mR M 1 1) (mR M 2 3) (mI M) (mL M)) _
    refine x_feed (d := d + 11) (t := t) h6.1 ht (fun z => ⟨_, rfl, ?_, fun i hi => ?_⟩) (fun z I' i1 i2 i3 => ⟨_, rfl, ?_, fun i hi => ?_⟩)
    · unfold fdR
      rw [if_neg (by omega)]
    · rw [show fdA t = t by unfold fdA; rw [if_neg (by omega)]] at hi
      unfold fdB
      rw [if_pos hi]
      exact h6.2 i hi
    · unfold fdR
      rw [if_pos z]
    · rw [show fdA t = t + 20 by unfold fdA; rw [if_pos z]] at hi
      show _ ∧ I' 3 i = _
      unfold fdB
      by_cases c : i < t
      · rw [if_pos c, i1 3 i (by omega) (by omega)]
        exact h6.2 i c
      · rw [if_neg c]
        refine ⟨b20_lt _ _ _ _ _ _, ?_⟩
        have := i3 (i - t) (by omega)
        rw [show t + (i - t) = i by omega] at this
        exact this
  refine Ev.imp (Ev.both A B) ?_
  rintro r M' ⟨x, rfl, ⟨a1, a2, a3, a4, a5⟩, M'', ⟨rfl, c2⟩, c3, c4⟩
  have hF := FM_kp hL.2.2 a3 a4 rfl rfl
  refine h M' ⟨a1, a2, hF⟩ a3 a4 ⟨a5, fun i hi => ⟨(c2 i hi).1, ?_⟩⟩
  rw [ag_I a1 hF.1 c4 (by decide) (by decide) (show isI 3 i = true from Nat.ble_eq_true_of_le (Nat.lt_of_lt_of_le hi (fdA_b ht)))]
  exact (c2 i hi).2
theorem j7_feed (d : Nat) {x1 x2 x3 x4 x5 : Int32} (hL : LPm M) (h6 : T7 t b M) (ht : t ≤ 900) (h : ∀ M', LPm M' → M'.1 = M.1 → kp msG M M' → T7 (fdA t) (fdB b t x1 x2 x3 x4 x5) M' → kr (some (.int (fdR t))) M') : Ev l X uX7_feed (d + 12) true 0 0 [.ref 150, .int x1, .int x2, .int x3, .int x4, .int x5] M kr := by
  have A : Ev l X uX7_feed (d + 12) true 0 0 [.ref 150, .int x1, .int x2, .int x3, .int x4, .int x5] M (fun r M' => ∃ x : Int32, r = some (.int x) ∧ (Iv Pt8 M' ∧ RefI M' ∧ M'.1 = M.1 ∧ kp msG M M' ∧ mI M' 150 2 = nI (fdA t))) := by
    obtain ⟨p, hp, hI⟩ := hL.2.1
    obtain ⟨p1, p2, p3⟩ := rwx_f hp.1
    refine fd7 (d := d + 12) (e := 1) p1 p2 p3 hI (LPm_e hL) h6.1 ht (fun M' z hJ ht' => ?_) (fun M' z hJ ht' => ?_)
    · exact ⟨_, rfl, Iv_keep hL.1 hJ.2.1 hJ.2.2.1 (by decide +kernel), ⟨p, ⟨hp.1, hJ.2.2.2⟩, hJ.2.1⟩, hJ.1, hJ.2.2.1, by rw [show fdA t = t by unfold fdA; rw [if_neg (by omega)]]; exact ht'⟩
    · exact ⟨_, rfl, Iv_keep hL.1 hJ.2.1 hJ.2.2.1 (by decide +kernel), ⟨p, ⟨hp.1, hJ.2.2.2⟩, hJ.2.1⟩, hJ.1, hJ.2.2.1, by rw [show fdA t = t + 20 by unfold fdA; rw [if_pos z]]; exact ht'⟩
  have B : Ev l X uX7_feed (d + 12) true 0 0 [.ref 150, .int x1, .int x2, .int x3, .int x4, .int x5] M (fun r M' => ∃ x : Int32, r = some (.int x) ∧ (x = fdR t ∧ ∀ i, i < fdA t → fdB b t x1 x2 x3 x4 x5 i < 256 ∧ mI M' 151 i = nI (fdB b t x1 x2 x3 x4 x5 i))) := by
    refine Ev.ofm hL.1 hL.2.2 ?_
    show Ev l X uX7_feed (d + 12) true 0 0 [.ref 150, .int x1, .int x2, .int x3, .int x4, .int x5] (mk (mC M, mS M) (mR M 1 1) (mR M 2 3) (mI M) (mL M)) _
    refine y_feed (d := d + 12) (t := t) h6.1 ht (fun z => ⟨_, rfl, ?_, fun i hi => ?_⟩) (fun z I' i1 i0 i2 i3 => ⟨_, rfl, ?_, fun i hi => ?_⟩)
    · unfold fdR
      rw [if_neg (by omega)]
    · rw [show fdA t = t by unfold fdA; rw [if_neg (by omega)]] at hi
      show _ ∧ u2 (mI M) 150 0 0 151 i = _
      unfold fdB
      rw [if_pos hi, u2_o (by omega)]
      exact h6.2 i hi
    · unfold fdR
      rw [if_pos z]
    · rw [show fdA t = t + 20 by unfold fdA; rw [if_pos z]] at hi
      show _ ∧ I' 151 i = _
      unfold fdB
      by_cases c : i < t
      · rw [if_pos c, i1 151 i (by omega) (by omega)]
        exact h6.2 i c
      · rw [if_neg c]
        refine ⟨b20_lt _ _ _ _ _ _, ?_⟩
        have := i3 (i - t) (by omega)
        rw [show t + (i - t) = i by omega] at this
        exact this
  refine Ev.imp (Ev.both A B) ?_
  rintro r M' ⟨x, rfl, ⟨a1, a2, a3, a4, a5⟩, M'', ⟨rfl, c2⟩, c3, c4⟩
  have hF := FM_kp hL.2.2 a3 a4 rfl rfl
  refine h M' ⟨a1, a2, hF⟩ a3 a4 ⟨a5, fun i hi => ⟨(c2 i hi).1, ?_⟩⟩
  rw [ag_I a1 hF.1 c4 (by decide) (by decide) (show isI 151 i = true from Nat.ble_eq_true_of_le (Nat.lt_of_lt_of_le hi (fdA_b ht)))]
  exact (c2 i hi).2
end JOIN
