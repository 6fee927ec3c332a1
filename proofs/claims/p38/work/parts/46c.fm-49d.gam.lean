section
/-! a memory of the law's states has the places of one of the form mk; exact specs hold over it -/
section TOMK
theorem cle' {b : Bool} {x y n : Nat} (hx : x ≤ n) (hy : y ≤ n) : cond b x y ≤ n := by
  cases b
  · exact hy
  · exact hx
theorem blt_f {i n : Nat} (h : n ≤ i) : Nat.blt i n = false := by
  cases hb : Nat.blt i n with
  | true => exact absurd (Nat.le_of_ble_eq_true hb) (by omega)
  | false => rfl
theorem arr_le {k n c m : Nat} (h : ∀ j, j < n → c + m * j ≤ 167) : cond (Nat.blt k n) (c + m * k) 0 ≤ 167 := by
  cases hb : Nat.blt k n with
  | true => exact h k (Nat.le_of_ble_eq_true hb)
  | false => exact Nat.zero_le _
theorem kO_38 {p r k : Nat} (hp : p ≤ 100) (hr : r ≤ 100) : R0_38 p r k ≤ 167 := arr_le (n := 16) (c := 55) (m := 5) (fun j hj => by omega)
theorem kO_39 {p r k : Nat} (hp : p ≤ 100) (hr : r ≤ 100) : R0_39 p r k ≤ 167 := arr_le (n := 3) (c := 135) (m := 5) (fun j hj => by omega)
theorem kO_44 {p r k : Nat} (hp : p ≤ 100) (hr : r ≤ 100) : R0_44 p r k ≤ 167 := by
  unfold R0_44
  cases hb : Nat.blt k 6 with
  | true => have := Nat.le_of_ble_eq_true hb; show 45 + k ≤ 167; omega
  | false => exact Nat.zero_le _
set_option maxRecDepth 20000 in
theorem kO_mk {w : Nat × Nat} {p r : Nat} {I : Nat → Nat → Int32} {L : Nat → Nat → Int64} (hp : p ≤ 100) (hr : r ≤ 100) : kO (mk w p r I L) := by
  intro a i
  show R0 p r a i ≤ 167
  unfold R0
  repeat' (first | exact kO_38 hp hr | exact kO_39 hp hr | exact kO_44 hp hr | refine cle' ?_ ?_ | exact Nat.zero_le _ | exact Nat.le_of_ble_eq_true rfl | omega)
theorem tf_len (c : Nat) : (tf c).length ≤ 44 := by
  unfold tf
  split <;> decide
theorem en_eq {g : Nat → ClassId} {ad : Nat → Nat} {M M' : Mm} {a : Nat} (h0 : mK M' a = mK M a) (h1 : mI M' a = mI M a) (h2 : mL M' a = mL M a) (h3 : ∀ i, i < 50 → mR M' a i = mR M a i) (h4 : 10 < (mK M a).1 → mR M' a = mR M a) : en g ad M' a = en g ad M a := by
  unfold en
  rw [h0, h1, h2]
  split
  · congr 2
    unfold eo
    refine List.map_congr_left fun k hk => ?_
    have hk := List.mem_range.mp hk
    have := tf_len (mK M a).1
    unfold sv
    rw [h1, h2, h3 k (by omega)]
  · split
    · rfl
    · split
      · rfl
      · have e : er ad M' a = er ad M a := by unfold er; rw [h4 (by omega)]
        rw [e]
theorem K0_T : ∀ a, a < 168 → K0 a = kdT a := by decide +kernel
theorem K0_A : ∀ a, a < 168 → 10 < (K0 a).1 → a = 38 ∨ a = 39 ∨ a = 44 := by decide +kernel
noncomputable def R0ok (p r : Nat) : Bool := (List.range 168).all (fun a => (List.range 50).all (fun i => (Nat.beq a 1 && (Nat.beq i 1 || Nat.beq i 2)) || ((Nat.beq a 2 && Nat.beq i 3) || Nat.beq (R0 p r a i) ((rfT a).getD i 0))))
theorem R0_T {p r : Nat} (h : R0ok p r = true) {a i : Nat} (ha : a < 168) (hi : i < 50) (h1 : ¬ (a = 1 ∧ (i = 1 ∨ i = 2))) (h2 : ¬ (a = 2 ∧ i = 3)) : R0 p r a i = (rfT a).getD i 0 := by
  have q := List.all_eq_true.mp (List.all_eq_true.mp h a (List.mem_range.mpr ha)) i (List.mem_range.mpr hi)
  rcases Bool.or_eq_true_iff.mp q with q | q
  · obtain ⟨x, y⟩ := Bool.and_eq_true_iff.mp q
    rcases Bool.or_eq_true_iff.mp y with y | y
    · exact absurd ⟨Nat.eq_of_beq_eq_true x, Or.inl (Nat.eq_of_beq_eq_true y)⟩ h1
    · exact absurd ⟨Nat.eq_of_beq_eq_true x, Or.inr (Nat.eq_of_beq_eq_true y)⟩ h1
  · rcases Bool.or_eq_true_iff.mp q with q | q
    · obtain ⟨x, y⟩ := Bool.and_eq_true_iff.mp q
      exact absurd ⟨Nat.eq_of_beq_eq_true x, Nat.eq_of_beq_eq_true y⟩ h2
    · exact Nat.eq_of_beq_eq_true q
theorem R0_ok {p r : Nat} (hp : p = 7 ∨ p = 20) (hr : r = 0 ∨ r = 7 ∨ r = 20) : R0ok p r = true := by
  rcases hp with rfl | rfl <;> rcases hr with rfl | rfl | rfl <;> decide +kernel
theorem mem7 {p : Nat} (h : p ∈ [7, 20]) : p = 7 ∨ p = 20 := by
  rcases List.mem_cons.mp h with h | h
  · exact Or.inl h
  · exact Or.inr (List.mem_singleton.mp h)
theorem rfT_l : ∀ a, a < 168 → (rfT a).length ≤ 50 := by decide +kernel
theorem gd_out {xs : List Nat} {i : Nat} (h : xs.length ≤ i) : xs.getD i 0 = 0 := by
  rw [List.getD_eq_getElem?_getD, List.getElem?_eq_none h]
  rfl
theorem Iv_R {P : List (Nat × List Row)} {M : Mm} (h : Iv (mkP P) M) {a k : Nat} (ha : a ≤ 167) (h1 : ¬ (a = 1 ∧ (k = 1 ∨ k = 2))) (h2 : ¬ (a = 2 ∧ k = 3)) : mR M a k = (rfT a).getD k 0 := by
  have q := h.2.2.1 a k ha
  have e : rfN a k = [(rfT a).getD k 0] := by
    unfold rfN
    have e1 : (Nat.beq a 1 && (Nat.beq k 1 || Nat.beq k 2)) = false := by
      cases hb : (Nat.beq a 1 && (Nat.beq k 1 || Nat.beq k 2)) with
      | false => rfl
      | true =>
        obtain ⟨x, y⟩ := Bool.and_eq_true_iff.mp hb
        rcases Bool.or_eq_true_iff.mp y with y | y
        · exact absurd ⟨Nat.eq_of_beq_eq_true x, Or.inl (Nat.eq_of_beq_eq_true y)⟩ h1
        · exact absurd ⟨Nat.eq_of_beq_eq_true x, Or.inr (Nat.eq_of_beq_eq_true y)⟩ h1
    have e2 : (Nat.beq a 2 && Nat.beq k 3) = false := by
      cases hb : (Nat.beq a 2 && Nat.beq k 3) with
      | false => rfl
      | true =>
        obtain ⟨x, y⟩ := Bool.and_eq_true_iff.mp hb
        exact absurd ⟨Nat.eq_of_beq_eq_true x, Nat.eq_of_beq_eq_true y⟩ h2
    rw [e1, e2]
    rfl
  have q : mR M a k ∈ rfN a k := q
  rw [e] at q
  exact List.mem_singleton.mp q
theorem Iv_p {P : List (Nat × List Row)} {M : Mm} (h : Iv (mkP P) M) : mR M 1 1 = 7 ∨ mR M 1 1 = 20 := mem7 (h.2.2.1 1 1 (by decide))
theorem Iv_r {P : List (Nat × List Row)} {M : Mm} (h : Iv (mkP P) M) : mR M 2 3 = 0 ∨ mR M 2 3 = 7 ∨ mR M 2 3 = 20 := by
  have q : mR M 2 3 ∈ [0, 7, 20] := h.2.2.1 2 3 (by decide)
  rcases List.mem_cons.mp q with e | q
  · exact Or.inl e
  · exact Or.inr (mem7 q)
/-- the memory's own form -/
noncomputable def ffm (M : Mm) : Mm := mk (mC M, mS M) (mR M 1 1) (mR M 2 3) (mI M) (mL M)
/-- the law's states: no name more, the spare plan is the other one -/
noncomputable def FM (M : Mm) : Prop := mN M = 167 ∧ mR M 1 2 = 27 - mR M 1 1
theorem fm_R {P : List (Nat × List Row)} {M : Mm} (h : Iv (mkP P) M) (hF : FM M) {a i : Nat} (ha : a ≤ 167) (hi : i < 50) : R0 (mR M 1 1) (mR M 2 3) a i = mR M a i := by
  by_cases c : a = 1 ∧ (i = 1 ∨ i = 2)
  · obtain ⟨rfl, rfl | rfl⟩ := c
    · rfl
    · exact hF.2.symm
  · by_cases c2 : a = 2 ∧ i = 3
    · obtain ⟨rfl, rfl⟩ := c2
      rfl
    · rw [R0_T (R0_ok (Iv_p h) (Iv_r h)) (by omega) hi c c2, Iv_R h ha c c2]
theorem fm_wl {P : List (Nat × List Row)} {M : Mm} (h : Iv (mkP P) M) (hF : FM M) (g : Nat → ClassId) (ad : Nat → Nat) : wl g ad (ffm M) = wl g ad M := by
  unfold wl
  rw [hF.1]
  refine List.map_congr_left fun i hi => ?_
  have hi : i < 167 := List.mem_range.mp hi
  have eK : mK M (i + 1) = K0 (i + 1) := (h.2.1 (i + 1) (by omega)).trans (K0_T (i + 1) (by omega)).symm
  have key : en g ad (ffm M) (i + 1) = en g ad M (i + 1) := by
    refine en_eq (M := M) (M' := ffm M) eK.symm rfl rfl (fun j hj => fm_R h hF (by omega) hj) (fun hk => ?_)
    rw [eK] at hk
    funext j
    by_cases hj : j < 50
    · exact fm_R h hF (by omega) hj
    · rw [Iv_R h (by omega) (by omega) (by omega), gd_out (Nat.le_trans (rfT_l (i + 1) (by omega)) (by omega))]
      rcases K0_A (i + 1) (by omega) hk with e | e | e
      · rw [e]
        show cond (Nat.blt j 16) _ 0 = 0
        rw [blt_f (by omega)]
        rfl
      · rw [e]
        show cond (Nat.blt j 3) _ 0 = 0
        rw [blt_f (by omega)]
        rfl
      · rw [e]
        show cond (Nat.blt j 6) _ 0 = 0
        rw [blt_f (by omega)]
        rfl
  rw [key]
theorem fm_kO {P : List (Nat × List Row)} {M : Mm} (h : Iv (mkP P) M) : kO (ffm M) := by
  have h1 := Iv_p h
  have h2 := Iv_r h
  exact kO_mk (by omega) (by omega)
variable {l : Launch} {X : Nat × (Nat → Int32)} {q : Md} {d mc ms : Nat} {av : List Value} {M : Mm}
theorem Ev.ofm {P : List (Nat × List Row)} {kr : KR} (h : Iv (mkP P) M) (hF : FM M) (hv : Ev l X q d true mc ms av (ffm M) (fun r M' => kr r (M.1, M'.2))) : Ev l X q d true mc ms av M kr :=
  Ev.cg (M2 := ffm M) hF.1.symm (fun a ha => (K0_T a (by rw [hF.1] at ha; omega)).trans (h.2.1 a (by rw [hF.1] at ha; exact ha)).symm) (fun g ad => fm_wl h hF g ad) (fm_kO h) hv
end TOMK
end
section
/-! places of the structure; exact and interval contracts of feed and close joined -/
section JOIN
theorem Ev.imp {l : Launch} {X : Nat × (Nat → Int32)} {q : Md} {d mc ms : Nat} {na : Bool} {av : List Value} {M : Mm} {kr kr' : KR} (h : Ev l X q d na mc ms av M kr) (hk : ∀ r M', kr r M' → kr' r M') : Ev l X q d na mc ms av M kr' := by
  intro D g ad A p e ha hc hk' s m args below hf hS hP hK
  obtain ⟨n, o, w, r, en, ⟨r1, M1, ad1, u1, w1, z1⟩, q2⟩ := h D g ad A p e ha hc hk' s m args below hf hS hP hK
  exact ⟨n, o, w, r, en, ⟨r1, M1, ad1, u1, hk _ _ w1, z1⟩, q2⟩
/-- an int lies at place k of name a; a reference does -/
noncomputable def isI (a k : Nat) : Bool := cond (Nat.blt (kdT a).1 8) (Nat.blt k (tf (kdT a).1).length && Nat.beq ((tf (kdT a).1).getD k 0) 0) (cond (Nat.blt (kdT a).1 10) (Nat.blt k (kdT a).2) false)
noncomputable def isR (a k : Nat) : Bool := cond (Nat.blt (kdT a).1 8) (Nat.blt k (tf (kdT a).1).length && Nat.beq ((tf (kdT a).1).getD k 0) 2) (cond (Nat.blt 10 (kdT a).1) (Nat.blt k (kdT a).2) false)
variable {R : List (Nat × List Row)} {M M' M'' : Mm}
theorem ag_I (hI : Iv (mkP R) M') (hN : mN M' = 167) (h : agr M' M'') {a k : Nat} (a0 : 0 < a) (a1 : a ≤ 167) (hk : isI a k = true) : mI M' a k = mI M'' a k := by
  have q := h a a0 (by omega)
  have e : mK M' a = kdT a := hI.2.1 a a1
  unfold agA at q
  rw [e] at q
  unfold isI at hk
  cases h8 : Nat.blt (kdT a).1 8 with
  | true =>
    rw [h8] at hk
    obtain ⟨x, y⟩ := Bool.and_eq_true_iff.mp hk
    have z := q.1 (Nat.le_of_ble_eq_true h8) k (Nat.le_of_ble_eq_true x)
    rw [Nat.eq_of_beq_eq_true y] at z
    exact Value.int.inj z
  | false =>
    rw [h8] at hk
    cases h10 : Nat.blt (kdT a).1 10 with
    | true =>
      rw [h10] at hk
      have g1 : ¬ (kdT a).1 < 8 := by
        intro w
        rw [show Nat.blt (kdT a).1 8 = true from Nat.ble_eq_true_of_le w] at h8
        cases h8
      have g2 : (kdT a).1 < 10 := Nat.le_of_ble_eq_true h10
      exact q.2.2.1 (by omega) k (Nat.le_of_ble_eq_true hk)
    | false =>
      rw [h10] at hk
      cases hk
theorem ag_R (hI : Iv (mkP R) M') (hN : mN M' = 167) (h : agr M' M'') {a k : Nat} (a0 : 0 < a) (a1 : a ≤ 167) (hk : isR a k = true) : mR M' a k = mR M'' a k := by
  have q := h a a0 (by omega)
  have e : mK M' a = kdT a := hI.2.1 a a1
  unfold agA at q
  rw [e] at q
  unfold isR at hk
  cases h8 : Nat.blt (kdT a).1 8 with
  | true =>
    rw [h8] at hk
    obtain ⟨x, y⟩ := Bool.and_eq_true_iff.mp hk
    have z := q.1 (Nat.le_of_ble_eq_true h8) k (Nat.le_of_ble_eq_true x)
    rw [Nat.eq_of_beq_eq_true y] at z
    exact Value.ref.inj z
  | false =>
    rw [h8] at hk
    cases h10 : Nat.blt 10 (kdT a).1 with
    | true =>
      rw [h10] at hk
      exact q.2.2.2 (Nat.le_of_ble_eq_true h10) k (Nat.le_of_ble_eq_true hk)
    | false =>
      rw [h10] at hk
      cases hk
/-- the base of the law's states -/
noncomputable def LPm (M : Mm) : Prop := Iv Pt8 M ∧ RefI M ∧ FM M
theorem LPm_e (h : LPm M) : eO 1 M := by
  obtain ⟨p, hp, -⟩ := h.2.1
  exact hp.2
theorem FM_kp {ms : Md3} (hF : FM M) (h1 : M'.1 = M.1) (hk : kp ms M M') (k1 : inm ms 1 1 = false) (k2 : inm ms 1 2 = false) : FM M' := by
  refine ⟨(congrArg (fun x => x.1) h1).trans hF.1, ?_⟩
  rw [(hk 1 1 k1).2.1, (hk 1 2 k2).2.1]
  exact hF.2
theorem kp_rf {ms : Md3} : kp ms M M := fun _ _ _ => ⟨rfl, rfl, rfl⟩
noncomputable def T6 (t : Nat) (b : Nat → Nat) (M : Mm) : Prop := mI M 2 1 = nI t ∧ ∀ i, i < t → b i < 256 ∧ mI M 3 i = sb (b i)
noncomputable def T7 (t : Nat) (b : Nat → Nat) (M : Mm) : Prop := mI M 150 2 = nI t ∧ ∀ i, i < t → b i < 256 ∧ mI M 151 i = nI (b i)
/-! feed -/
noncomputable def fdB (b : Nat → Nat) (t : Nat) (x1 x2 x3 x4 x5 : Int32) : Nat → Nat := fun i => if i < t then b i else b20 x1 x2 x3 x4 x5 (i - t)
theorem b20_lt (x1 x2 x3 x4 x5 : Int32) (k : Nat) : b20 x1 x2 x3 x4 x5 k < 256 := lb_256 _
variable {l : Launch} {X : Nat × (Nat → Int32)} {kr : KR} {t : Nat} {b : Nat → Nat}
theorem j6_feed (d : Nat) {x1 x2 x3 x4 x5 : Int32} (hL : LPm M) (h6 : T6 t b M) (ht : t ≤ 900) (h : ∀ M', LPm M' → M'.1 = M.1 → kp msF M M' → T6 (fdA t) (fdB b t x1 x2 x3 x4 x5) M' → kr (some (.int (fdR t))) M') : Ev l X uX6_feed (d + 12) true 0 0 [.ref 1, .int x1, .int x2, .int x3, .int x4, .int x5] M kr := by
  have A : Ev l X uX6_feed (d + 12) true 0 0 [.ref 1, .int x1, .int x2, .int x3, .int x4, .int x5] M (fun r M' => ∃ x : Int32, r = some (.int x) ∧ (Iv Pt8 M' ∧ RefI M' ∧ M'.1 = M.1 ∧ kp msF M M' ∧ mI M' 2 1 = nI (fdA t))) := by
    refine fd6 (d := d + 11) (e := 1) hL.1 (LPm_e hL) h6.1 ht (fun z => ?_) (fun M' z hJ ht' => ?_)
    · exact ⟨_, rfl, hL.1, hL.2.1, rfl, kp_rf, by rw [show fdA t = t by unfold fdA; rw [if_neg (by omega)]]; exact h6.1⟩
    · exact ⟨_, rfl, hJ.2.1, RefI_keep hL.2.1 hJ.2.1 hJ.2.2.1 (by decide +kernel), hJ.1, hJ.2.2.1, by rw [show fdA t = t + 20 by unfold fdA; rw [if_pos z]]; exact ht'⟩
  have B : Ev l X uX6_feed (d + 12) true 0 0 [.ref 1, .int x1, .int x2, .int x3, .int x4, .int x5] M (fun r M' => ∃ x : Int32, r = some (.int x) ∧ (x = fdR t ∧ ∀ i, i < fdA t → fdB b t x1 x2 x3 x4 x5 i < 256 ∧ mI M' 3 i = sb (fdB b t x1 x2 x3 x4 x5 i))) := by
    refine Ev.ofm hL.1 hL.2.2 ?_
    show Ev l X uX6_feed (d + 12) true 0 0 [.ref 1, .int x1, .int x2, .int x3, .int x4, .int x5] (mk (mC M, mS M) (mR M 1 1) (mR M 2 3) (mI M) (mL M)) _
    refine x_feed (d := d + 11) (t := t) h6.1 ht (fun z => ⟨_, rfl, ?_, fun i hi => ?_⟩) (fun z I' i1 i2 i3 => ⟨_, rfl, ?_, fun i hi => ?_⟩)
    · unfold fdR
      rw [if_neg (by omega)]
    · rw [show fdA t = t by unfold fdA; rw [if_neg (by omega)]] at hi
      unfold fdB
      rw [if_pos hi]
      exact h6.2 i hi
    · unfold fdR
      rw [if_pos z]
    · rw [show fdA t = t + 20 by unfold fdA; rw [if_pos z]] at hi
      show _ ∧ I' 3 i = _
      unfold fdB
      by_cases c : i < t
      · rw [if_pos c, i1 3 i (by omega) (by omega)]
        exact h6.2 i c
      · rw [if_neg c]
        refine ⟨b20_lt _ _ _ _ _ _, ?_⟩
        have := i3 (i - t) (by omega)
        rw [show t + (i - t) = i by omega] at this
        exact this
  refine Ev.imp (Ev.both A B) ?_
  rintro r M' ⟨x, rfl, ⟨a1, a2, a3, a4, a5⟩, M'', ⟨rfl, c2⟩, c3, c4⟩
  have hF := FM_kp hL.2.2 a3 a4 rfl rfl
  refine h M' ⟨a1, a2, hF⟩ a3 a4 ⟨a5, fun i hi => ⟨(c2 i hi).1, ?_⟩⟩
  rw [ag_I a1 hF.1 c4 (by decide) (by decide) (show isI 3 i = true from Nat.ble_eq_true_of_le (Nat.lt_of_lt_of_le hi (fdA_b ht)))]
  exact (c2 i hi).2
theorem j7_feed (d : Nat) {x1 x2 x3 x4 x5 : Int32} (hL : LPm M) (h6 : T7 t b M) (ht : t ≤ 900) (h : ∀ M', LPm M' → M'.1 = M.1 → kp msG M M' → T7 (fdA t) (fdB b t x1 x2 x3 x4 x5) M' → kr (some (.int (fdR t))) M') : Ev l X uX7_feed (d + 12) true 0 0 [.ref 150, .int x1, .int x2, .int x3, .int x4, .int x5] M kr := by
  have A : Ev l X uX7_feed (d + 12) true 0 0 [.ref 150, .int x1, .int x2, .int x3, .int x4, .int x5] M (fun r M' => ∃ x : Int32, r = some (.int x) ∧ (Iv Pt8 M' ∧ RefI M' ∧ M'.1 = M.1 ∧ kp msG M M' ∧ mI M' 150 2 = nI (fdA t))) := by
    obtain ⟨p, hp, hI⟩ := hL.2.1
    obtain ⟨p1, p2, p3⟩ := rwx_f hp.1
    refine fd7 (d := d + 12) (e := 1) p1 p2 p3 hI (LPm_e hL) h6.1 ht (fun M' z hJ ht' => ?_) (fun M' z hJ ht' => ?_)
    · exact ⟨_, rfl, Iv_keep hL.1 hJ.2.1 hJ.2.2.1 (by decide +kernel), ⟨p, ⟨hp.1, hJ.2.2.2⟩, hJ.2.1⟩, hJ.1, hJ.2.2.1, by rw [show fdA t = t by unfold fdA; rw [if_neg (by omega)]]; exact ht'⟩
    · exact ⟨_, rfl, Iv_keep hL.1 hJ.2.1 hJ.2.2.1 (by decide +kernel), ⟨p, ⟨hp.1, hJ.2.2.2⟩, hJ.2.1⟩, hJ.1, hJ.2.2.1, by rw [show fdA t = t + 20 by unfold fdA; rw [if_pos z]]; exact ht'⟩
  have B : Ev l X uX7_feed (d + 12) true 0 0 [.ref 150, .int x1, .int x2, .int x3, .int x4, .int x5] M (fun r M' => ∃ x : Int32, r = some (.int x) ∧ (x = fdR t ∧ ∀ i, i < fdA t → fdB b t x1 x2 x3 x4 x5 i < 256 ∧ mI M' 151 i = nI (fdB b t x1 x2 x3 x4 x5 i))) := by
    refine Ev.ofm hL.1 hL.2.2 ?_
    show Ev l X uX7_feed (d + 12) true 0 0 [.ref 150, .int x1, .int x2, .int x3, .int x4, .int x5] (mk (mC M, mS M) (mR M 1 1) (mR M 2 3) (mI M) (mL M)) _
    refine y_feed (d := d + 12) (t := t) h6.1 ht (fun z => ⟨_, rfl, ?_, fun i hi => ?_⟩) (fun z I' i1 i0 i2 i3 => ⟨_, rfl, ?_, fun i hi => ?_⟩)
    · unfold fdR
      rw [if_neg (by omega)]
    · rw [show fdA t = t by unfold fdA; rw [if_neg (by omega)]] at hi
      show _ ∧ u2 (mI M) 150 0 0 151 i = _
      unfold fdB
      rw [if_pos hi, u2_o (by omega)]
      exact h6.2 i hi
    · unfold fdR
      rw [if_pos z]
    · rw [show fdA t = t + 20 by unfold fdA; rw [if_pos z]] at hi
      show _ ∧ I' 151 i = _
      unfold fdB
      by_cases c : i < t
      · rw [if_pos c, i1 151 i (by omega) (by omega)]
        exact h6.2 i c
      · rw [if_neg c]
        refine ⟨b20_lt _ _ _ _ _ _, ?_⟩
        have := i3 (i - t) (by omega)
        rw [show t + (i - t) = i by omega] at this
        exact this
  refine Ev.imp (Ev.both A B) ?_
  rintro r M' ⟨x, rfl, ⟨a1, a2, a3, a4, a5⟩, M'', ⟨rfl, c2⟩, c3, c4⟩
  have hF := FM_kp hL.2.2 a3 a4 rfl rfl
  refine h M' ⟨a1, a2, hF⟩ a3 a4 ⟨a5, fun i hi => ⟨(c2 i hi).1, ?_⟩⟩
  rw [ag_I a1 hF.1 c4 (by decide) (by decide) (show isI 151 i = true from Nat.ble_eq_true_of_le (Nat.lt_of_lt_of_le hi (fdA_b ht)))]
  exact (c2 i hi).2
end JOIN
end
section
/-! the memory of an end may be changed at places that the structure doesn't have -/
section PST2
theorem arrV_cg {cI : ClassId} {n : Nat} {f f' : Nat → Value} (h : ∀ j, j < n → f j = f' j) : arrV cI n f = arrV cI n f' := by
  have e : (fun j : Fin n => f j.val) = fun j => f' j.val := funext fun j => h j.val j.isLt
  unfold arrV
  rw [e]
theorem vaP_ag {D : va_G} {g : Nat → ClassId} {ad : Nat → Nat} {M1 M2 : Mm} {H : Heap} (he : M2.1 = M1.1) (ha : agr M1 M2) (h : va_P D vwCl (wl g ad M1) H) : va_P D vwCl (wl g ad M2) H := by
  intro k q hq
  have eN : mN M2 = mN M1 := congrArg (fun x => x.1) he
  have hk : k < mN M2 := by
    rcases Nat.lt_or_ge k (mN M2) with c | c
    · exact c
    · rw [List.getElem?_eq_none (by unfold wl; rw [List.length_map, List.length_range]; exact c)] at hq
      cases hq
  have e2 := wl_at (g := g) (ad := ad) (M := M2) (a := k + 1) (Nat.succ_pos _) hk
  rw [Nat.add_sub_cancel] at e2
  have eq := Option.some.inj (hq.symm.trans e2)
  subst eq
  have e1 := wl_at (g := g) (ad := ad) (M := M1) (a := k + 1) (Nat.succ_pos _) (by omega)
  rw [Nat.add_sub_cancel] at e1
  have q1 := h _ _ e1
  have eK : mK M2 (k + 1) = mK M1 (k + 1) := congrArg (fun x => x.2.2.2 (k + 1)) he
  obtain ⟨a1, a2, a3, a4⟩ := ha (k + 1) (Nat.succ_pos _) (by omega)
  unfold en at q1 ⊢
  rw [eK]
  by_cases c8 : (mK M1 (k + 1)).1 < 8
  · rw [if_pos c8] at q1 ⊢
    have e : eo ad M2 (k + 1) (tf (mK M1 (k + 1)).1) = eo ad M1 (k + 1) (tf (mK M1 (k + 1)).1) := by
      unfold eo
      refine List.map_congr_left fun j hj => ?_
      rw [a1 c8 j (List.mem_range.mp hj)]
    rw [e]
    exact q1
  · rw [if_neg c8] at q1 ⊢
    by_cases c10 : (mK M1 (k + 1)).1 = 10
    · rw [if_pos c10] at q1 ⊢
      have q1 : H[ad (k + 1)]? = some (arrV (g 10) (mK M1 (k + 1)).2 (fun j => Value.long (mL M1 (k + 1) j))) := q1
      show H[ad (k + 1)]? = some (arrV (g 10) (mK M1 (k + 1)).2 (fun j => Value.long (mL M2 (k + 1) j)))
      rw [q1, arrV_cg (fun j hj => congrArg Value.long (a2 c10 j hj))]
    · rw [if_neg c10] at q1 ⊢
      by_cases c9 : (mK M1 (k + 1)).1 < 10
      · rw [if_pos c9] at q1 ⊢
        have q1 : H[ad (k + 1)]? = some (arrV (g (mK M1 (k + 1)).1) (mK M1 (k + 1)).2 (fun j => Value.int (mI M1 (k + 1) j))) := q1
        show H[ad (k + 1)]? = some (arrV (g (mK M1 (k + 1)).1) (mK M1 (k + 1)).2 (fun j => Value.int (mI M2 (k + 1) j)))
        rw [q1, arrV_cg (fun j hj => congrArg Value.int (a3 (by omega) j hj))]
      · rw [if_neg c9] at q1 ⊢
        have q1 : H[ad (k + 1)]? = some (arrV (g (mK M1 (k + 1)).1) (mK M1 (k + 1)).2 (fun j => va_rf (er ad M1 (k + 1) j))) := q1
        show H[ad (k + 1)]? = some (arrV (g (mK M1 (k + 1)).1) (mK M1 (k + 1)).2 (fun j => va_rf (er ad M2 (k + 1) j)))
        rw [q1, arrV_cg (fun j hj => show va_rf (er ad M1 (k + 1) j) = va_rf (er ad M2 (k + 1) j) by rw [er_rf, er_rf, a4 (by omega) j hj])]
theorem wl_fst {g : Nat → ClassId} {ad : Nat → Nat} {M1 M2 : Mm} (hN : mN M2 = mN M1) {i : Nat} {p : Nat × va_E} (h : (wl g ad M2)[i]? = some p) : ∃ p', (wl g ad M1)[i]? = some p' ∧ p'.1 = p.1 := by
  unfold wl at h ⊢
  rw [List.getElem?_map, hN] at h
  rw [List.getElem?_map]
  cases hr : (List.range (mN M1))[i]? with
  | none => rw [hr] at h; cases h
  | some j =>
    rw [hr] at h
    have h : (ad (j + 1), en g ad M2 (j + 1)) = p := Option.some.inj h
    subst h
    exact ⟨(ad (j + 1), en g ad M1 (j + 1)), rfl, rfl⟩
theorem vaD_cg {A : Nat → Prop} {g : Nat → ClassId} {ad : Nat → Nat} {M1 M2 : Mm} (hN : mN M2 = mN M1) (h : va_D A (wl g ad M1)) : va_D A (wl g ad M2) := by
  refine ⟨fun i j p q hp hq e => ?_, fun k q hq => ?_⟩
  · obtain ⟨p', hp', ep⟩ := wl_fst hN hp
    obtain ⟨q', hq', eq⟩ := wl_fst hN hq
    exact h.1 i j p' q' hp' hq' (ep.trans (e.trans eq.symm))
  · obtain ⟨q', hq', eq⟩ := wl_fst hN hq
    rw [← eq]
    exact h.2 k q' hq'
variable {l : Launch} {X : Nat × (Nat → Int32)} {q : Md} {d mc ms : Nat} {av : List Value} {M : Mm}
theorem Ev.post {kr kr' : KR} (h : Ev l X q d true mc ms av M kr) (hp : ∀ r M1, kO M → M1.1 = M.1 → kr r M1 → ∃ M2, kr' r M2 ∧ M2.1 = M.1 ∧ kO M2 ∧ agr M1 M2) : Ev l X q d true mc ms av M kr' := by
  intro D g ad A p e ha hc hk s m args below hf hS hP hK'
  obtain ⟨n, o, w, r, en, q1, q2⟩ := h D g ad A p e ha hc hk s m args below hf hS hP hK'
  obtain ⟨p1, p2, p3, p4, p5, p6, p7⟩ := hP
  refine ⟨n, o, w, r, en, ?_, q2⟩
  obtain ⟨r1, M1, ad1, u1, w1, z1, a1, b1, c1, d1, e1, f1, g1⟩ := q1
  obtain ⟨y1, y2⟩ := z1 rfl
  obtain ⟨M2, v1, v2, v3, v4⟩ := hp r1 M1 p5 y2 w1
  have hN : mN M2 = mN M1 := congrArg (fun x => x.1) (v2.trans y2.symm)
  exact ⟨r1, M2, ad1, u1, v1, fun _ => ⟨y1, v2⟩, a1, by rw [hN]; exact b1, by rw [hN]; exact c1, v3, vaP_ag (v2.trans y2.symm) v4 e1, vaD_cg hN f1, g1⟩
theorem agr_rf (M : Mm) : agr M M := fun _ _ _ => ⟨fun _ _ _ => rfl, fun _ _ _ => rfl, fun _ _ _ => rfl, fun _ _ _ => rfl⟩
theorem kd_A : ∀ a, a < 168 → 10 < (kdT a).1 → (kdT a).2 ≤ 16 := by decide +kernel
/-- ints alone changed, and only where the structure has none -/
theorem agr_I {P : List (Nat × List Row)} (h : Iv (mkP P) M) (hF : FM M) {I1 I2 : Nat → Nat → Int32} (hI : ∀ a k, 0 < a → a ≤ 167 → isI a k = true → I1 a k = I2 a k) : agr (M.1, I1, mL M, R0 (mR M 1 1) (mR M 2 3)) (M.1, I2, mL M, mR M) := by
  intro a a0 a1
  have a1 : a ≤ 167 := by have := hF.1; exact Nat.le_trans a1 (Nat.le_of_eq this)
  have e : mK M a = kdT a := h.2.1 a a1
  show agA _ _ a
  unfold agA
  have eM : mK (M.1, I1, mL M, R0 (mR M 1 1) (mR M 2 3)) a = kdT a := e
  rw [eM]
  refine ⟨fun hk k hkl => ?_, fun hk i hi => rfl, fun hk i hi => ?_, fun hk i hi => ?_⟩
  · have hl := tf_len (kdT a).1
    have hR : R0 (mR M 1 1) (mR M 2 3) a k = mR M a k := fm_R h hF a1 (by omega)
    have hT : (tf (kdT a).1).getD k 0 = 0 → I1 a k = I2 a k := fun z => hI a k a0 a1 (by
      unfold isI
      rw [show Nat.blt (kdT a).1 8 = true from Nat.ble_eq_true_of_le hk, show Nat.blt k (tf (kdT a).1).length = true from Nat.ble_eq_true_of_le hkl, z]
      rfl)
    revert hT
    cases (tf (kdT a).1).getD k 0 with
    | zero => exact fun hT => congrArg Value.int (hT rfl)
    | succ t =>
      cases t with
      | zero => exact fun _ => rfl
      | succ t => exact fun _ => congrArg Value.ref hR
  · refine hI a i a0 a1 ?_
    have h8 : Nat.blt (kdT a).1 8 = false := blt_f (by omega)
    have h9 : Nat.blt (kdT a).1 10 = true := Nat.ble_eq_true_of_le (by omega)
    unfold isI
    rw [h8, h9]
    exact Nat.ble_eq_true_of_le hi
  · have := kd_A a (by omega) hk
    exact fm_R h hF a1 (by omega)
end PST2
end
section
/-! close of both sides: exact and interval contracts joined -/
section JCL
/-- what a close does: none: the number is out of range; else the reading's end -/
noncomputable def cO (b : Nat → Nat) (n : Int32) (t : Nat) : Option ((Nat × Nat) ⊕ Ps) := cond (inB n 0 (nI t)) (some (rdT b n.toInt.toNat (n.toInt.toNat + 1) P00)) none
noncomputable def cA : Option ((Nat × Nat) ⊕ Ps) → Int32
  | some (.inr P) => nI (P.1 4)
  | _ => -1
noncomputable def cF (o : Option ((Nat × Nat) ⊕ Ps)) (old : Int32) : Int32 := match o with
  | none => old
  | some (.inl er) => nI er.1
  | some (.inr _) => 0
noncomputable def clT : Option ((Nat × Nat) ⊕ Ps) → Int32
  | none => 2
  | some (.inl _) => 4
  | some (.inr _) => 0
theorem cO_cases {b : Nat → Nat} {n : Int32} {t : Nat} (ht : t ≤ 900) : (cO b n t = none ∧ (n < 0 ∨ nI t < n)) ∨ ∃ k, k ≤ t ∧ n = nI k ∧ cO b n t = some (rdT b k (k + 1) P00) := by
  cases hq : inB n 0 (nI t) with
  | false =>
    refine Or.inl ⟨by unfold cO; rw [hq]; rfl, ?_⟩
    by_cases c : n < 0
    · exact Or.inl c
    · by_cases c2 : nI t < n
      · exact Or.inr c2
      · unfold inB at hq
        rw [decide_eq_true c, decide_eq_true c2] at hq
        cases hq
  | true =>
    refine Or.inr ⟨n.toInt.toNat, ?_⟩
    obtain ⟨x, y⟩ := Bool.and_eq_true_iff.mp hq
    have x : ¬ n < 0 := of_decide_eq_true x
    have y : ¬ nI t < n := of_decide_eq_true y
    have x1 : 0 ≤ n.toInt := by
      rw [Int32.lt_iff_toInt_lt] at x
      have : (0 : Int32).toInt = 0 := rfl
      omega
    have y1 : n.toInt ≤ t := by
      rw [Int32.lt_iff_toInt_lt] at y
      have : (nI t).toInt = t := nI_toInt (by omega)
      omega
    refine ⟨by omega, nI_at x1 (by omega), by unfold cO; rw [hq]; rfl⟩
variable {M M' M'' : Mm}
variable {l : Launch} {X : Nat × (Nat → Int32)} {kr : KR} {t : Nat} {b : Nat → Nat}
/-- the reference's plan: rows r, told; st as told -/
noncomputable def FS (F : Nat → Nat) (W : Int32) (I : Nat → Nat → Int32) : Prop := (∀ k, k < 67 → k ≠ 10 → I 153 k = nI (F k)) ∧ I 153 10 = W
noncomputable def FH (a : Nat) (F : Nat → Nat) (I : Nat → Nat → Int32) : Prop := (∀ c, c < 5 → I a (18 + c) = nI (F (300 + c))) ∧ (∀ f, f < 6 → I a f = nI (F (12 + 4 * f))) ∧ ∀ i, 6 ≤ i → i < 25 → (i < 18 ∨ 23 ≤ i) → I a i = 0
noncomputable def eX7 (o : Option ((Nat × Nat) ⊕ Ps)) (M M'' : Mm) : Prop := match o with
  | none => ∀ a i, ¬ (a = 150 ∧ (i = 0 ∨ i = 11)) → mI M'' a i = mI M a i
  | some (.inl er) => (∀ a i, ¬ (a = 150 ∧ i ≤ 13) → a ≠ 152 → a ≠ 154 → a ≠ 156 → mI M'' a i = mI M a i) ∧ mI M'' 150 10 = nI er.2
  | some (.inr P) => (∀ a i, ¬ (a = 150 ∧ (i ≤ 14 ∨ i = 22 ∨ i = 23)) → ¬ (152 ≤ a ∧ a ≤ 157) → mI M'' a i = mI M a i) ∧ mI M'' 150 14 = 1 ∧ mI M'' 150 22 = 0 ∧ mI M'' 150 23 = 0 ∧ B3 P ∧ KM P.1 P.2.2.1 ∧ 0 < P.1 4 ∧ FS P.1 P.2.1 (mI M'') ∧ FH 155 P.1 (mI M'') ∧ FH 157 P.1 (mI M'')
/-- the chosen end: only what a close may change is changed -/
noncomputable def mskC (M : Mm) (I' : Nat → Nat → Int32) : Mm := (M.1, fun a k => cond (inm msC a k) (I' a k) (mI M a k), mL M, mR M)
theorem mskC_t {I' : Nat → Nat → Int32} {a k : Nat} (h : inm msC a k = true) : mI (mskC M I') a k = I' a k := by
  show cond (inm msC a k) (I' a k) (mI M a k) = I' a k
  rw [h]
  rfl
theorem mskC_f {I' : Nat → Nat → Int32} {a k : Nat} (h : inm msC a k = false) : mI (mskC M I') a k = mI M a k := by
  show cond (inm msC a k) (I' a k) (mI M a k) = mI M a k
  rw [h]
  rfl
theorem mskC_kp {I' : Nat → Nat → Int32} : kp msC M (mskC M I') := fun _ _ h => ⟨mskC_f h, rfl, rfl⟩
theorem m153 : ∀ k, k < 67 → inm msC 153 k = true := by decide +kernel
theorem m155 : ∀ k, k < 25 → inm msC 155 k = true ∧ inm msC 157 k = true := by decide +kernel
theorem mskC_e {o : Option ((Nat × Nat) ⊕ Ps)} {I' : Nat → Nat → Int32} (h : eX7 o M (M.1, I', mL M, R0 (mR M 1 1) (mR M 2 3))) : eX7 o M (mskC M I') := by
  have k : ∀ {a i : Nat}, I' a i = mI M a i → mI (mskC M I') a i = mI M a i := by
    intro a i z
    cases hb : inm msC a i with
    | true => rw [mskC_t hb]; exact z
    | false => exact mskC_f hb
  cases o with
  | none => exact fun a i z => k (h a i z)
  | some r =>
    cases r with
    | inl er =>
      obtain ⟨h1, h2⟩ := h
      exact ⟨fun a i z1 z2 z3 z4 => k (h1 a i z1 z2 z3 z4), (mskC_t (by decide)).trans h2⟩
    | inr P =>
      obtain ⟨h1, h2, h3, h4, h5, h6, h7, h8, h9, h10⟩ := h
      refine ⟨fun a i z1 z2 => k (h1 a i z1 z2), (mskC_t (by decide)).trans h2, (mskC_t (by decide)).trans h3, (mskC_t (by decide)).trans h4, h5, h6, h7, ⟨fun k hk hk2 => (mskC_t (m153 k hk)).trans (h8.1 k hk hk2), (mskC_t (by decide)).trans h8.2⟩, ⟨fun c hc => (mskC_t (m155 (18 + c) (by omega)).1).trans (h9.1 c hc), fun f hf => (mskC_t (m155 f (by omega)).1).trans (h9.2.1 f hf), fun i z1 z2 z3 => (mskC_t (m155 i z2).1).trans (h9.2.2 i z1 z2 z3)⟩, ⟨fun c hc => (mskC_t (m155 (18 + c) (by omega)).2).trans (h10.1 c hc), fun f hf => (mskC_t (m155 f (by omega)).2).trans (h10.2.1 f hf), fun i z1 z2 z3 => (mskC_t (m155 i z2).2).trans (h10.2.2 i z1 z2 z3)⟩⟩
theorem x150 : ∀ k, k < 44 → isI 150 k = true → inm msC 150 k = true ∨ ¬ (k ≤ 14 ∨ k = 22 ∨ k = 23) := by decide +kernel
theorem xArr : ∀ k, (k < 8 → inm msC 152 k = true) ∧ (k < 202 → inm msC 153 k = true ∧ inm msC 154 k = true) ∧ (k < 25 → inm msC 155 k = true ∧ inm msC 156 k = true ∧ inm msC 157 k = true) := by
  have a1 : ∀ k, k < 8 → inm msC 152 k = true := by decide +kernel
  have a2 : ∀ k, k < 202 → inm msC 153 k = true ∧ inm msC 154 k = true := by decide +kernel
  have a3 : ∀ k, k < 25 → inm msC 155 k = true ∧ inm msC 156 k = true ∧ inm msC 157 k = true := by decide +kernel
  exact fun k => ⟨a1 k, a2 k, a3 k⟩
/-- the structure's ints that a close may change are among those -/
theorem mskC_a {I' : Nat → Nat → Int32} (hI : ∀ a i, ¬ (a = 150 ∧ (i ≤ 14 ∨ i = 22 ∨ i = 23)) → ¬ (152 ≤ a ∧ a ≤ 157) → I' a i = mI M a i) (a k : Nat) (hk : isI a k = true) : I' a k = mI (mskC M I') a k := by
  cases hb : inm msC a k with
  | true => exact (mskC_t hb).symm
  | false =>
    rw [mskC_f hb]
    refine hI a k ?_ ?_
    · rintro ⟨rfl, z⟩
      have hl : k < 44 := by
        have : (Nat.blt k (tf 7).length && Nat.beq ((tf 7).getD k 0) 0) = true := hk
        exact Nat.le_of_ble_eq_true (Bool.and_eq_true_iff.mp this).1
      rcases x150 k hl hk with h | h
      · rw [hb] at h; cases h
      · exact h z
    · intro z
      obtain ⟨x1, x2, x3⟩ := xArr k
      rcases (show a = 152 ∨ a = 153 ∨ a = 154 ∨ a = 155 ∨ a = 156 ∨ a = 157 by omega) with rfl | rfl | rfl | rfl | rfl | rfl
      · have := x1 (Nat.le_of_ble_eq_true (show Nat.blt k 8 = true from hk)); rw [hb] at this; cases this
      · have := (x2 (Nat.le_of_ble_eq_true (show Nat.blt k 202 = true from hk))).1; rw [hb] at this; cases this
      · have := (x2 (Nat.le_of_ble_eq_true (show Nat.blt k 202 = true from hk))).2; rw [hb] at this; cases this
      · have := (x3 (Nat.le_of_ble_eq_true (show Nat.blt k 25 = true from hk))).1; rw [hb] at this; cases this
      · have := (x3 (Nat.le_of_ble_eq_true (show Nat.blt k 25 = true from hk))).2.1; rw [hb] at this; cases this
      · have := (x3 (Nat.le_of_ble_eq_true (show Nat.blt k 25 = true from hk))).2.2; rw [hb] at this; cases this
theorem eX7_i {o : Option ((Nat × Nat) ⊕ Ps)} {M1 : Mm} (h : eX7 o M M1) : ∀ a i, ¬ (a = 150 ∧ (i ≤ 14 ∨ i = 22 ∨ i = 23)) → ¬ (152 ≤ a ∧ a ≤ 157) → mI M1 a i = mI M a i := by
  intro a i z1 z2
  cases o with
  | none => exact h a i (fun z => z1 ⟨z.1, by omega⟩)
  | some r =>
    cases r with
    | inl er =>
      obtain ⟨h1, -⟩ := h
      exact h1 a i (fun z => z1 ⟨z.1, by omega⟩) (by omega) (by omega) (by omega)
    | inr P =>
      obtain ⟨h1, -⟩ := h
      exact h1 a i z1 z2
theorem tr150 : ∀ p, p < 2 → ∀ k, k < 14 → k ≠ 2 → rwB (lkR (rwx p) 150) k = (iLo, iHi) := by decide +kernel
theorem trE : ∀ p, p < 2 → lkR (rwx p) 152 = [] ∧ lkR (rwx p) 154 = [] ∧ lkR (rwx p) 156 = [] := by
  intro p hp
  rcases lt2 hp with rfl | rfl <;> exact ⟨rfl, rfl, rfl⟩
/-- the reference's rows behind a close -/
theorem ref_X7 {o : Option ((Nat × Nat) ⊕ Ps)} {M1 : Mm} {v : Nat} (hR : RefI M) (h0 : Iv (mkP []) M1) (h2 : mI M1 150 2 = nI v) (hv : v ≤ 900) (hP : ∀ P, o = some (.inr P) → PI P.1 ∧ PX P.1) (h : eX7 o M M1) : RefI M1 := by
  have v2 : (mI M1 150 2).toInt = v := by rw [h2]; exact nI_toInt (by omega)
  cases o with
  | none =>
    obtain ⟨p, hp, hI⟩ := hR
    refine ⟨p, ⟨hp.1, eO_cg (fun k => h 153 k (by omega)) hp.2⟩, h0.1, h0.2.1, h0.2.2.1, fun a k ha => ?_⟩
    show (rwB (lkR (rwx p) a) k).1 ≤ (mI M1 a k).toInt ∧ (mI M1 a k).toInt ≤ (rwB (lkR (rwx p) a) k).2
    by_cases c : a = 150 ∧ (k = 0 ∨ k = 11)
    · obtain ⟨rfl, c⟩ := c
      rw [tr150 p hp.1 k (by omega) (by omega)]
      exact ⟨i32_lo _, i32_hi _⟩
    · rw [h a k c]
      exact hI.2.2.2 a k ha
  | some r =>
    cases r with
    | inl er =>
      obtain ⟨p, hp, hI⟩ := hR
      obtain ⟨t1, t2, t3⟩ := trE p hp.1
      obtain ⟨h1, -⟩ := h
      refine ⟨p, ⟨hp.1, eO_cg (fun k => h1 153 k (by omega) (by decide) (by decide) (by decide)) hp.2⟩, h0.1, h0.2.1, h0.2.2.1, fun a k ha => ?_⟩
      show (rwB (lkR (rwx p) a) k).1 ≤ (mI M1 a k).toInt ∧ (mI M1 a k).toInt ≤ (rwB (lkR (rwx p) a) k).2
      by_cases c : a = 150 ∧ k ≤ 13
      · obtain ⟨rfl, c⟩ := c
        by_cases k2 : k = 2
        · subst k2
          rw [(rwx_f hp.1).2.1, v2]
          exact ⟨Int.natCast_nonneg v, by show (v : Int) ≤ 900; omega⟩
        · rw [tr150 p hp.1 k (by omega) k2]
          exact ⟨i32_lo _, i32_hi _⟩
      · by_cases c2 : a = 152
        · rw [c2, t1]
          exact ⟨i32_lo _, i32_hi _⟩
        · by_cases c4 : a = 154
          · rw [c4, t2]
            exact ⟨i32_lo _, i32_hi _⟩
          · by_cases c6 : a = 156
            · rw [c6, t3]
              exact ⟨i32_lo _, i32_hi _⟩
            · rw [h1 a k c c2 c4 c6]
              exact hI.2.2.2 a k ha
    | inr P =>
      obtain ⟨hPI, hPX⟩ := hP P rfl
      obtain ⟨h1, e14, e22, e23, h5, h6, h7, h8, h9, h10⟩ := h
      have hbd : Bd P.1 P.2.1 P.2.2.1 := h5.1.1
      obtain ⟨B0, B1, B3', B4, B5, B6, B7'⟩ := hbd.1
      have hlt : ∀ k, P.1 k < 1000 := hbd.2.1
      obtain ⟨p0, hp0, hI⟩ := hR
      have f2 : 2 ≤ P.1 0 := (hbd.2.2.2.2.2 (Nat.pos_of_ne_zero (hPX.2 (Nat.ne_of_gt h7)))).1
      have v5 : (mI M1 153 5).toInt = (P.1 5 : Int) := by
        rw [h8.1 5 (by decide) (by decide)]
        exact nI_toInt (Nat.lt_trans (hlt 5) (by decide))
      refine ⟨0, ⟨by decide, fun _ c hc h5c => ?_⟩, h0.1, h0.2.1, h0.2.2.1, fun a k ha => ?_⟩
      · rw [v5] at h5c
        have q := (hPI.2.1 c (by omega)).2.2.1
        rw [h8.1 (36 + 2 * c) (by omega) (by omega), nI_toInt (Nat.lt_trans (hlt (36 + 2 * c)) (by decide))]
        omega
      show (rwB (lkR (rwx 0) a) k).1 ≤ (mI M1 a k).toInt ∧ (mI M1 a k).toInt ≤ (rwB (lkR (rwx 0) a) k).2
      have hx : iLo ≤ (mI M1 a k).toInt ∧ (mI M1 a k).toInt ≤ iHi := ⟨i32_lo _, i32_hi _⟩
      rw [rwx_eq (p := 0) (by decide), lk_3]
      by_cases a150 : a = 150
      · subst a150
        rw [if_pos rfl]
        refine rw_all hx (fun r hr hk => ?_)
        obtain ⟨l1, l2⟩ := rIn_b hk
        have hr : r ∈ ([(14, 14, 1, 1), (2, 2, 0, 900), (14, 14, 0, 1), (22, 22, 0, 16), (23, 23, 0, 3)] : List Row) := hr
        rcases List.mem_cons.mp hr with rfl | hr
        · have l1 : 14 ≤ k := l1
          have l2 : k ≤ 14 := l2
          obtain rfl : k = 14 := by omega
          rw [e14]
          exact ⟨by decide, by decide⟩
        rcases List.mem_cons.mp hr with rfl | hr
        · have l1 : 2 ≤ k := l1
          have l2 : k ≤ 2 := l2
          obtain rfl : k = 2 := by omega
          rw [v2]
          exact ⟨Int.natCast_nonneg v, by show (v : Int) ≤ 900; omega⟩
        rcases List.mem_cons.mp hr with rfl | hr
        · have l1 : 14 ≤ k := l1
          have l2 : k ≤ 14 := l2
          obtain rfl : k = 14 := by omega
          rw [e14]
          exact ⟨by decide, by decide⟩
        rcases List.mem_cons.mp hr with rfl | hr
        · have l1 : 22 ≤ k := l1
          have l2 : k ≤ 22 := l2
          obtain rfl : k = 22 := by omega
          rw [e22]
          exact ⟨by decide, by decide⟩
        · obtain rfl := List.mem_singleton.mp hr
          have l1 : 23 ≤ k := l1
          have l2 : k ≤ 23 := l2
          obtain rfl : k = 23 := by omega
          rw [e23]
          exact ⟨by decide, by decide⟩
      rw [if_neg a150]
      by_cases a153 : a = 153
      · subst a153
        rw [if_pos rfl]
        refine rw_all hx (fun r hr hk => ?_)
        obtain ⟨l1, l2⟩ := rIn_b hk
        have key : k < 67 → k ≠ 10 → ∀ {lo hi : Int}, lo ≤ (P.1 k : Int) → (P.1 k : Int) ≤ hi → lo ≤ (mI M1 153 k).toInt ∧ (mI M1 153 k).toInt ≤ hi := by
          intro z1 z2 lo hi z3 z4
          have : (mI M1 153 k).toInt = (P.1 k : Int) := by
            rw [h8.1 k z1 z2]
            exact nI_toInt (Nat.lt_trans (hlt k) (by decide))
          rw [this]
          exact ⟨z3, z4⟩
        have hc := hPX.1 k
        obtain ⟨x1, x2, x3, x4, x5⟩ := hc
        rcases List.mem_append.mp hr with hr | hr
        · obtain rfl := List.mem_singleton.mp (show r ∈ ([(0, 0, 2, 5)] : List Row) from hr)
          have l2 : k ≤ 0 := l2
          obtain rfl : k = 0 := by omega
          exact key (by decide) (by decide) (by show (2 : Int) ≤ _; omega) (by show _ ≤ (5 : Int); omega)
        · have hr : r ∈ ([(0, 0, 0, 5), (1, 1, 0, 4), (2, 2, 0, 100), (4, 4, 0, 6), (5, 5, 0, 5), (6, 6, 0, 4), (7, 7, 0, 4), (35, 44, 0, 30), (45, 52, 0, 19), (53, 53, 0, 4), (55, 55, 0, 4), (57, 57, 0, 4), (59, 59, 0, 4)] : List Row) := hr
          rcases List.mem_cons.mp hr with rfl | hr
          · have l1 : 0 ≤ k := l1
            have l2 : k ≤ 0 := l2
            obtain rfl : k = 0 := by omega
            have w := B0
            exact key (by omega) (by omega) (by show (0 : Int) ≤ _; omega) (by show _ ≤ (5 : Int); omega)
          rcases List.mem_cons.mp hr with rfl | hr
          · have l1 : 1 ≤ k := l1
            have l2 : k ≤ 1 := l2
            obtain rfl : k = 1 := by omega
            have w := B1
            exact key (by omega) (by omega) (by show (0 : Int) ≤ _; omega) (by show _ ≤ (4 : Int); omega)
          rcases List.mem_cons.mp hr with rfl | hr
          · have l1 : 2 ≤ k := l1
            have l2 : k ≤ 2 := l2
            obtain rfl : k = 2 := by omega
            have w := x1 rfl
            exact key (by omega) (by omega) (by show (0 : Int) ≤ _; omega) (by show _ ≤ (100 : Int); omega)
          rcases List.mem_cons.mp hr with rfl | hr
          · have l1 : 4 ≤ k := l1
            have l2 : k ≤ 4 := l2
            obtain rfl : k = 4 := by omega
            have w := B4
            exact key (by omega) (by omega) (by show (0 : Int) ≤ _; omega) (by show _ ≤ (6 : Int); omega)
          rcases List.mem_cons.mp hr with rfl | hr
          · have l1 : 5 ≤ k := l1
            have l2 : k ≤ 5 := l2
            obtain rfl : k = 5 := by omega
            have w := B5
            exact key (by omega) (by omega) (by show (0 : Int) ≤ _; omega) (by show _ ≤ (5 : Int); omega)
          rcases List.mem_cons.mp hr with rfl | hr
          · have l1 : 6 ≤ k := l1
            have l2 : k ≤ 6 := l2
            obtain rfl : k = 6 := by omega
            have w := B6
            exact key (by omega) (by omega) (by show (0 : Int) ≤ _; omega) (by show _ ≤ (4 : Int); omega)
          rcases List.mem_cons.mp hr with rfl | hr
          · have l1 : 7 ≤ k := l1
            have l2 : k ≤ 7 := l2
            obtain rfl : k = 7 := by omega
            have w := B7'
            exact key (by omega) (by omega) (by show (0 : Int) ≤ _; omega) (by show _ ≤ (4 : Int); omega)
          rcases List.mem_cons.mp hr with rfl | hr
          · have l1 : 35 ≤ k := l1
            have l2 : k ≤ 44 := l2
            have w := x2 ⟨l1, l2⟩
            exact key (by omega) (by omega) (by show (0 : Int) ≤ _; omega) (by show _ ≤ (30 : Int); omega)
          rcases List.mem_cons.mp hr with rfl | hr
          · have l1 : 45 ≤ k := l1
            have l2 : k ≤ 52 := l2
            have w := x3 ⟨l1, l2⟩
            exact key (by omega) (by omega) (by show (0 : Int) ≤ _; omega) (by show _ ≤ (19 : Int); omega)
          rcases List.mem_cons.mp hr with rfl | hr
          · have l1 : 53 ≤ k := l1
            have l2 : k ≤ 53 := l2
            obtain rfl : k = 53 := by omega
            have w := x4 (Or.inl rfl)
            exact key (by omega) (by omega) (by show (0 : Int) ≤ _; omega) (by show _ ≤ (4 : Int); omega)
          rcases List.mem_cons.mp hr with rfl | hr
          · have l1 : 55 ≤ k := l1
            have l2 : k ≤ 55 := l2
            obtain rfl : k = 55 := by omega
            have w := x4 (Or.inr (Or.inl rfl))
            exact key (by omega) (by omega) (by show (0 : Int) ≤ _; omega) (by show _ ≤ (4 : Int); omega)
          rcases List.mem_cons.mp hr with rfl | hr
          · have l1 : 57 ≤ k := l1
            have l2 : k ≤ 57 := l2
            obtain rfl : k = 57 := by omega
            have w := x4 (Or.inr (Or.inr (Or.inl rfl)))
            exact key (by omega) (by omega) (by show (0 : Int) ≤ _; omega) (by show _ ≤ (4 : Int); omega)
          · obtain rfl := List.mem_singleton.mp hr
            have l1 : 59 ≤ k := l1
            have l2 : k ≤ 59 := l2
            obtain rfl : k = 59 := by omega
            have w := x4 (Or.inr (Or.inr (Or.inr rfl)))
            exact key (by omega) (by omega) (by show (0 : Int) ≤ _; omega) (by show _ ≤ (4 : Int); omega)
      rw [if_neg a153]
      have same : (a < 152 ∨ 157 < a) → (rwB (lkR (rwt6.drop 2) a) k).1 ≤ (mI M1 a k).toInt ∧ (mI M1 a k).toInt ≤ (rwB (lkR (rwt6.drop 2) a) k).2 := by
        intro z
        rw [h1 a k (fun w => a150 w.1) (by omega)]
        have b := hI.2.2.2 a k ha
        have b : (rwB (lkR (rwx p0) a) k).1 ≤ (mI M a k).toInt ∧ (mI M a k).toInt ≤ (rwB (lkR (rwx p0) a) k).2 := b
        rw [rwx_eq hp0.1, lk_3, if_neg a150, if_neg a153] at b
        exact b
      have his : ∀ c, c < 5 → P.1 (300 + c) ≤ 5 := fun c hc => (hPX.1 (300 + c)).2.2.2.2 ⟨by omega, by omega⟩
      by_cases c7 : 152 ≤ a ∧ a ≤ 157
      · rcases (show a = 152 ∨ a = 154 ∨ a = 155 ∨ a = 156 ∨ a = 157 by omega) with rfl | rfl | rfl | rfl | rfl
        · exact hx
        · exact hx
        · refine rw_all (H := [(18, 22, 0, 5)]) hx (fun r hr hk => ?_)
          obtain ⟨l1, l2⟩ := rIn_b hk
          obtain rfl := List.mem_singleton.mp hr
          have l1 : 18 ≤ k := l1
          have l2 : k ≤ 22 := l2
          have q := h9.1 (k - 18) (by omega)
          rw [show 18 + (k - 18) = k by omega] at q
          have := his (k - 18) (by omega)
          rw [q, nI_toInt (by omega)]
          exact ⟨Int.natCast_nonneg _, by show (P.1 (300 + (k - 18)) : Int) ≤ 5; omega⟩
        · exact hx
        · refine rw_all (H := [(18, 22, 0, 5)]) hx (fun r hr hk => ?_)
          obtain ⟨l1, l2⟩ := rIn_b hk
          obtain rfl := List.mem_singleton.mp hr
          have l1 : 18 ≤ k := l1
          have l2 : k ≤ 22 := l2
          have q := h10.1 (k - 18) (by omega)
          rw [show 18 + (k - 18) = k by omega] at q
          have := his (k - 18) (by omega)
          rw [q, nI_toInt (by omega)]
          exact ⟨Int.natCast_nonneg _, by show (P.1 (300 + (k - 18)) : Int) ≤ 5; omega⟩
      · exact same (by omega)
theorem cO_cl {n : Int32} : (cO b n t = none → clA n t = t) ∧ ∀ r, cO b n t = some r → clA n t = 0 := by
  unfold cO clA
  cases inB n 0 (nI t) with
  | true => exact ⟨fun h => absurd h (by intro z; cases z), fun _ _ => rfl⟩
  | false => exact ⟨fun _ => rfl, fun r h => absurd h (by intro z; cases z)⟩
/-- the reference's close: exactly, over the law's states -/
theorem s7_close (d : Nat) {n : Int32} (hL : LPm M) (h6 : T7 t b M) (ht : t ≤ 900) (h : ∀ M', LPm M' → M'.1 = M.1 → kp msC M M' → T7 (clA n t) b M' → mI M' 150 9 = cF (cO b n t) (mI M 150 9) → mI M' 150 11 = clT (cO b n t) → eX7 (cO b n t) M M' → (∀ P, cO b n t = some (.inr P) → PI P.1) → kr (some (.int (cA (cO b n t)))) M') : Ev l X uX7_close (d + 12) true 0 0 [.ref 150, .int n] M kr := by
  have B : Ev l X uX7_close (d + 12) true 0 0 [.ref 150, .int n] M (fun r M1 => r = some (.int (cA (cO b n t))) ∧ (∃ I', M1 = (M.1, I', mL M, R0 (mR M 1 1) (mR M 2 3))) ∧ mI M1 150 9 = cF (cO b n t) (mI M 150 9) ∧ mI M1 150 11 = clT (cO b n t) ∧ mI M1 150 2 = nI (clA n t) ∧ eX7 (cO b n t) M M1 ∧ ∀ P, cO b n t = some (.inr P) → PI P.1 ∧ PX P.1) := by
    refine Ev.ofm hL.1 hL.2.2 ?_
    show Ev l X uX7_close (d + 12) true 0 0 [.ref 150, .int n] (mk (mC M, mS M) (mR M 1 1) (mR M 2 3) (mI M) (mL M)) _
    obtain ⟨k1, k2⟩ := cO_cl (b := b) (t := t) (n := n)
    rcases cO_cases (b := b) (n := n) ht with ⟨e, hn⟩ | ⟨k, hk, rfl, e⟩
    · rw [k1 e, e]
      refine y_close2 (d := d + 1) ?_ ⟨rfl, ⟨_, rfl⟩, ?_, ?_, ?_, fun a i z => ?_, fun P z => by cases z⟩
      · rw [h6.1]
        rintro ⟨z1, z2⟩
        rw [Int32.le_iff_toInt_le] at z1 z2
        rcases hn with hn | hn
        · rw [Int32.lt_iff_toInt_lt] at hn
          omega
        · rw [Int32.lt_iff_toInt_lt] at hn
          omega
      · show u2 (u2 (u2 (mI M) 150 0 0) 150 11 0) 150 11 2 150 9 = mI M 150 9
        rw [u2_o (by decide), u2_o (by decide), u2_o (by decide)]
      · show u2 (u2 (u2 (mI M) 150 0 0) 150 11 0) 150 11 2 150 11 = 2
        exact u2_s
      · show u2 (u2 (u2 (mI M) 150 0 0) 150 11 0) 150 11 2 150 2 = nI t
        rw [u2_o (by decide), u2_o (by decide), u2_o (by decide)]
        exact h6.1
      · show u2 (u2 (u2 (mI M) 150 0 0) 150 11 0) 150 11 2 a i = mI M a i
        rw [u2_o (by omega), u2_o (by omega), u2_o (by omega)]
    · rw [k2 _ e, e]
      refine y_close (d := d + 1) h6.1 ht hk h6.2 (fun er her I' i1 i2 i3 i4 i5 i6 => ?_) (fun P' hP I' i1 i2 i3 i4 i5 i6 i7 i8 i9 j1 j2 j3 j4 => ?_)
      · rw [her]
        exact ⟨rfl, ⟨_, rfl⟩, i4, i6, i3, ⟨i1, i5⟩, fun P z => by cases z⟩
      · rw [hP]
        obtain ⟨s1, s2, s3, s4, s5, s6, s7, s8, s9, s10⟩ := i9
        refine ⟨rfl, ⟨_, rfl⟩, i4, i5, i3, ⟨i1, i6, i7, i8, j1, s9, j2, ⟨fun k hk hk2 => ?_, ?_⟩, ⟨fun c hc => ?_, fun f hf => ?_, fun i h1 h2 h3 => ?_⟩, ⟨fun c hc => ?_, fun f hf => ?_, fun i h1 h2 h3 => ?_⟩⟩, fun P z => ?_⟩
        · exact (j3 k (by omega)).trans (s5.1 k hk hk2)
        · exact (j3 10 (by decide)).trans s5.2.1
        · exact (j4 (18 + c) (by omega)).1.trans (s5.2.2.1 c hc)
        · exact (j4 f (by omega)).1.trans (s5.2.2.2.1 f hf)
        · exact (j4 i (by omega)).1.trans (s5.2.2.2.2 i h1 h2 h3)
        · exact (j4 (18 + c) (by omega)).2.trans (s5.2.2.1 c hc)
        · exact (j4 f (by omega)).2.trans (s5.2.2.2.1 f hf)
        · exact (j4 i (by omega)).2.trans (s5.2.2.2.2 i h1 h2 h3)
        · have e2 : P' = P := Sum.inr.inj (Option.some.inj z)
          rw [← e2]
          exact ⟨(PK_rd (k + 1) P00 P' B3_00 PK_00 (Nat.zero_le _) hP).1, PX_rd (k + 1) P00 P' B3_00 PK_00 PX_00 (Nat.zero_le _) hP⟩
  refine Ev.post B ?_
  rintro r M1 hO - ⟨rfl, ⟨I', rfl⟩, c3, c4, c5, c6, c7⟩
  have hE := mskC_e c6
  have h0 : Iv (mkP []) (mskC M I') := ⟨hL.1.1, hL.1.2.1, hL.1.2.2.1, fun a k _ => ⟨i32_lo _, i32_hi _⟩⟩
  have h2 : mI (mskC M I') 150 2 = nI (clA n t) := (mskC_t (by decide)).trans c5
  have hR : RefI (mskC M I') := ref_X7 hL.2.1 h0 h2 (clA_b ht) c7 hE
  refine ⟨mskC M I', h (mskC M I') ⟨Iv_keep hL.1 h0 mskC_kp (by decide +kernel), hR, hL.2.2⟩ rfl mskC_kp ⟨h2, fun i hi => ?_⟩ ((mskC_t (by decide)).trans c3) ((mskC_t (by decide)).trans c4) hE (fun P z => (c7 P z).1), rfl, fun a i => hO a i, agr_I hL.1 hL.2.2 (fun a k _ _ hk => mskC_a (fun a i z1 z2 => eX7_i c6 a i z1 z2) a k hk)⟩
  rw [mskC_f (show inm msC 151 i = false from rfl)]
  refine h6.2 i (Nat.lt_of_lt_of_le hi ?_)
  unfold clA
  split <;> omega
end JCL
end
section
/-! the law's states: texts, faults the same on both sides -/
section LQS
variable {M M' : Mm}
noncomputable def LQ (M : Mm) : Prop := LPm M ∧ (∃ (t : Nat) (b : Nat → Nat), t ≤ 900 ∧ T6 t b M ∧ T7 t b M) ∧ mI M 2 13 = mI M 150 9
theorem LQ.li (h : LQ M) : LI M := by
  obtain ⟨h1, ⟨t, b, h2, h3, h4⟩, h5⟩ := h
  exact ⟨h1.1, h1.2.1, t, h2, h3.1, h4.1⟩
noncomputable def okm (S : List (Nat × Nat)) (N : List Nat) (ms : Md3) : Bool := S.all (fun x => !(inm ms x.1 x.2)) && N.all (fun a => ms.all (fun m => !(Nat.beq m.1 a)))
theorem okm_s {S : List (Nat × Nat)} {N : List Nat} {ms : Md3} (h : okm S N ms = true) {a k : Nat} (hx : (a, k) ∈ S) : inm ms a k = false := by
  have q := List.all_eq_true.mp (Bool.and_eq_true_iff.mp h).1 _ hx
  cases hq : inm ms a k with
  | false => rfl
  | true =>
    have q : (!(inm ms a k)) = true := q
    rw [hq] at q
    cases q
theorem okm_n {S : List (Nat × Nat)} {N : List Nat} {ms : Md3} (h : okm S N ms = true) {a : Nat} (hx : a ∈ N) (k : Nat) : inm ms a k = false := by
  have q := List.all_eq_true.mp (Bool.and_eq_true_iff.mp h).2 _ hx
  have q : ms.all (fun m => !(Nat.beq m.1 a)) = true := q
  cases hq : inm ms a k with
  | false => rfl
  | true =>
    obtain ⟨m, hm, h4⟩ := List.any_eq_true.mp hq
    obtain ⟨h4, -⟩ := andT h4
    have := List.all_eq_true.mp q m hm
    rw [h4] at this
    cases this
noncomputable def okS : List (Nat × Nat) := [(1, 1), (1, 2), (2, 1), (2, 13), (150, 2), (150, 9)]
noncomputable def okN : List Nat := [3, 151]
theorem LQ_k {ms : Md3} (h : LQ M) (hl : LI M') (h1 : M'.1 = M.1) (hk : kp ms M M') (ho : okm okS okN ms = true) : LQ M' := by
  obtain ⟨g1, ⟨t, b, g2, g3, g4⟩, g5⟩ := h
  have k1 := okm_s ho (a := 1) (k := 1) (by decide)
  have k2 := okm_s ho (a := 1) (k := 2) (by decide)
  have k3 := okm_s ho (a := 2) (k := 1) (by decide)
  have k4 := okm_s ho (a := 2) (k := 13) (by decide)
  have k5 := okm_s ho (a := 150) (k := 2) (by decide)
  have k6 := okm_s ho (a := 150) (k := 9) (by decide)
  refine ⟨⟨hl.1, hl.2.1, FM_kp g1.2.2 h1 hk k1 k2⟩, ⟨t, b, g2, ⟨?_, fun i hi => ?_⟩, ?_, fun i hi => ?_⟩, ?_⟩
  · rw [(hk 2 1 k3).1]; exact g3.1
  · rw [(hk 3 i (okm_n ho (by decide) i)).1]; exact g3.2 i hi
  · rw [(hk 150 2 k5).1]; exact g4.1
  · rw [(hk 151 i (okm_n ho (by decide) i)).1]; exact g4.2 i hi
  · rw [(hk 2 13 k4).1, (hk 150 9 k6).1]; exact g5
theorem LQ.iv (h : LQ M) : Iv Pt8 M := h.1.1
theorem LQ.q (h : LQ M) : LQ M := h
/-- feed -/
theorem LQ_feed {M1 M2 : Mm} {t : Nat} {b : Nat → Nat} {x1 x2 x3 x4 x5 : Int32} (h : LQ M) (ht : t ≤ 900) (h1 : kp msF M M1) (t1 : T6 (fdA t) (fdB b t x1 x2 x3 x4 x5) M1) (l2 : LPm M2) (h2 : kp msG M1 M2) (t2 : T7 (fdA t) (fdB b t x1 x2 x3 x4 x5) M2) : LQ M2 := by
  refine ⟨l2, ⟨fdA t, fdB b t x1 x2 x3 x4 x5, fdA_b ht, ⟨?_, fun i hi => ?_⟩, t2⟩, ?_⟩
  · rw [(h2 2 1 rfl).1]; exact t1.1
  · rw [(h2 3 i rfl).1]; exact t1.2 i hi
  · rw [(h2 2 13 rfl).1, (h1 2 13 rfl).1, (h2 150 9 rfl).1, (h1 150 9 rfl).1]; exact h.2.2
theorem T7_6 {M1 : Mm} {t : Nat} {b : Nat → Nat} {ms : Md3} (h : T7 t b M) (hk : kp ms M M1) (k0 : inm ms 150 2 = false) (k1 : ∀ i, inm ms 151 i = false) : T7 t b M1 :=
  ⟨by rw [(hk 150 2 k0).1]; exact h.1, fun i hi => by rw [(hk 151 i (k1 i)).1]; exact h.2 i hi⟩
/-- close -/
theorem LQ_close {M1 M2 : Mm} {t : Nat} {b : Nat → Nat} {n : Int32} (h : LQ M) (ht : t ≤ 900) (h1 : kp msZ8 M M1) (t1 : T6 (clA n t) b M1) (f1 : mI M1 2 13 = cF (cO b n t) (mI M 2 13)) (l2 : LPm M2) (h2 : kp msC M1 M2) (t2 : T7 (clA n t) b M2) (f2 : mI M2 150 9 = cF (cO b n t) (mI M1 150 9)) : LQ M2 := by
  refine ⟨l2, ⟨clA n t, b, clA_b ht, ⟨?_, fun i hi => ?_⟩, t2⟩, ?_⟩
  · rw [(h2 2 1 rfl).1]; exact t1.1
  · rw [(h2 3 i rfl).1]; exact t1.2 i hi
  · rw [(h2 2 13 rfl).1, f1, f2, (h1 150 9 rfl).1, h.2.2]
end LQS
end
section
/-! the law's states with the plan: both sides have read the same close -/
section LRS
variable {M M1 M2 M' : Mm}
noncomputable def PL (M : Mm) : Prop := (mI M 150 14 = 0 ∧ mI M (mR M 1 1) 4 = 0) ∨ (mI M 150 14 = 1 ∧ ∃ P : Ps, B3 P ∧ KM P.1 P.2.2.1 ∧ 0 < P.1 4 ∧ PC (mR M 1 1) P.1 P.2.1 (mI M) ∧ FS P.1 P.2.1 (mI M) ∧ FH 155 P.1 (mI M))
noncomputable def LR (M : Mm) : Prop := LQ M ∧ PL M
theorem LR.li (h : LR M) : LI M := h.1.li
theorem LR.iv (h : LR M) : Iv Pt8 M := h.1.1.1
theorem LR.q (h : LR M) : LQ M := h.1
/-- places of a plan -/
theorem pl_I {q : Nat} (hq : q = 7 ∨ q = 20) : isI q 0 = true ∧ isI q 1 = true ∧ isI q 2 = true ∧ isI q 3 = true ∧ isI q 4 = true ∧ isI q 10 = true ∧ isI q 14 = true ∧ isI q 17 = true := by
  rcases hq with rfl | rfl <;> decide
theorem pl_J {q : Nat} (hq : q = 7 ∨ q = 20) {k : Nat} : (k < 6 → isI (q + 1) k = true ∧ isI (q + 2) k = true ∧ isI (q + 3) k = true ∧ isI (q + 4) k = true ∧ isI (q + 5) k = true) ∧ (k < 5 → isI (q + 6) k = true ∧ isI (q + 7) k = true ∧ isI (q + 8) k = true) ∧ (k < 4 → isI (q + 9) k = true ∧ isI (q + 10) k = true ∧ isI (q + 11) k = true ∧ isI (q + 12) k = true) := by
  refine ⟨fun h => ?_, fun h => ?_, fun h => ?_⟩
  · rcases (show k = 0 ∨ k = 1 ∨ k = 2 ∨ k = 3 ∨ k = 4 ∨ k = 5 by omega) with rfl | rfl | rfl | rfl | rfl | rfl <;> rcases hq with rfl | rfl <;> decide
  · rcases (show k = 0 ∨ k = 1 ∨ k = 2 ∨ k = 3 ∨ k = 4 by omega) with rfl | rfl | rfl | rfl | rfl <;> rcases hq with rfl | rfl <;> decide
  · rcases (show k = 0 ∨ k = 1 ∨ k = 2 ∨ k = 3 by omega) with rfl | rfl | rfl | rfl <;> rcases hq with rfl | rfl <;> decide
theorem PC_cq {q : Nat} {P : Ps} {I I' : Nat → Nat → Int32} (hq : q = 7 ∨ q = 20) (hB : B3 P) (h : PC q P.1 P.2.1 I) (he : ∀ a k, q ≤ a → a ≤ q + 12 → isI a k = true → I' a k = I a k) : PC q P.1 P.2.1 I' := by
  obtain ⟨⟨a0, a1, a2, a3, a4, a5, a6, a7⟩, b1, b2, b3, b4, b5⟩ := h
  have hbd := hB.1.1
  have B4 : P.1 4 ≤ 6 := hbd.1.2.2.2.1
  have B5 : P.1 5 ≤ 5 := hbd.1.2.2.2.2.1
  have B6 : P.1 6 ≤ 4 := hbd.1.2.2.2.2.2.1
  have B7 : P.1 7 ≤ 4 := hbd.1.2.2.2.2.2.2
  obtain ⟨p0, p1, p2, p3, p4, p5, p6, p7⟩ := pl_I hq
  refine ⟨⟨?_, ?_, ?_, ?_, ?_, ?_, ?_, ?_⟩, fun f hf => ?_, fun f hf => ?_, fun c hc => ?_, fun k hk => ?_, fun u hu => ?_⟩
  · rw [he q 0 (by omega) (by omega) p0]; exact a0
  · rw [he q 1 (by omega) (by omega) p1]; exact a1
  · rw [he q 2 (by omega) (by omega) p2]; exact a2
  · rw [he q 3 (by omega) (by omega) p3]; exact a3
  · rw [he q 4 (by omega) (by omega) p4]; exact a4
  · rw [he q 10 (by omega) (by omega) p5]; exact a5
  · rw [he q 14 (by omega) (by omega) p6]; exact a6
  · rw [he q 17 (by omega) (by omega) p7]; exact a7
  · obtain ⟨x1, x2, x3, x4, -⟩ := (pl_J hq (k := f)).1 (by omega)
    rw [he _ f (by omega) (by omega) x1, he _ f (by omega) (by omega) x2, he _ f (by omega) (by omega) x3, he _ f (by omega) (by omega) x4]
    exact b1 f hf
  · obtain ⟨-, -, -, -, x5⟩ := (pl_J hq (k := f)).1 hf
    rw [he _ f (by omega) (by omega) x5]
    exact b2 f hf
  · obtain ⟨x1, x2, x3⟩ := (pl_J hq (k := c)).2.1 (by omega)
    rw [he _ c (by omega) (by omega) x1, he _ c (by omega) (by omega) x2, he _ c (by omega) (by omega) x3]
    exact b3 c hc
  · obtain ⟨x1, x2, -, -⟩ := (pl_J hq (k := k)).2.2 (by omega)
    rw [he _ k (by omega) (by omega) x1, he _ k (by omega) (by omega) x2]
    exact b4 k hk
  · obtain ⟨-, -, x1, x2⟩ := (pl_J hq (k := u)).2.2 (by omega)
    rw [he _ u (by omega) (by omega) x1, he _ u (by omega) (by omega) x2]
    exact b5 u hu
theorem FS_cg {F : Nat → Nat} {W : Int32} {I I' : Nat → Nat → Int32} (h : FS F W I) (he : ∀ k, k < 202 → I' 153 k = I 153 k) : FS F W I' :=
  ⟨fun k hk h10 => by rw [he k (by omega)]; exact h.1 k hk h10, by rw [he 10 (by decide)]; exact h.2⟩
theorem FH_cg {a : Nat} {F : Nat → Nat} {I I' : Nat → Nat → Int32} (h : FH a F I) (he : ∀ k, k < 25 → I' a k = I a k) : FH a F I' :=
  ⟨fun c hc => by rw [he _ (by omega)]; exact h.1 c hc, fun f hf => by rw [he _ (by omega)]; exact h.2.1 f hf, fun i h1 h2 h3 => by rw [he _ h2]; exact h.2.2 i h1 h2 h3⟩
noncomputable def nbl (lo hi : Nat) (ms : Md3) : Bool := ms.all (fun m => Nat.blt m.1 lo || Nat.blt hi m.1)
theorem nbl_ok {lo hi : Nat} {ms : Md3} (h : nbl lo hi ms = true) {a k : Nat} (h1 : lo ≤ a) (h2 : a ≤ hi) : inm ms a k = false := by
  cases hq : inm ms a k with
  | false => rfl
  | true =>
    obtain ⟨m, hm, h4⟩ := List.any_eq_true.mp hq
    obtain ⟨h4, -⟩ := andT h4
    have e := Nat.eq_of_beq_eq_true h4
    have q := List.all_eq_true.mp h m hm
    rcases Bool.or_eq_true_iff.mp q with q | q
    · have := Nat.le_of_ble_eq_true q; omega
    · have := Nat.le_of_ble_eq_true q; omega
end LRS
end
section
/-! close once more: with the moment that begins, and what the text read says -/
section CLZ
variable {l : Launch} {X : Nat × (Nat → Int32)} {d : Nat} {w : Nat × Nat} {p r : Nat} {I : Nat → Nat → Int32} {L : Nat → Nat → Int64} {kr : KR} {b : Nat → Nat} {n t : Nat}
/-- the moment that begins -/
noncomputable def nB (q : Nat) (I : Nat → Nat → Int32) : Prop := (∀ f, f < 6 → I 34 f = I (q + 2) f ∧ I 35 f = 0 ∧ I 36 f = 0) ∧ (∀ c, c < 5 → I 37 c = I (q + 6) c) ∧ I 33 4 = 0 ∧ I 33 5 = 0
theorem nB_of {q : Nat} {J I : Nat → Nat → Int32} (hq : q = 7 ∨ q = 20) (j1 : ∀ a i, (a < 33 ∨ 37 < a) → J a i = I a i) (j2 : ∀ f, f < 6 → J 34 f = I (q + 2) f ∧ J 35 f = 0 ∧ J 36 f = 0) (j3 : ∀ c, c < 5 → J 37 c = I (q + 6) c) (j4 : J 33 4 = 0) (j5 : J 33 5 = 0) : nB q (u2 (u2 (u2 J 1 6 0) 1 8 0) 1 13 0) := by
  have e : ∀ a i, a ≠ 1 → u2 (u2 (u2 J 1 6 0) 1 8 0) 1 13 0 a i = J a i := fun a i h => by rw [u2_o (by omega), u2_o (by omega), u2_o (by omega)]
  refine ⟨fun f hf => ?_, fun c hc => ?_, ?_, ?_⟩
  · rw [e 34 f (by decide), e (q + 2) f (by omega), e 35 f (by decide), e 36 f (by decide), j1 (q + 2) f (by omega)]
    exact j2 f hf
  · rw [e 37 c (by decide), e (q + 6) c (by omega), j1 (q + 6) c (by omega)]
    exact j3 c hc
  · rw [e 33 4 (by decide)]; exact j4
  · rw [e 33 5 (by decide)]; exact j5
set_option maxRecDepth 20000 in
theorem x_closeB (hp : p = 7 ∨ p = 20) (ht : I 2 1 = nI t) (ht9 : t ≤ 900) (hn : n ≤ t) (hb : ∀ i, i < t → b i < 256 ∧ I 3 i = sb (b i)) (hE : ∀ er, rdT b n (n + 1) P00 = .inl er → ∀ I' L', (∀ a i, ¬ (a = 1 ∧ i = 13) → ¬ (a = 2 ∧ 1 ≤ i) → a ≠ 5 → a ≠ 6 → ¬ (27 - p ≤ a ∧ a ≤ 27 - p + 12) → I' a i = I a i) → (∀ a i, a ≠ 2 → a ≠ 4 → L' a i = L a i) → I' 2 13 = nI er.1 → I' 2 14 = nI er.2 → I' 2 1 = 0 → I' 1 13 = 4 → kr (some (.int (-1))) (mk w p (27 - p) I' L')) (hO : ∀ P', rdT b n (n + 1) P00 = .inr P' → ∀ I' L', (∀ a i, ¬ (a = 1 ∧ (i = 6 ∨ i = 8 ∨ i = 13)) → ¬ (a = 2 ∧ 1 ≤ i) → a ≠ 5 → a ≠ 6 → ¬ (27 - p ≤ a ∧ a ≤ 27 - p + 12 ∨ 33 ≤ a ∧ a ≤ 37) → I' a i = I a i) → (∀ a i, a ≠ 2 → a ≠ 4 → L' a i = L a i) → I' 2 13 = 0 → I' 2 1 = 0 → PC (27 - p) P'.1 P'.2.1 I' → I' 1 13 = 0 → I' 1 6 = 0 → I' 1 8 = 0 → nB (27 - p) I' → kr (some (.int (nI (P'.1 4)))) (mk w (27 - p) (27 - p) I' L')) : Ev l X uX6_close (d + 12) true 0 0 [.ref 1, .int (nI n)] (mk w p r I L) kr := by
  refine Ev.of (by decide) (Nat.le_of_ble_eq_true rfl) ?_
  rcases hp with rfl | rfl
  · have ok : ∀ P', rdT b n (n + 1) P00 = .inr P' → ∀ I' L', sR 20 (u2 I 2 1 0) I' L L' → SC b n 20 P' I' L' → Wf l X uX6_close (d + 12) true (mC (mk w 7 r I L) + 0, mS (mk w 7 r I L) + 0) 50 [(0, .ref 1), (1, .int (nI n))] [] (mk w 7 20 I' L') kr := by
      intro P' hP I' L' hs hS
      obtain ⟨tx, he, hc, nc, pc⟩ := id hS
      refine Wf.gc tkX6_close [68] ?_
      conv => whnf
      have rest : Wf l X uX6_close (d + 12) true (mC (mk w 7 r I L) + 0, mS (mk w 7 r I L) + 0) 68 [(0, .ref 1), (1, .int (nI n)), (2, .ref 7)] [] (mk w 20 20 I' L') kr := by
        refine Wf.gc tkX6_close [] ?_
        conv => whnf
        refine x_begin (q := 20) (d := d + 10) (Or.inr rfl) (fun J j1 j2 j3 j4 j5 => ?_)
        conv => whnf
        refine sX6_answer ?_
        conv => whnf
        show kr (some (.int (J 20 4))) (mk w 20 20 (u2 (u2 (u2 J 1 6 0) 1 8 0) 1 13 0) L')
        rw [j1 20 4 (by decide), show I' 20 4 = nI (P'.1 4) from pc.1.2.2.2.2.1]
        refine hO P' hP _ L' (fun a i z1 z2 z3 z4 z5 => ?_) (fun a i z1 z2 => hs.2 a i z1 z2) ?_ ?_ ?_ rfl rfl rfl (nB_of (by decide) j1 j2 j3 j4 j5)
        · rw [u2_o (by omega), u2_o (by omega), u2_o (by omega), j1 a i (by omega), hs.1 a i (by omega) z3 z4 (by omega), u2_o (by omega)]
        · rw [u2_o (by decide), u2_o (by decide), u2_o (by decide), j1 2 13 (by decide)]; exact nc.1.2
        · rw [u2_o (by decide), u2_o (by decide), u2_o (by decide), j1 2 1 (by decide), hs.1 2 1 (by omega) (by decide) (by decide) (by omega)]; rfl
        · have pcJ : PC 20 P'.1 P'.2.1 (u2 (u2 (u2 J 1 6 0) 1 8 0) 1 13 0) := PC_eq pc (fun a i z1 z2 => by rw [u2_o (by omega), u2_o (by omega), u2_o (by omega)]; exact j1 a i (by omega))
          exact pcJ
      rw [← wR_sw (p := 7) (q := 20) rfl] at rest
      exact rest
    refine Wf.gc tkX6_close [50] ?_
    conv => whnf
    refine ⟨fun z => ?_, fun z => ?_⟩
    · have z : nI n < 0 := z
      exact absurd z (nI_pos (by omega))
    conv => whnf
    refine b1' (by show nI n ≤ I 2 1; rw [ht]; exact nI_le hn (by omega)) ?_
    conv => whnf
    show Ev l X uX4_reads (d + 11) true 0 0 [.ref 2, .int (nI n), .ref 20] (mk w 7 r (u2 I 2 1 0) L) _
    refine x_reads (d := d) (b := b) (Or.inr rfl) (by omega) (fun i hi => by rw [u2_o (by omega)]; exact hb i (by omega)) (fun er hr I' L' hs h1 h2 => ?_) (fun P' hr I' L' hs hS => ?_)
    · conv => whnf
      refine b2 (by decide) ?_
      conv => whnf
      refine sX6_refuse ?_
      conv => whnf
      refine hE er hr (u2 I' 1 13 4) L' (fun a i z1 z2 z3 z4 z5 => ?_) hs.2 ?_ ?_ ?_ rfl
      · rw [u2_o (by omega), hs.1 a i (by omega) z3 z4 (by omega), u2_o (by omega)]
      · rw [u2_o (by decide)]; exact h1
      · rw [u2_o (by decide)]; exact h2
      · rw [u2_o (by decide), hs.1 2 1 (by omega) (by decide) (by decide) (by omega)]; rfl
    · conv => whnf
      refine b1 (by decide) ?_
      conv => whnf
      exact ok P' hr I' L' hs hS
  · have ok : ∀ P', rdT b n (n + 1) P00 = .inr P' → ∀ I' L', sR 7 (u2 I 2 1 0) I' L L' → SC b n 7 P' I' L' → Wf l X uX6_close (d + 12) true (mC (mk w 20 r I L) + 0, mS (mk w 20 r I L) + 0) 50 [(0, .ref 1), (1, .int (nI n))] [] (mk w 20 7 I' L') kr := by
      intro P' hP I' L' hs hS
      obtain ⟨tx, he, hc, nc, pc⟩ := id hS
      refine Wf.gc tkX6_close [68] ?_
      conv => whnf
      have rest : Wf l X uX6_close (d + 12) true (mC (mk w 20 r I L) + 0, mS (mk w 20 r I L) + 0) 68 [(0, .ref 1), (1, .int (nI n)), (2, .ref 20)] [] (mk w 7 7 I' L') kr := by
        refine Wf.gc tkX6_close [] ?_
        conv => whnf
        refine x_begin (q := 7) (d := d + 10) (Or.inl rfl) (fun J j1 j2 j3 j4 j5 => ?_)
        conv => whnf
        refine sX6_answer ?_
        conv => whnf
        show kr (some (.int (J 7 4))) (mk w 7 7 (u2 (u2 (u2 J 1 6 0) 1 8 0) 1 13 0) L')
        rw [j1 7 4 (by decide), show I' 7 4 = nI (P'.1 4) from pc.1.2.2.2.2.1]
        refine hO P' hP _ L' (fun a i z1 z2 z3 z4 z5 => ?_) (fun a i z1 z2 => hs.2 a i z1 z2) ?_ ?_ ?_ rfl rfl rfl (nB_of (by decide) j1 j2 j3 j4 j5)
        · rw [u2_o (by omega), u2_o (by omega), u2_o (by omega), j1 a i (by omega), hs.1 a i (by omega) z3 z4 (by omega), u2_o (by omega)]
        · rw [u2_o (by decide), u2_o (by decide), u2_o (by decide), j1 2 13 (by decide)]; exact nc.1.2
        · rw [u2_o (by decide), u2_o (by decide), u2_o (by decide), j1 2 1 (by decide), hs.1 2 1 (by omega) (by decide) (by decide) (by omega)]; rfl
        · have pcJ : PC 7 P'.1 P'.2.1 (u2 (u2 (u2 J 1 6 0) 1 8 0) 1 13 0) := PC_eq pc (fun a i z1 z2 => by rw [u2_o (by omega), u2_o (by omega), u2_o (by omega)]; exact j1 a i (by omega))
          exact pcJ
      rw [← wR_sw (p := 20) (q := 7) rfl] at rest
      exact rest
    refine Wf.gc tkX6_close [50] ?_
    conv => whnf
    refine ⟨fun z => ?_, fun z => ?_⟩
    · have z : nI n < 0 := z
      exact absurd z (nI_pos (by omega))
    conv => whnf
    refine b1' (by show nI n ≤ I 2 1; rw [ht]; exact nI_le hn (by omega)) ?_
    conv => whnf
    show Ev l X uX4_reads (d + 11) true 0 0 [.ref 2, .int (nI n), .ref 7] (mk w 20 r (u2 I 2 1 0) L) _
    refine x_reads (d := d) (b := b) (Or.inl rfl) (by omega) (fun i hi => by rw [u2_o (by omega)]; exact hb i (by omega)) (fun er hr I' L' hs h1 h2 => ?_) (fun P' hr I' L' hs hS => ?_)
    · conv => whnf
      refine b2 (by decide) ?_
      conv => whnf
      refine sX6_refuse ?_
      conv => whnf
      refine hE er hr (u2 I' 1 13 4) L' (fun a i z1 z2 z3 z4 z5 => ?_) hs.2 ?_ ?_ ?_ rfl
      · rw [u2_o (by omega), hs.1 a i (by omega) z3 z4 (by omega), u2_o (by omega)]
      · rw [u2_o (by decide)]; exact h1
      · rw [u2_o (by decide)]; exact h2
      · rw [u2_o (by decide), hs.1 2 1 (by omega) (by decide) (by decide) (by omega)]; rfl
    · conv => whnf
      refine b1 (by decide) ?_
      conv => whnf
      exact ok P' hr I' L' hs hS
end CLZ
section JCM
variable {M M' M'' : Mm}
noncomputable def eY6 (o : Option ((Nat × Nat) ⊕ Ps)) (M M'' : Mm) : Prop := match o with
  | none => mR M'' 1 1 = mR M 1 1 ∧ ∀ a i, ¬ (a = 1 ∧ i = 13) → mI M'' a i = mI M a i
  | some (.inl er) => mR M'' 1 1 = mR M 1 1 ∧ (∀ a i, ¬ (a = 1 ∧ i = 13) → ¬ (a = 2 ∧ 1 ≤ i) → a ≠ 5 → a ≠ 6 → ¬ (27 - mR M 1 1 ≤ a ∧ a ≤ 27 - mR M 1 1 + 12) → mI M'' a i = mI M a i) ∧ mI M'' 2 14 = nI er.2
  | some (.inr P) => mR M'' 1 1 = 27 - mR M 1 1 ∧ (∀ a i, ¬ (a = 1 ∧ (i = 6 ∨ i = 8 ∨ i = 13)) → ¬ (a = 2 ∧ 1 ≤ i) → a ≠ 5 → a ≠ 6 → ¬ (27 - mR M 1 1 ≤ a ∧ a ≤ 27 - mR M 1 1 + 12 ∨ 33 ≤ a ∧ a ≤ 37) → mI M'' a i = mI M a i) ∧ PC (27 - mR M 1 1) P.1 P.2.1 (mI M'') ∧ mI M'' 1 6 = 0 ∧ mI M'' 1 8 = 0 ∧ nB (27 - mR M 1 1) (mI M'')
variable {l : Launch} {X : Nat × (Nat → Int32)} {kr : KR} {t : Nat} {b : Nat → Nat}
theorem k6_close (d : Nat) {n : Int32} (hL : LPm M) (h6 : T6 t b M) (ht : t ≤ 900) (h : ∀ M', LPm M' → M'.1 = M.1 → kp msZ8 M M' → T6 (clA n t) b M' → mI M' 2 13 = cF (cO b n t) (mI M 2 13) → mI M' 1 13 = clT (cO b n t) → (∃ M'', eY6 (cO b n t) M M'' ∧ M''.1 = M.1 ∧ agr M' M'') → kr (some (.int (cA (cO b n t)))) M') : Ev l X uX6_close (d + 12) true 0 0 [.ref 1, .int n] M kr := by
  have A : Ev l X uX6_close (d + 12) true 0 0 [.ref 1, .int n] M (fun r M' => ∃ x : Int32, r = some (.int x) ∧ (Iv Pt8 M' ∧ RefI M' ∧ M'.1 = M.1 ∧ kp msZ8 M M' ∧ mI M' 2 1 = nI (clA n t))) := by
    refine cl6_ev (d := d + 1) (e := 1) hL.1 (LPm_e hL) (fun r M' hJ ht => ?_)
    exact ⟨_, rfl, hJ.2.1, RefI_keep hL.2.1 hJ.2.1 hJ.2.2.1 (by decide +kernel), hJ.1, hJ.2.2.1, by rw [ht]; exact clA_i h6.1⟩
  have B : Ev l X uX6_close (d + 12) true 0 0 [.ref 1, .int n] M (fun r M'' => ∃ x : Int32, r = some (.int x) ∧ (x = cA (cO b n t) ∧ mR M'' 1 2 = 27 - mR M'' 1 1 ∧ mI M'' 2 13 = cF (cO b n t) (mI M 2 13) ∧ mI M'' 1 13 = clT (cO b n t) ∧ eY6 (cO b n t) M M'')) := by
    refine Ev.ofm hL.1 hL.2.2 ?_
    show Ev l X uX6_close (d + 12) true 0 0 [.ref 1, .int n] (mk (mC M, mS M) (mR M 1 1) (mR M 2 3) (mI M) (mL M)) _
    have hp := Iv_p hL.1
    rcases cO_cases (b := b) (n := n) ht with ⟨e, hn⟩ | ⟨k, hk, rfl, e⟩
    · rw [e]
      refine x_close2 (d := d + 11) hp h6.1 ht hn ⟨_, rfl, rfl, rfl, ?_, ?_, rfl, fun a i z => ?_⟩
      · show u2 (mI M) 1 13 2 2 13 = mI M 2 13
        exact u2_o (by decide)
      · show u2 (mI M) 1 13 2 1 13 = 2
        exact u2_s
      · show u2 (mI M) 1 13 2 a i = mI M a i
        exact u2_o z
    · rw [e]
      refine x_closeB (d := d) hp h6.1 ht hk h6.2 (fun er her I' L' i1 i2 i3 i4 i5 i6 => ?_) (fun P' hP I' L' i1 i2 i3 i4 i5 i6 i7 i8 i9 => ?_)
      · rw [her]
        exact ⟨_, rfl, rfl, rfl, i3, i6, rfl, i1, i4⟩
      · rw [hP]
        refine ⟨_, rfl, rfl, ?_, i3, i6, rfl, i1, i5, i7, i8, i9⟩
        show 27 - (27 - mR M 1 1) = 27 - (27 - mR M 1 1)
        rfl
  refine Ev.imp (Ev.both A B) ?_
  rintro r M' ⟨x, rfl, ⟨a1, a2, a3, a4, a5⟩, M'', ⟨rfl, c2, c3, c4, c5⟩, c6, c7⟩
  have hN : mN M' = 167 := (congrArg (fun x => x.1) a3).trans hL.2.2.1
  have hF : FM M' := ⟨hN, by rw [ag_R a1 hN c7 (by decide) (by decide) (show isR 1 2 = true from rfl), ag_R a1 hN c7 (by decide) (by decide) (show isR 1 1 = true from rfl)]; exact c2⟩
  refine h M' ⟨a1, a2, hF⟩ a3 a4 ⟨a5, fun i hi => ?_⟩ ?_ ?_ ⟨M'', c5, c6, c7⟩
  · rw [(a4 3 i rfl).1]
    refine h6.2 i (Nat.lt_of_lt_of_le hi ?_)
    unfold clA
    split <;> omega
  · rw [ag_I a1 hN c7 (by decide) (by decide) (show isI 2 13 = true from rfl)]
    exact c3
  · rw [ag_I a1 hN c7 (by decide) (by decide) (show isI 1 13 = true from rfl)]
    exact c4
noncomputable def eY7 (o : Option ((Nat × Nat) ⊕ Ps)) (M M'' : Mm) : Prop := match o with
  | none => ∀ a i, ¬ (a = 150 ∧ (i = 0 ∨ i = 11)) → mI M'' a i = mI M a i
  | some (.inl er) => (∀ a i, ¬ (a = 150 ∧ i ≤ 13) → a ≠ 152 → a ≠ 154 → a ≠ 156 → mI M'' a i = mI M a i) ∧ mI M'' 150 10 = nI er.2
  | some (.inr P) => (∀ a i, ¬ (a = 150 ∧ (i ≤ 14 ∨ i = 22 ∨ i = 23)) → ¬ (152 ≤ a ∧ a ≤ 157) → mI M'' a i = mI M a i) ∧ mI M'' 150 14 = 1 ∧ mI M'' 150 22 = 0 ∧ mI M'' 150 23 = 0 ∧ PI P.1 ∧ B3 P ∧ KM P.1 P.2.2.1 ∧ 0 < P.1 4 ∧ FS P.1 P.2.1 (mI M'') ∧ FH 155 P.1 (mI M'') ∧ FH 157 P.1 (mI M'')
theorem eY7_of {o : Option ((Nat × Nat) ⊕ Ps)} (h : eX7 o M M') (hP : ∀ P, o = some (.inr P) → PI P.1) : eY7 o M M' := by
  cases o with
  | none => exact h
  | some r =>
    cases r with
    | inl er => exact h
    | inr P =>
      obtain ⟨h1, h2, h3, h4, h5, h6⟩ := h
      exact ⟨h1, h2, h3, h4, hP P rfl, h5, h6⟩
theorem k7_close (d : Nat) {n : Int32} (hL : LPm M) (h6 : T7 t b M) (ht : t ≤ 900) (h : ∀ M', LPm M' → M'.1 = M.1 → kp msC M M' → T7 (clA n t) b M' → mI M' 150 9 = cF (cO b n t) (mI M 150 9) → mI M' 150 11 = clT (cO b n t) → (∃ M'', eY7 (cO b n t) M M'' ∧ M''.1 = M.1 ∧ agr M' M'') → kr (some (.int (cA (cO b n t)))) M') : Ev l X uX7_close (d + 12) true 0 0 [.ref 150, .int n] M kr :=
  s7_close d hL h6 ht (fun M' h1 h2 h3 h4 h5 h6 h7 h8 => h M' h1 h2 h3 h4 h5 h6 ⟨M', eY7_of h7 h8, h2, agr_rf M'⟩)
end JCM
end
section
/-! an exact answer joined with the interval contract; fault -/
section ANS
variable {l : Launch} {X : Nat × (Nat → Int32)} {d : Nat} {w : Nat × Nat} {p r : Nat} {I : Nat → Nat → Int32} {L : Nat → Nat → Int64} {kr : KR} {M : Mm}
theorem j_ans {q : Md} {dd : Nat} {av : List Value} {ms : Md3} {v : Int32} (hL : LPm M) (A : ∀ k : KR, (∀ (x : Int32) (M' : Mm), LI M' → M'.1 = M.1 → kp ms M M' → k (some (.int x)) M') → Ev l X q dd true 0 0 av M k) (B : Ev l X q dd true 0 0 av (ffm M) (fun r _ => r = some (.int v))) (h : ∀ M', LI M' → M'.1 = M.1 → kp ms M M' → kr (some (.int v)) M') : Ev l X q dd true 0 0 av M kr := by
  have A' := A (fun r M' => ∃ x : Int32, r = some (.int x) ∧ (LI M' ∧ M'.1 = M.1 ∧ kp ms M M')) (fun x M' h1 h2 h3 => ⟨x, rfl, h1, h2, h3⟩)
  have B' : Ev l X q dd true 0 0 av M (fun r M'' => ∃ x : Int32, r = some (.int x) ∧ x = v) := Ev.ofm hL.1 hL.2.2 (Ev.imp B (fun r M' e => ⟨v, e, rfl⟩))
  refine Ev.imp (Ev.both A' B') ?_
  rintro r M' ⟨x, rfl, ⟨a1, a2, a3⟩, M'', rfl, -⟩
  exact h M' a1 a2 a3
end ANS
end
section
section SB
variable {l : Launch} {X : Nat × (Nat → Int32)} {d : Nat} {w : Nat × Nat} {p r : Nat} {I : Nat → Nat → Int32} {L : Nat → Nat → Int64} {kr : KR}
set_option maxRecDepth 20000 in
theorem sX0_start_n {a f : Nat} {v : Int32} (ha : a = 7 ∨ a = 20) (hf : f < 6) (h : kr none (mk w p r (cr I (I (a + 1) f) (I (a + 3) f) v 0 0 (I (a + 2) f) 0 0) L)) : Ev l X uX0_start d true 0 0 [.ref 40, .ref a, .int (nI f), .int (-2), .int v] (mk w p r I L) kr := by
  refine Ev.of (by decide) (Nat.le_of_ble_eq_true rfl) ?_
  refine Wf.go tkX0_start 60 ?_
  rw [← cr_new] at h
  rcases ha with rfl | rfl
  all_goals
    conv => whnf
    refine ⟨f, ix (N := 6) hf (by decide), ?_⟩
    conv => whnf
    refine ⟨f, ix (N := 6) hf (by decide), ?_⟩
    conv => whnf
    refine b2 (by decide) ?_
    conv => whnf
    refine ⟨f, ix (N := 6) hf (by decide), ?_⟩
    conv => whnf
    exact h
set_option maxRecDepth 20000 in
theorem sX0_start_c {a f j : Nat} {v : Int32} (ha : a = 7 ∨ a = 20) (hf : f < 6) (hj : j < 5) (h : kr none (mk w p r (cr I (I (a + 1) f) (I (a + 3) f) v (I (a + 8) j) 0 (I (a + 2) f) 0 0) L)) : Ev l X uX0_start d true 0 0 [.ref 40, .ref a, .int (nI f), .int (nI j), .int v] (mk w p r I L) kr := by
  refine Ev.of (by decide) (Nat.le_of_ble_eq_true rfl) ?_
  refine Wf.go tkX0_start 60 ?_
  rw [← cr_new] at h
  rcases ha with rfl | rfl
  all_goals
    conv => whnf
    refine ⟨f, ix (N := 6) hf (by decide), ?_⟩
    conv => whnf
    refine ⟨f, ix (N := 6) hf (by decide), ?_⟩
    conv => whnf
    refine b1 (fun z => z (nI_pos' (by omega))) ?_
    conv => whnf
    refine ⟨j, ix (N := 5) hj (by decide), ?_⟩
    conv => whnf
    refine ⟨f, ix (N := 6) hf (by decide), ?_⟩
    conv => whnf
    exact h
set_option maxRecDepth 20000 in
/-- Course.pass: a day -/
theorem sX0_pass {k wr v e : Int32} {y : Fc} {calm : Bool} (h : kr (some (.int (bI (cLt k v e calm y)))) (mk w p r (crf I k wr v e (cSt k wr v e calm y)) L)) : Ev l X uX0_pass d true 0 0 [.ref 40, .int (bI calm)] (mk w p r (crf I k wr v e y) L) kr := by
  obtain ⟨n, h0, bb, dr⟩ := y
  refine Ev.of (by decide) (Nat.le_of_ble_eq_true rfl) ?_
  refine Wf.go tkX0_pass 9 ?_
  conv => whnf
  simp only [crf, wI_mk, mI_mk, cr_4, crv4, crv5]
  refine ⟨fun c1 => ?_, fun c1 => ?_⟩
  -- it hasn't fallen
  · -- behind the canon
    have K : ∀ b1 : Int32, cVx v e calm (n + 1) bb = b1 → Wf l X uX0_pass d true (mC (mk w p r (crf I k wr v e (n, h0, bb, dr)) L) + 0, mS (mk w p r (crf I k wr v e (n, h0, bb, dr)) L) + 0) 55 [(0, .ref 40), (1, .int (bI calm))] [] (mk w p r (cr I k wr v e (n + 1) h0 b1 dr) L) kr := by
      intro b1 hb1
      have E : ∀ ls0 : Int32, cLs k h0 = ls0 → Wf l X uX0_pass d true (mC (mk w p r (crf I k wr v e (n, h0, bb, dr)) L) + 0, mS (mk w p r (crf I k wr v e (n, h0, bb, dr)) L) + 0) 76 [(0, .ref 40), (1, .int (bI calm))] [.int ls0] (mk w p r (cr I k wr v e (n + 1) h0 b1 dr) L) kr := by
        intro ls0 hls
        refine Wf.go tkX0_pass 5 ?_
        conv => whnf
        simp only [mI_mk, crv6]
        refine ⟨fun c2 => ?_, fun c2 => ?_⟩
        · have hlt : cLt k v e calm (n, h0, bb, dr) = true := decide_eq_true ⟨c1, by rw [hb1, hls]; exact Int32.not_lt.mpr c2⟩
          have c2' : ¬ cVx v e calm (n + 1) bb < cLs k h0 := by rw [hb1, hls]; exact Int32.not_lt.mpr c2
          have G : ∀ b2 : Int32, (if k = 1 then b1 - h0 else 0) = b2 → Wf l X uX0_pass d true (mC (mk w p r (crf I k wr v e (n, h0, bb, dr)) L) + 0, mS (mk w p r (crf I k wr v e (n, h0, bb, dr)) L) + 0) 109 [(0, .ref 40), (1, .int (bI calm)), (2, .int ls0)] [.int b2, .ref 40] (mk w p r (cr I k wr v e (n + 1) h0 b1 dr) L) kr := by
            intro b2 hb2
            refine Wf.go tkX0_pass 18 ?_
            conv => whnf
            simp only [wI_mk, mI_mk, cr_5, cr_6, cr_7, crv1, crv5, crv7]
            refine ⟨fun c3 => ?_, fun c3 => ?_⟩
            · refine Wf.go tkX0_pass 2 ?_
              conv => whnf
              rw [hlt] at h
              have c3' : ¬ h0 - wr < 1 := Int32.not_lt.mpr c3
              have ec : cSt k wr v e calm (n, h0, bb, dr) = (n + 1, h0 - wr, (if k = 1 then cVx v e calm (n + 1) bb - h0 else 0), dr + 1) := by
                unfold cSt
                rw [if_neg c1, if_neg c2', if_neg c3']
              rw [ec, hb1, hb2] at h
              exact ⟨Or.inr rfl, h⟩
            · refine Wf.go tkX0_pass 8 ?_
              conv => whnf
              simp only [wI_mk, cr_5, cr_6]
              rw [hlt] at h
              have c3' : h0 - wr < 1 := Int32.not_le.mp c3
              have ec : cSt k wr v e calm (n, h0, bb, dr) = (n + 1, 0, 0, dr + 1) := by
                unfold cSt
                rw [if_neg c1, if_neg c2', if_pos c3']
              rw [ec] at h
              exact ⟨Or.inr trivial, h⟩
          refine Wf.go tkX0_pass 5 ?_
          conv => whnf
          simp only [mI_mk, crv0]
          refine ⟨fun c4 => ?_, fun c4 => ?_⟩
          · refine Wf.go tkX0_pass 1 ?_
            conv => whnf
            exact G 0 (if_neg c4)
          · refine Wf.go tkX0_pass 6 ?_
            conv => whnf
            simp only [mI_mk, crv5, crv6]
            exact G _ (if_pos c4)
        · refine Wf.go tkX0_pass 2 ?_
          conv => whnf
          have c2' : b1 < ls0 := Int32.not_le.mp c2
          have hlt : cLt k v e calm (n, h0, bb, dr) = false := decide_eq_false (fun z => z.2 (by rw [hb1, hls]; exact c2'))
          rw [hlt] at h
          have c2'' : cVx v e calm (n + 1) bb < cLs k h0 := by rw [hb1, hls]; exact c2'
          have ec : cSt k wr v e calm (n, h0, bb, dr) = (n + 1, h0, cVx v e calm (n + 1) bb, dr) := by
            unfold cSt
            rw [if_neg c1, if_pos c2'']
          rw [ec, hb1] at h
          exact ⟨Or.inl rfl, h⟩
      refine Wf.go tkX0_pass 4 ?_
      conv => whnf
      simp only [mI_mk, crv0]
      refine ⟨fun c5 => ?_, fun c5 => ?_⟩
      · refine Wf.go tkX0_pass 2 ?_
        conv => whnf
        simp only [mI_mk, crv5]
        exact E _ (if_neg c5)
      · refine Wf.go tkX0_pass 5 ?_
        conv => whnf
        simp only [mI_mk, crv5]
        exact E _ (if_pos c5)
    refine Wf.go tkX0_pass 2 ?_
    conv => whnf
    cases calm with
    | true =>
      refine b1 (by decide) ?_
      exact K bb (if_neg (fun z => by cases z.1))
    | false =>
      refine b2 (fun z => z rfl) ?_
      refine Wf.go tkX0_pass 3 ?_
      conv => whnf
      simp only [mI_mk, crv3]
      refine ⟨fun c6 => ?_, fun c6 => ?_⟩
      · exact K bb (if_neg (fun z => Int32.not_le.mpr z.2.1 c6))
      · refine Wf.go tkX0_pass 6 ?_
        conv => whnf
        simp only [mI_mk, crv3, crv4]
        have c6' : 0 < e := Int32.not_le.mp c6
        refine ⟨fun z => by rw [z] at c6'; exact absurd c6' (by decide), ?_⟩
        conv => whnf
        refine ⟨fun c7 => ?_, fun c7 => ?_⟩
        · exact K bb (if_neg (fun z => c7 z.2.2))
        · refine Wf.go tkX0_pass 7 ?_
          conv => whnf
          simp only [wI_mk, mI_mk, cr_6, crv2, crv6]
          exact K (bb + v) (if_pos ⟨rfl, c6', c7⟩)
  · refine Wf.go tkX0_pass 2 ?_
    conv => whnf
    have hlt : cLt k v e calm (n, h0, bb, dr) = false := decide_eq_false (fun z => z.1 c1)
    rw [hlt] at h
    have ec : cSt k wr v e calm (n, h0, bb, dr) = (n + 1, h0, bb, dr) := by
      unfold cSt
      rw [if_pos c1]
    rw [ec] at h
    exact ⟨Or.inl rfl, h⟩
set_option maxRecDepth 20000 in
theorem sX0_firstDrop {k wr v e : Int32} {y : Fc} {N : Nat} (hN : N < 1000) (h : ∀ y', kr (some (.int (oI ((ff (fun i => cLt k v e false (cIt k wr v e y i)) N 0).map (· + 1))))) (mk w p r (crf I k wr v e y') L)) : Ev l X uX0_firstDrop (d + 1) true 0 0 [.ref 40, .int (nI N)] (mk w p r (crf I k wr v e y) L) kr := by
  refine Ev.of (by decide) (Nat.le_of_ble_eq_true rfl) ?_
  refine Wf.gc tkX0_firstDrop [2] ?_
  conv => whnf
  refine srch (e := N) (P := fun i => cLt k v e false (cIt k wr v e y i)) (Wi := fun i => Wf l X uX0_firstDrop (d + 1) true _ 2 [(0, .ref 40), (1, .int (nI N)), (2, .int (nI (i + 1)))] [] (mk w p r (crf I k wr v e (cIt k wr v e y i)) L) kr) (K := fun o => ∀ y', kr (some (.int (oI (o.map (· + 1))))) (mk w p r (crf I k wr v e y') L)) (fun hk => ?_) (fun i hi => ⟨fun hP hk => ?_, fun hP hw => ?_⟩) 0 (Nat.zero_le _) h
  · refine Wf.gc tkX0_firstDrop [2] ?_
    conv => whnf
    refine b1 (fun z => z (nI_lt (by omega) (by omega))) ?_
    conv => whnf
    exact hk _
  · refine Wf.gc tkX0_firstDrop [2] ?_
    conv => whnf
    refine b2 (nI_nlt (by omega) (by omega)) ?_
    conv => whnf
    refine sX0_pass (calm := false) ?_
    rw [hP]
    conv => whnf
    refine b2 (by decide) ?_
    conv => whnf
    exact hk _
  · refine Wf.gc tkX0_firstDrop [2] ?_
    conv => whnf
    refine b2 (nI_nlt (by omega) (by omega)) ?_
    conv => whnf
    refine sX0_pass (calm := false) ?_
    rw [hP]
    conv => whnf
    refine b1 (fun z => z rfl) ?_
    conv => whnf
    rw [nI_s]
    exact hw
theorem sX2_hasFallen {a f : Nat} (hf : f < 6) (ha : a = 33) (h1 : I 34 f = 0 → kr (some (.int 1)) (mk w p r I L)) (h0 : ¬ I 34 f = 0 → kr (some (.int 0)) (mk w p r I L)) : Ev l X uX2_hasFallen d true 0 0 [.ref a, .int (nI f)] (mk w p r I L) kr := by
  subst ha
  refine Ev.of (by decide) (Nat.le_of_ble_eq_true rfl) ?_
  refine Wf.gc tkX2_hasFallen [] ?_
  conv => whnf
  refine ⟨f, ix (N := 6) hf (by decide), ?_⟩
  conv => whnf
  refine ⟨fun c1 => ?_, fun c1 => ?_⟩
  · conv => whnf
    exact ⟨Or.inl rfl, h0 c1⟩
  · conv => whnf
    exact ⟨Or.inr rfl, h1 c1⟩
/-- who has a face now -/
noncomputable def cOf (I : Nat → Nat → Int32) (C : Nat) (f : Int32) : Option Nat := ff (fun c => decide (I 37 c = f)) C 0
set_option maxRecDepth 20000 in
theorem sX6_canonOf {C : Nat} {f : Int32} (hp : p = 7 ∨ p = 20) (hC : I p 10 = nI C) (hb : C ≤ 5) (h : kr (some (.int (oI (cOf I C f)))) (mk w p r I L)) : Ev l X uX6_canonOf d true 0 0 [.ref 1, .int f] (mk w p r I L) kr := by
  refine Ev.of (by decide) (Nat.le_of_ble_eq_true rfl) ?_
  refine Wf.gc tkX6_canonOf [2] ?_
  conv => whnf
  refine srch (e := C) (P := fun c => decide (I 37 c = f)) (Wi := fun i => Wf l X uX6_canonOf d true _ 2 [(0, .ref 1), (1, .int f), (2, .int (nI i))] [] (mk w p r I L) kr) (K := fun o => kr (some (.int (oI o))) (mk w p r I L)) (fun hk => ?_) (fun i hi => ⟨fun hP hk => ?_, fun hP hw => ?_⟩) 0 (Nat.zero_le _) h
  all_goals rcases hp with rfl | rfl
  all_goals refine Wf.gc tkX6_canonOf [2] ?_
  all_goals conv => whnf
  · refine b1 (fun z => z (cle hC (Nat.le_refl _) (by omega))) ?_
    conv => whnf
    exact hk
  · refine b1 (fun z => z (cle hC (Nat.le_refl _) (by omega))) ?_
    conv => whnf
    exact hk
  all_goals
    refine b2 (cnle hC hi (by omega)) ?_
    conv => whnf
    refine ⟨i, ix (N := 5) (by omega) (by decide), ?_⟩
    conv => whnf
    first
      | (refine b2 (fun z => z (of_decide_eq_true hP)) ?_
         conv => whnf
         exact hk)
      | (refine b1 (of_decide_eq_false hP) ?_
         conv => whnf
         rw [nI_s]
         exact hw)
/-- how vexed, how often (nobody: 0, 0) -/
noncomputable def vxO (I : Nat → Nat → Int32) (p : Nat) : Option Nat → Int32
  | none => 0
  | some c => I (p + 7) c
noncomputable def evO (I : Nat → Nat → Int32) (p : Nat) : Option Nat → Int32
  | none => 0
  | some c => I (p + 8) c
/-- face f's course from now on, had by o -/
noncomputable def nowF (I : Nat → Nat → Int32) (f : Nat) : Fc := (I 33 4, I 34 f, I 35 f, 0)
noncomputable def crs (I : Nat → Nat → Int32) (p f : Nat) (o : Option Nat) (y : Fc) : Nat → Nat → Int32 := crf I (I (p + 1) f) (I (p + 3) f) (vxO I p o) (evO I p o) y
set_option maxRecDepth 20000 in
theorem sX6_startNow {f : Nat} {o : Option Nat} (hp : p = 7 ∨ p = 20) (hf : f < 6) (ho : ∀ c, o = some c → c < 5) (h : kr none (mk w p r (crs I p f o (nowF I f)) L)) : Ev l X uX6_startNow (d + 1) true 0 0 [.ref 1, .int (nI f), .int (oI o)] (mk w p r I L) kr := by
  refine Ev.of (by decide) (Nat.le_of_ble_eq_true rfl) ?_
  refine Wf.gc tkX6_startNow [] ?_
  have tail : ∀ v e : Int32, vxO I p o = v → evO I p o = e → kr none (mk w p r (u2 (u2 (u2 (cr I (I (p + 1) f) (I (p + 3) f) v e 0 (I (p + 2) f) 0 0) 40 5 (I 34 f)) 40 6 (I 35 f)) 40 4 (I 33 4)) L) := by
    intro v e hv he
    rw [cr_5, cr_6, cr_4, ← hv, ← he]
    exact h
  have hq := hp
  rcases hp with rfl | rfl
  all_goals
    cases o with
    | none =>
      conv => whnf
      refine b2 (by decide) ?_
      conv => whnf
      refine sX0_start_n hq hf ?_
      conv => whnf
      refine ⟨f, ix (N := 6) hf (by decide), ?_⟩
      conv => whnf
      refine ⟨f, ix (N := 6) hf (by decide), ?_⟩
      conv => whnf
      exact tail _ _ rfl rfl
    | some c =>
      have hc := ho c rfl
      conv => whnf
      refine b1 (fun z => z (nI_pos' (by omega))) ?_
      conv => whnf
      refine ⟨c, ix (N := 5) hc (by decide), ?_⟩
      conv => whnf
      refine sX0_start_c hq hf hc ?_
      conv => whnf
      refine ⟨f, ix (N := 6) hf (by decide), ?_⟩
      conv => whnf
      refine ⟨f, ix (N := 6) hf (by decide), ?_⟩
      conv => whnf
      exact tail _ _ rfl rfl
/-- the face's course behind n days -/
noncomputable def fw (I : Nat → Nat → Int32) (p f : Nat) (o : Option Nat) (n : Nat) : Fc := cIt (I (p + 1) f) (I (p + 3) f) (vxO I p o) (evO I p o) (nowF I f) n
end SB
end
section
noncomputable def ixO (N : Nat) (x : Int32) : Option Nat := if 0 ≤ x ∧ x < nI N then some x.toNatClampNeg else none
theorem ixO_some {N j : Nat} (h : j < N) (hN : N < 2147483648) : ixO N (nI j) = some j := by
  unfold ixO
  rw [if_pos ⟨nI_pos' (by omega), nI_lt h hN⟩, nI_clamp (by omega)]
theorem ixO_none {N : Nat} {x : Int32} (hN : N < 2147483648) (h : ¬ ∃ j, j < N ∧ x = nI j) : ixO N x = none := by
  unfold ixO
  rw [if_neg]
  intro z
  obtain ⟨j, hj, e⟩ := le_nI hN (Int32.not_lt.mpr z.1) (Int32.not_le.mpr z.2)
  exact h ⟨j, hj, e⟩
theorem ixO_lt {N j : Nat} {x : Int32} (hN : N < 2147483648) (h : ixO N x = some j) : j < N ∧ x = nI j := by
  unfold ixO at h
  split at h
  · rename_i z
    obtain ⟨i, hi, e⟩ := le_nI hN (Int32.not_lt.mpr z.1) (Int32.not_le.mpr z.2)
    subst e
    rw [nI_clamp (by omega)] at h
    cases h
    exact ⟨hi, rfl⟩
  · cases h
/-- what a query of the close leaves: the trouble t, else all but the rows 40 to 54 as it was -/
noncomputable def qC (I : Nat → Nat → Int32) (t : Int32) (I' : Nat → Nat → Int32) : Prop := (∀ a, a ≠ 1 → (a < 40 ∨ 54 < a) → I' a = I a) ∧ (∀ j, j ≠ 13 → I' 1 j = I 1 j) ∧ I' 1 13 = t
section SC
variable {l : Launch} {X : Nat × (Nat → Int32)} {d : Nat} {w : Nat × Nat} {p r : Nat} {I : Nat → Nat → Int32} {L : Nat → Nat → Int64} {kr : KR}
/-- the close's counts -/
noncomputable def vC (p : Nat) (I : Nat → Nat → Int32) (F C : Nat) : Prop := (p = 7 ∨ p = 20) ∧ I p 4 = nI F ∧ F ≤ 6 ∧ I p 10 = nI C ∧ C ≤ 5
theorem vC.sc {I' : Nat → Nat → Int32} {F C : Nat} (h : vC p I F C) (hs : sc I I') : vC p I' F C := by
  obtain ⟨h1, h2, h3, h4, h5⟩ := h
  have e : I' p = I p := hs p (Or.inl (by omega))
  exact ⟨h1, by rw [e]; exact h2, h3, by rw [e]; exact h4, h5⟩
end SC
end
section
theorem sc_crf {I J : Nat → Nat → Int32} {k w v e : Int32} {y : Fc} (h : sc I J) : sc I (crf J k w v e y) := h.tr cr_sc
/-- whether face f lets go on the day behind n days -/
noncomputable def lets (I : Nat → Nat → Int32) (p C f n : Nat) : Bool := cLt (I (p + 1) f) (vxO I p (cOf I C (nI f))) (evO I p (cOf I C (nI f))) false (fw I p f (cOf I C (nI f)) n)
section SD
variable {l : Launch} {X : Nat × (Nat → Int32)} {d : Nat} {w : Nat × Nat} {p r : Nat} {I : Nat → Nat → Int32} {L : Nat → Nat → Int64} {kr : KR}
end SD
end
section
section SE
variable {l : Launch} {X : Nat × (Nat → Int32)} {d : Nat} {w : Nat × Nat} {p r : Nat} {I : Nat → Nat → Int32} {L : Nat → Nat → Int64} {kr : KR}
theorem sX6_hasC {F C : Nat} (hv : vC p I F C) (h1 : 0 < F → kr (some (.int 1)) (mk w p r I L)) (h0 : F = 0 → kr (some (.int 0)) (mk w p r I L)) : Ev l X uX6_hasClose d true 0 0 [.ref 1] (mk w p r I L) kr := by
  obtain ⟨hp, hF, hF6, hC, hC5⟩ := id hv
  refine sX6_hasClose hp (fun c => h1 ?_) (fun c => h0 ?_)
  · rcases Nat.eq_zero_or_pos F with z | z
    · rw [hF, z] at c; exact absurd c (by decide)
    · exact z
  · rcases Nat.eq_zero_or_pos F with z | z
    · exact z
    · exact absurd (by rw [hF]; exact nI_lt (a := 0) z (by omega)) c
end SE
end
section
/-! canon and bread: the class's side -/
section GAM
variable {l : Launch} {X : Nat × (Nat → Int32)} {d : Nat} {w : Nat × Nat} {p r : Nat} {I : Nat → Nat → Int32} {L : Nat → Nat → Int64} {kr : KR} {M : Mm}
end GAM
end
section
section GAM2
variable {l : Launch} {X : Nat × (Nat → Int32)} {d : Nat} {w : Nat × Nat} {p r : Nat} {I : Nat → Nat → Int32} {L : Nat → Nat → Int64} {kr : KR} {M : Mm} {e : Int32} {F C : Nat}
end GAM2
end
section
/-! canon and bread: the reference's side -/
section GAM3
variable {l : Launch} {X : Nat × (Nat → Int32)} {d : Nat} {w : Nat × Nat} {p r : Nat} {I : Nat → Nat → Int32} {L : Nat → Nat → Int64} {kr : KR} {M : Mm} {e : Int32}
set_option maxRecDepth 20000 in
theorem y_why {a b : Bool} (h : kr (some (.int (if a = true then (if b = true then 0 else 2) else 1))) (mk w p r I L)) : Ev l X uX7_why d true 0 0 [.ref 150, .int (bI a), .int (bI b)] (mk w p r I L) kr := by
  refine Ev.of (by decide) (Nat.le_of_ble_eq_true rfl) ?_
  refine Wf.gc tkX7_why [] ?_
  conv => whnf
  cases a with
  | false =>
    refine b2 (fun z => z rfl) ?_
    conv => whnf
    exact h
  | true =>
    refine b1 (by decide) ?_
    conv => whnf
    cases b with
    | false =>
      refine b1' rfl ?_
      conv => whnf
      exact h
    | true =>
      refine b2' (by decide) ?_
      conv => whnf
      exact h
end GAM3
end
section
section GAM4
variable {l : Launch} {X : Nat × (Nat → Int32)} {d : Nat} {w : Nat × Nat} {p r : Nat} {I : Nat → Nat → Int32} {L : Nat → Nat → Int64} {kr : KR} {M : Mm} {e : Int32}
end GAM4
end
