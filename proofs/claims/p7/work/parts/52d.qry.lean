section QRY2
variable {l : Launch} {X : Nat × (Nat → Int32)} {d : Nat} {w : Nat × Nat} {p r : Nat} {I : Nat → Nat → Int32} {L : Nat → Nat → Int64} {kr : KR} {M : Mm} {o : Ost} {A : Ast}
def qCanon (c wh : Int32) (A : Ast) : Int32 := match ixO (A.1.1 5) c, ixO 3 wh with
  | some j, some k => if k = 0 then A.2.1 (18 + j) else if k = 1 then nI (A.1.1 (35 + 2 * j)) else nI (A.1.1 (36 + 2 * j))
  | _, _ => -1
set_option maxHeartbeats 4000000 in
set_option maxRecDepth 20000 in
theorem x_canon {f wh : Int32} (hp : p = 7 ∨ p = 20) (hR : RA A) (hA : AS6 A p I) (h : ∀ I', kr (some (.int (qCanon f wh A))) (mk w p r I' L)) : Ev l X uX6_canon (d + 2) true 0 0 [.ref 1, .int f, .int wh] (mk w p r I L) kr := by
  obtain ⟨hF, hC⟩ := ra_FC hR
  have eC : I p 10 = nI (A.1.1 5) := hA.1.1.2.2.2.2.2.1
  refine Ev.of (by decide) (Nat.le_of_ble_eq_true rfl) ?_
  refine Wf.gc tkX6_canon [] ?_
  conv => whnf
  refine sX6_isCanon hp eC (by omega) (fun g hg ef => ?_) (fun z => ?_)
  · have m1 : I 37 g = A.2.1 (18 + g) := hA.2.1.2.1 g hg
    obtain ⟨c1, c2, c3⟩ := hA.1.2.2.2.1 g hg
    have e0 : ∀ k, k < 3 → wh = nI k → qCanon f wh A = if k = 0 then A.2.1 (18 + g) else if k = 1 then nI (A.1.1 (35 + 2 * g)) else nI (A.1.1 (36 + 2 * g)) := fun k hk e => by
      unfold qCanon
      rw [show ixO (A.1.1 5) f = some g by rw [ef]; exact ixO_some hg (by omega), e, ixO_some hk (by omega)]
    conv => whnf
    refine b1 (by decide) ?_
    conv => whnf
    refine ⟨fun k t hk hx => ?_, fun hx => ?_⟩
    · have hk7 : k < 3 := by
        rcases Nat.lt_or_ge k 3 with y | y
        · exact y
        · rw [List.getElem?_eq_none (by exact y)] at hk; cases hk
      have e0 := e0 k hk7 (ts_k hx (by omega))
      rw [e0] at h
      rcases (show k = 0 ∨ k = 1 ∨ k = 2 by omega) with rfl | rfl | rfl
      · cases hk
        conv => whnf
        rw [ef]
        refine ⟨g, ix (N := 5) (by omega) (by decide), ?_⟩
        conv => whnf
        refine sX6_answer ?_
        conv => whnf
        have q := h (u2 I 1 13 0)
        rw [if_pos rfl, ← m1] at q
        exact q
      · cases hk
        rcases hp with rfl | rfl
        all_goals
          conv => whnf
          rw [ef]
          refine ⟨g, ix (N := 5) (by omega) (by decide), ?_⟩
          conv => whnf
          refine sX6_answer ?_
          conv => whnf
          have q := h (u2 I 1 13 0)
          rw [if_neg (by decide), if_pos rfl, ← c2] at q
          exact q
      · cases hk
        rcases hp with rfl | rfl
        all_goals
          conv => whnf
          rw [ef]
          refine ⟨g, ix (N := 5) (by omega) (by decide), ?_⟩
          conv => whnf
          refine sX6_answer ?_
          conv => whnf
          have q := h (u2 I 1 13 0)
          rw [if_neg (by decide), if_neg (by decide), ← c3] at q
          exact q
    · have z := ts_n (N := 3) (by decide) hx
      have e1 : qCanon f wh A = -1 := by
        unfold qCanon
        rw [show ixO 3 wh = none from ixO_none (by omega) z]
        split <;> simp_all
      rw [e1] at h
      conv => whnf
      refine sX6_refuse ?_
      conv => whnf
      exact h _
  · have e1 : qCanon f wh A = -1 := by
      unfold qCanon
      rw [show ixO (A.1.1 5) f = none from ixO_none (by omega) z]
    rw [e1] at h
    conv => whnf
    refine b2 (fun z => z rfl) ?_
    conv => whnf
    refine sX6_refuse ?_
    conv => whnf
    exact h _
set_option maxRecDepth 20000 in
theorem x_canon0 {f wh : Int32} (hp : p = 7 ∨ p = 20) (hA : NC6 p I) (h : ∀ I', kr (some (.int (-1))) (mk w p r I' L)) : Ev l X uX6_canon (d + 2) true 0 0 [.ref 1, .int f, .int wh] (mk w p r I L) kr := by
  refine Ev.of (by decide) (Nat.le_of_ble_eq_true rfl) ?_
  refine Wf.gc tkX6_canon [] ?_
  conv => whnf
  refine sX6_isCanon hp (nc4 hA).2 (by decide) (fun j hj _ => absurd hj (Nat.not_lt_zero _)) (fun z => ?_)
  conv => whnf
  refine b2 (fun z => z rfl) ?_
  conv => whnf
  refine sX6_refuse ?_
  conv => whnf
  exact h _
theorem i35k (j k : Nat) (hk : 1 ≤ k) : (35 + 2 * nI j + nI k - 1 : Int32) = nI (34 + 2 * j + k) := by
  rw [i35, show (nI (35 + 2 * j) + nI k : Int32) = nI (35 + 2 * j + k) from nI_add _ _, nI_p1 (by omega)]
  congr 1
  omega
set_option maxHeartbeats 4000000 in
set_option maxRecDepth 20000 in
theorem y_canon {f wh : Int32} (hR : RA A) (hA0 : AS7 A I) (h : ∀ I', kr (some (.int (qCanon f wh A))) (mk w p r I' L)) : Ev l X uX7_canon (d + 2) true 0 0 [.ref 150, .int f, .int wh] (mk w p r I L) kr := by
  obtain ⟨hF, hC⟩ := ra_FC hR
  refine Ev.of (by decide) (Nat.le_of_ble_eq_true rfl) ?_
  refine Wf.gc tkX7_canon [21] ?_
  conv => whnf
  refine y_good ?_
  have hA := AS7_g hA0
  generalize hH : u2 (u2 I 150 0 0) 150 11 0 = H at hA
  have eC : H 153 5 = nI (A.1.1 5) := hA.2.1.1 5 (by decide) (by decide)
  have n21 : qCanon f wh A = -1 → Wf l X uX7_canon (d + 2) true (mC (mk w p r I L) + 0, mS (mk w p r I L) + 0) 21 [(0, .ref 150), (1, .int f), (2, .int wh)] [] (mk w p r H L) kr := by
    intro e
    rw [e] at h
    refine Wf.gc tkX7_canon [] ?_
    conv => whnf
    refine y_no ?_
    conv => whnf
    exact h _
  conv => whnf
  refine y_isCanon hA.1 eC (by omega) (fun g hg ef => ?_) (fun z => ?_)
  · have sS := hA.2.2.2.1
    have e0 : ∀ k, k < 3 → wh = nI k → qCanon f wh A = if k = 0 then A.2.1 (18 + g) else if k = 1 then nI (A.1.1 (35 + 2 * g)) else nI (A.1.1 (36 + 2 * g)) := fun k hk e => by
      unfold qCanon
      rw [show ixO (A.1.1 5) f = some g by rw [ef]; exact ixO_some hg (by omega), e, ixO_some hk (by omega)]
    conv => whnf
    refine b2' (by decide) ?_
    conv => whnf
    refine y_in (fun z1 z2 => ?_) (fun z => ?_)
    · obtain ⟨k, hk, ek⟩ := (in_ix (N := 3) (f := wh) (by decide)).mp ⟨z1, z2⟩
      have e0 := e0 k hk ek
      rw [e0] at h
      conv => whnf
      refine b1 (by decide) ?_
      conv => whnf
      refine ⟨fun y => ?_, fun y => ?_⟩
      · have y : ¬ wh = 0 := y
        have k1 : 1 ≤ k := by
          rcases Nat.eq_zero_or_pos k with q | q
          · rw [ek, q] at y; exact absurd rfl y
          · exact q
        conv => whnf
        rw [ef, ek]
        refine ⟨34 + 2 * g + k, ⟨i35k g k k1, by omega, show 34 + 2 * g + k < 202 by omega⟩, ?_⟩
        conv => whnf
        have q := h H
        rw [if_neg (by omega)] at q
        have q2 := hA.2.1.1 (34 + 2 * g + k) (by omega) (by omega)
        show kr (some (.int (H 153 (34 + 2 * g + k)))) _
        rw [q2]
        by_cases e : k = 1
        · subst e
          rw [if_pos rfl] at q
          rw [show 34 + 2 * g + 1 = 35 + 2 * g by omega]
          exact q
        · have : k = 2 := by omega
          subst this
          rw [if_neg e] at q
          rw [show 34 + 2 * g + 2 = 36 + 2 * g by omega]
          exact q
      · have y : wh = 0 := y
        have k0 : k = 0 := (nI_eq (by omega) (by decide)).mp (ek.symm.trans (y.trans (show (0 : Int32) = nI 0 from rfl)))
        subst k0
        conv => whnf
        rw [ef]
        refine ⟨18 + g, ⟨nI_add 18 g, by omega, show 18 + g < 25 by omega⟩, ?_⟩
        conv => whnf
        have q := h H
        rw [if_pos rfl, ← sS (18 + g) (by omega)] at q
        exact q
    · have z := fun y => z ((in_ix (N := 3) (f := wh) (by decide)).mpr y)
      conv => whnf
      refine b2 (fun z => z rfl) ?_
      conv => whnf
      refine n21 ?_
      unfold qCanon
      rw [show ixO 3 wh = none from ixO_none (by omega) z]
      split <;> simp_all
  · conv => whnf
    refine b1' rfl ?_
    conv => whnf
    refine n21 ?_
    unfold qCanon
    rw [show ixO (A.1.1 5) f = none from ixO_none (by omega) z]
set_option maxRecDepth 20000 in
theorem y_canon0 {f wh : Int32} (hA0 : NC7 I) (h : ∀ I', kr (some (.int (-1))) (mk w p r I' L)) : Ev l X uX7_canon (d + 2) true 0 0 [.ref 150, .int f, .int wh] (mk w p r I L) kr := by
  refine Ev.of (by decide) (Nat.le_of_ble_eq_true rfl) ?_
  refine Wf.gc tkX7_canon [] ?_
  conv => whnf
  refine y_good ?_
  have hA := NC7_g hA0
  generalize hH : u2 (u2 I 150 0 0) 150 11 0 = H at hA
  conv => whnf
  refine y_isCanon0 hA.1 ?_
  conv => whnf
  refine b1' rfl ?_
  conv => whnf
  refine y_no ?_
  conv => whnf
  exact h _
theorem j6_canon (d : Nat) {f wh : Int32} (hL : LX M) (hv : SV o M) (h : ∀ M', LX M' → M'.1 = M.1 → SV o M' → kr (some (.int (lfq (qCanon f wh) (-1) o))) M') : Ev l X uX6_canon (d + 12) true 0 0 [.ref 1, .int f, .int wh] M kr := by
  refine jQ hL hv (fun k h => p6_canon d hL.li h) ?_ (by decide +kernel) h
  have hp := Iv_p hL.iv
  cases o with
  | none => exact x_canon0 (d := d + 10) hp hv.2.1 (fun I' => rfl)
  | some A => exact x_canon (d := d + 10) hp hv.1 hv.2.1 (fun I' => rfl)
theorem j7_canon (d : Nat) {f wh : Int32} (hL : LX M) (hv : SV o M) (h : ∀ M', LX M' → M'.1 = M.1 → SV o M' → kr (some (.int (lfq (qCanon f wh) (-1) o))) M') : Ev l X uX7_canon (d + 12) true 0 0 [.ref 150, .int f, .int wh] M kr := by
  refine jQ hL hv (fun k h => p7_canon d hL.li h) ?_ (by decide +kernel) h
  cases o with
  | none => exact y_canon0 (d := d + 10) hv.2.2 (fun I' => rfl)
  | some A => exact y_canon (d := d + 10) hv.1 hv.2.2 (fun I' => rfl)
/-! burden -/
def sBr (S : Rw) : Nat → Int32
  | 0 => 0
  | n + 1 => sBr S n + S (6 + n)
def qBurden (A : Ast) : Int32 := sBr A.2.1 (A.1.1 4)
set_option maxRecDepth 20000 in
theorem x_burden (hp : p = 7 ∨ p = 20) (hR : RA A) (hA : AS6 A p I) (h : ∀ I', kr (some (.int (qBurden A))) (mk w p r I' L)) : Ev l X uX6_burden (d + 1) true 0 0 [.ref 1] (mk w p r I L) kr := by
  obtain ⟨hF, hC⟩ := ra_FC hR
  have eF : I p 4 = nI (A.1.1 4) := hA.1.1.2.2.2.2.1
  refine Ev.of (by decide) (Nat.le_of_ble_eq_true rfl) ?_
  refine Wf.gc tkX6_burden [17] ?_
  conv => whnf
  refine sX6_hasClose hp (fun z => ?_) (fun z => ?_)
  · conv => whnf
    refine b1 (by decide) ?_
    conv => whnf
    refine down (fun i => Wf l X uX6_burden (d + 1) true (mC (mk w p r I L) + 0, mS (mk w p r I L) + 0) 17 [(0, .ref 1), (1, .int (sBr A.2.1 i)), (2, .int (nI i))] [] (mk w p r I L) kr) (A.1.1 4) ?_ ?_ 0 (Nat.zero_le _)
    · refine Wf.gc tkX6_burden [] ?_
      have kle : I p 4 ≤ nI (A.1.1 4) := by rw [eF]; exact Int32.le_refl _
      rcases hp with rfl | rfl
      all_goals
        conv => whnf
        refine b1' (show I _ 4 ≤ nI (A.1.1 4) from kle) ?_
        conv => whnf
        refine sX6_answer ?_
        conv => whnf
        exact h _
    · intro i hi ih
      have klt : ¬ I p 4 ≤ nI i := by rw [eF, nI_leI (by omega) (by omega)]; omega
      have m2 : I 35 i = A.2.1 (6 + i) := (hA.2.1.1 i hi).2.1
      refine Wf.gc tkX6_burden [17] ?_
      rcases hp with rfl | rfl
      all_goals
        conv => whnf
        refine b2' (show ¬ I _ 4 ≤ nI i from klt) ?_
        conv => whnf
        refine ⟨i, ix (N := 6) (by omega) (by decide), ?_⟩
        conv => whnf
        show Wf l X uX6_burden (d + 1) true (mC (mk w _ r I L) + 0, mS (mk w _ r I L) + 0) 17 [(0, .ref 1), (1, .int (sBr A.2.1 i + I 35 i)), (2, .int (nI i + 1))] [] (mk w _ r I L) kr
        rw [nI_s, m2]
        exact ih
  · exact absurd (by rw [eF, show (0 : Int32) = nI 0 from rfl, nI_ltI (by decide) (by omega)]; exact hR.1.2.2) z
set_option maxRecDepth 20000 in
theorem x_burden0 (hp : p = 7 ∨ p = 20) (hA : NC6 p I) (h : ∀ I', kr (some (.int (-1))) (mk w p r I' L)) : Ev l X uX6_burden (d + 1) true 0 0 [.ref 1] (mk w p r I L) kr := by
  refine Ev.of (by decide) (Nat.le_of_ble_eq_true rfl) ?_
  refine Wf.gc tkX6_burden [] ?_
  conv => whnf
  refine sX6_hasClose hp (fun z => absurd z (by rw [(nc4 hA).1]; decide)) (fun z => ?_)
  conv => whnf
  refine b2 (fun z => z rfl) ?_
  conv => whnf
  refine sX6_refuse ?_
  conv => whnf
  exact h _
set_option maxRecDepth 20000 in
theorem y_burden (hR : RA A) (hA0 : AS7 A I) (h : ∀ I', kr (some (.int (qBurden A))) (mk w p r I' L)) : Ev l X uX7_burden (d + 1) true 0 0 [.ref 150] (mk w p r I L) kr := by
  obtain ⟨hF, hC⟩ := ra_FC hR
  refine Ev.of (by decide) (Nat.le_of_ble_eq_true rfl) ?_
  refine Wf.gc tkX7_burden [21] ?_
  conv => whnf
  refine y_good ?_
  have hA := AS7_g hA0
  generalize hH : u2 (u2 I 150 0 0) 150 11 0 = H at hA
  have eF : H 153 4 = nI (A.1.1 4) := hA.2.1.1 4 (by decide) (by decide)
  have h14 : H 150 14 = 1 := hA.1
  conv => whnf
  refine b1 (by show ¬ H 150 14 = 0; rw [h14]; decide) ?_
  conv => whnf
  refine down (fun i => Wf l X uX7_burden (d + 1) true (mC (mk w p r I L) + 0, mS (mk w p r I L) + 0) 21 [(0, .ref 150), (1, .int (sBr A.2.1 i)), (2, .int (nI i))] [] (mk w p r H L) kr) (A.1.1 4) ?_ ?_ 0 (Nat.zero_le _)
  · refine Wf.gc tkX7_burden [] ?_
    conv => whnf
    refine ⟨4, ⟨rfl, by decide, show 4 < 202 by decide⟩, ?_⟩
    conv => whnf
    refine b1' (by show H 153 4 ≤ nI (A.1.1 4); rw [eF]; exact Int32.le_refl _) ?_
    conv => whnf
    exact h _
  · intro i hi ih
    refine Wf.gc tkX7_burden [21] ?_
    conv => whnf
    refine ⟨4, ⟨rfl, by decide, show 4 < 202 by decide⟩, ?_⟩
    conv => whnf
    refine b2' (by show ¬ H 153 4 ≤ nI i; rw [eF, nI_leI (by omega) (by omega)]; omega) ?_
    conv => whnf
    refine ⟨6 + i, ⟨nI_add 6 i, by omega, show 6 + i < 25 by omega⟩, ?_⟩
    conv => whnf
    show Wf l X uX7_burden (d + 1) true (mC (mk w p r I L) + 0, mS (mk w p r I L) + 0) 21 [(0, .ref 150), (1, .int (sBr A.2.1 i + H 157 (6 + i))), (2, .int (nI i + 1))] [] (mk w p r H L) kr
    rw [nI_s, hA.2.2.2.1 (6 + i) (by omega)]
    exact ih
set_option maxRecDepth 20000 in
theorem y_burden0 (hA0 : NC7 I) (h : ∀ I', kr (some (.int (-1))) (mk w p r I' L)) : Ev l X uX7_burden (d + 1) true 0 0 [.ref 150] (mk w p r I L) kr := by
  refine Ev.of (by decide) (Nat.le_of_ble_eq_true rfl) ?_
  refine Wf.gc tkX7_burden [] ?_
  conv => whnf
  refine y_good ?_
  have hA := NC7_g hA0
  generalize hH : u2 (u2 I 150 0 0) 150 11 0 = H at hA
  conv => whnf
  refine b2 (fun z => z hA.1) ?_
  conv => whnf
  refine y_no ?_
  conv => whnf
  exact h _
theorem j6_burden (d : Nat) (hL : LX M) (hv : SV o M) (h : ∀ M', LX M' → M'.1 = M.1 → SV o M' → kr (some (.int (lfq qBurden (-1) o))) M') : Ev l X uX6_burden (d + 12) true 0 0 [.ref 1] M kr := by
  refine jQ hL hv (fun k h => p6_burden d hL.li h) ?_ (by decide +kernel) h
  have hp := Iv_p hL.iv
  cases o with
  | none => exact x_burden0 (d := d + 11) hp hv.2.1 (fun I' => rfl)
  | some A => exact x_burden (d := d + 11) hp hv.1 hv.2.1 (fun I' => rfl)
theorem j7_burden (d : Nat) (hL : LX M) (hv : SV o M) (h : ∀ M', LX M' → M'.1 = M.1 → SV o M' → kr (some (.int (lfq qBurden (-1) o))) M') : Ev l X uX7_burden (d + 12) true 0 0 [.ref 150] M kr := by
  refine jQ hL hv (fun k h => p7_burden d hL.li h) ?_ (by decide +kernel) h
  cases o with
  | none => exact y_burden0 (d := d + 11) hv.2.2 (fun I' => rfl)
  | some A => exact y_burden (d := d + 11) hv.1 hv.2.2 (fun I' => rfl)
end QRY2
