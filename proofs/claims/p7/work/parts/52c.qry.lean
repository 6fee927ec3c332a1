/-! queries over the plain state: face, canon, burden -/
section QRY
variable {l : Launch} {X : Nat × (Nat → Int32)} {d : Nat} {w : Nat × Nat} {p r : Nat} {I : Nat → Nat → Int32} {L : Nat → Nat → Int64} {kr : KR} {M : Mm} {o : Ost} {A : Ast}
theorem jQ {q : Md} {dd : Nat} {av : List Value} {ms : Md3} {v : Int32} (hL : LX M) (hv : SV o M) (A : ∀ k : KR, (∀ (x : Int32) (M' : Mm), LI M' → M'.1 = M.1 → kp ms M M' → k (some (.int x)) M') → Ev l X q dd true 0 0 av M k) (B : Ev l X q dd true 0 0 av (ffm M) (fun r _ => r = some (.int v))) (ho : okV ms = true) (h : ∀ M', LX M' → M'.1 = M.1 → SV o M' → kr (some (.int v)) M') : Ev l X q dd true 0 0 av M kr :=
  j_ans hL.1.1 A B (fun M' h1 h2 h3 => h M' (LX_k hL h1 h2 h3 ho) h2 (SV_k hL.iv hv h3 ho))
def lfq (f : Ast → Int32) (v0 : Int32) (o : Ost) : Int32 := match o with
  | none => v0
  | some A => f A
theorem ts_k {x : Int32} {k : Nat} (h : x.toInt = 0 + (k : Int)) (hk : k < 1000) : x = nI k := by
  have := nI_at (i := x) (by omega) (by omega)
  rw [this]
  congr 1
  omega
theorem ts_n {x : Int32} {N : Nat} (hN : N < 1000) (h : x.toInt < 0 ∨ 0 + (N : Int) ≤ x.toInt) : ¬ ∃ j, j < N ∧ x = nI j := by
  rintro ⟨j, hj, rfl⟩
  rw [nI_toInt (by omega)] at h
  omega
def qFace (f wh : Int32) (A : Ast) : Int32 := match ixO (A.1.1 4) f, ixO 7 wh with
  | some g, some k => if k = 0 then nI (A.1.1 (11 + 4 * g)) else if k = 1 then A.2.1 g else if k = 2 then A.2.1 (6 + g) else if k = 3 then (if A.2.1 g = 0 then 1 else 0) else if k = 4 then A.2.1 (12 + g) else if k = 5 then oI (cnS (A.1.1 5) A.2.1 f) else nI (A.1.1 (14 + 4 * g))
  | _, _ => -1
set_option maxHeartbeats 4000000 in
set_option maxRecDepth 20000 in
theorem x_face {f wh : Int32} (hp : p = 7 ∨ p = 20) (hR : RA A) (hA : AS6 A p I) (h : ∀ I', kr (some (.int (qFace f wh A))) (mk w p r I' L)) : Ev l X uX6_face (d + 2) true 0 0 [.ref 1, .int f, .int wh] (mk w p r I L) kr := by
  obtain ⟨hF, hC⟩ := ra_FC hR
  have eF : I p 4 = nI (A.1.1 4) := hA.1.1.2.2.2.2.1
  have eC : I p 10 = nI (A.1.1 5) := hA.1.1.2.2.2.2.2.1
  refine Ev.of (by decide) (Nat.le_of_ble_eq_true rfl) ?_
  refine Wf.gc tkX6_face [] ?_
  conv => whnf
  refine sX6_isFace hp eF (by omega) (fun g hg ef => ?_) (fun z => ?_)
  · obtain ⟨m1, m2, m3⟩ := hA.2.1.1 g hg
    obtain ⟨c1, c2, c3, c4⟩ := hA.1.2.1 g hg
    have e0 : ∀ k, k < 7 → wh = nI k → qFace f wh A = if k = 0 then nI (A.1.1 (11 + 4 * g)) else if k = 1 then A.2.1 g else if k = 2 then A.2.1 (6 + g) else if k = 3 then (if A.2.1 g = 0 then 1 else 0) else if k = 4 then A.2.1 (12 + g) else if k = 5 then oI (cnS (A.1.1 5) A.2.1 f) else nI (A.1.1 (14 + 4 * g)) := fun k hk e => by
      unfold qFace
      rw [show ixO (A.1.1 4) f = some g by rw [ef]; exact ixO_some hg (by omega), e, ixO_some hk (by omega)]
    conv => whnf
    refine b1 (by decide) ?_
    conv => whnf
    refine ⟨fun k t hk hx => ?_, fun hx => ?_⟩
    · have hk7 : k < 7 := by
        rcases Nat.lt_or_ge k 7 with y | y
        · exact y
        · rw [List.getElem?_eq_none (by exact y)] at hk; cases hk
      have e0 := e0 k hk7 (ts_k hx (by omega))
      rw [e0] at h
      have hp' := hp
      rcases (show k = 0 ∨ k = 1 ∨ k = 2 ∨ k = 3 ∨ k = 4 ∨ k = 5 ∨ k = 6 by omega) with rfl | rfl | rfl | rfl | rfl | rfl | rfl
      · cases hk
        rcases hp with rfl | rfl
        all_goals
          conv => whnf
          rw [ef]
          refine ⟨g, ix (N := 6) (by omega) (by decide), ?_⟩
          conv => whnf
          refine sX6_answer ?_
          conv => whnf
          have q := h (u2 I 1 13 0)
          rw [if_pos rfl, ← c1] at q
          exact q
      · cases hk
        conv => whnf
        rw [ef]
        refine ⟨g, ix (N := 6) (by omega) (by decide), ?_⟩
        conv => whnf
        refine sX6_answer ?_
        conv => whnf
        have q := h (u2 I 1 13 0)
        rw [if_neg (by decide), if_pos rfl, ← m1] at q
        exact q
      · cases hk
        conv => whnf
        rw [ef]
        refine ⟨g, ix (N := 6) (by omega) (by decide), ?_⟩
        conv => whnf
        refine sX6_answer ?_
        conv => whnf
        have q := h (u2 I 1 13 0)
        rw [if_neg (by decide), if_neg (by decide), if_pos rfl, ← m2] at q
        exact q
      · cases hk
        rw [if_neg (by decide), if_neg (by decide), if_neg (by decide), if_pos rfl] at h
        conv => whnf
        rw [ef]
        refine sX2_hasFallen (a := 33) (by omega) rfl (fun y => ?_) (fun y => ?_)
        · rw [m1] at y
          rw [if_pos y] at h
          conv => whnf
          refine b2' (by decide) ?_
          conv => whnf
          refine sX6_answer ?_
          conv => whnf
          exact h _
        · rw [m1] at y
          rw [if_neg y] at h
          conv => whnf
          refine b1' rfl ?_
          conv => whnf
          refine sX6_answer ?_
          conv => whnf
          exact h _
      · cases hk
        conv => whnf
        rw [ef]
        refine ⟨g, ix (N := 6) (by omega) (by decide), ?_⟩
        conv => whnf
        refine sX6_answer ?_
        conv => whnf
        have q := h (u2 I 1 13 0)
        rw [if_neg (by decide), if_neg (by decide), if_neg (by decide), if_neg (by decide), if_pos rfl, ← m3] at q
        exact q
      · cases hk
        rw [if_neg (by decide), if_neg (by decide), if_neg (by decide), if_neg (by decide), if_neg (by decide), if_pos rfl] at h
        conv => whnf
        refine sX6_canonOf hp' eC hC ?_
        rw [cOf_cn hA.2.1]
        conv => whnf
        refine sX6_answer ?_
        conv => whnf
        exact h _
      · cases hk
        rcases hp with rfl | rfl
        all_goals
          conv => whnf
          rw [ef]
          refine ⟨g, ix (N := 6) (by omega) (by decide), ?_⟩
          conv => whnf
          refine sX6_answer ?_
          conv => whnf
          have q := h (u2 I 1 13 0)
          rw [if_neg (by decide), if_neg (by decide), if_neg (by decide), if_neg (by decide), if_neg (by decide), if_neg (by decide), ← c4] at q
          exact q
    · have z := ts_n (N := 7) (by decide) hx
      have e1 : qFace f wh A = -1 := by
        unfold qFace
        rw [show ixO 7 wh = none from ixO_none (by omega) z]
        split <;> simp_all
      rw [e1] at h
      conv => whnf
      refine sX6_refuse ?_
      conv => whnf
      exact h _
  · have e1 : qFace f wh A = -1 := by
      unfold qFace
      rw [show ixO (A.1.1 4) f = none from ixO_none (by omega) z]
    rw [e1] at h
    conv => whnf
    refine b2 (fun z => z rfl) ?_
    conv => whnf
    refine sX6_refuse ?_
    conv => whnf
    exact h _
set_option maxRecDepth 20000 in
theorem x_face0 {f wh : Int32} (hp : p = 7 ∨ p = 20) (hA : NC6 p I) (h : ∀ I', kr (some (.int (-1))) (mk w p r I' L)) : Ev l X uX6_face (d + 2) true 0 0 [.ref 1, .int f, .int wh] (mk w p r I L) kr := by
  refine Ev.of (by decide) (Nat.le_of_ble_eq_true rfl) ?_
  refine Wf.gc tkX6_face [] ?_
  conv => whnf
  refine sX6_isFace hp (nc4 hA).1 (by decide) (fun j hj _ => absurd hj (Nat.not_lt_zero _)) (fun z => ?_)
  conv => whnf
  refine b2 (fun z => z rfl) ?_
  conv => whnf
  refine sX6_refuse ?_
  conv => whnf
  exact h _
set_option maxHeartbeats 4000000 in
set_option maxRecDepth 20000 in
theorem y_face {f wh : Int32} (hR : RA A) (hA0 : AS7 A I) (h : ∀ I', kr (some (.int (qFace f wh A))) (mk w p r I' L)) : Ev l X uX7_face (d + 2) true 0 0 [.ref 150, .int f, .int wh] (mk w p r I L) kr := by
  obtain ⟨hF, hC⟩ := ra_FC hR
  refine Ev.of (by decide) (Nat.le_of_ble_eq_true rfl) ?_
  refine Wf.gc tkX7_face [22] ?_
  conv => whnf
  refine y_good ?_
  have hA := AS7_g hA0
  generalize hH : u2 (u2 I 150 0 0) 150 11 0 = H at hA
  have eF : H 153 4 = nI (A.1.1 4) := hA.2.1.1 4 (by decide) (by decide)
  have eC : H 153 5 = nI (A.1.1 5) := hA.2.1.1 5 (by decide) (by decide)
  have n22 : qFace f wh A = -1 → Wf l X uX7_face (d + 2) true (mC (mk w p r I L) + 0, mS (mk w p r I L) + 0) 22 [(0, .ref 150), (1, .int f), (2, .int wh)] [] (mk w p r H L) kr := by
    intro e
    rw [e] at h
    refine Wf.gc tkX7_face [] ?_
    conv => whnf
    refine y_no ?_
    conv => whnf
    exact h _
  conv => whnf
  refine y_isFace hA.1 eF (by omega) (fun g hg ef => ?_) (fun z => ?_)
  · have sS := hA.2.2.2.1
    have e0 : ∀ k, k < 7 → wh = nI k → qFace f wh A = if k = 0 then nI (A.1.1 (11 + 4 * g)) else if k = 1 then A.2.1 g else if k = 2 then A.2.1 (6 + g) else if k = 3 then (if A.2.1 g = 0 then 1 else 0) else if k = 4 then A.2.1 (12 + g) else if k = 5 then oI (cnS (A.1.1 5) A.2.1 f) else nI (A.1.1 (14 + 4 * g)) := fun k hk e => by
      unfold qFace
      rw [show ixO (A.1.1 4) f = some g by rw [ef]; exact ixO_some hg (by omega), e, ixO_some hk (by omega)]
    conv => whnf
    refine b2' (by decide) ?_
    conv => whnf
    refine y_in (fun z1 z2 => ?_) (fun z => ?_)
    · obtain ⟨k, hk, ek⟩ := (in_ix (N := 7) (f := wh) (by decide)).mp ⟨z1, z2⟩
      have e0 := e0 k hk ek
      rw [e0] at h
      conv => whnf
      refine b1 (by decide) ?_
      conv => whnf
      have tI : wh.toInt = (k : Int) := by rw [ek]; exact nI_toInt (by omega)
      refine ⟨fun k' t hk' hx => ?_, fun hx => ?_⟩
      · have kk' : k' = k := by omega
        subst kk'
        have hk6 : k' < 6 := by
          rcases Nat.lt_or_ge k' 6 with y | y
          · exact y
          · rw [List.getElem?_eq_none (by exact y)] at hk'; cases hk'
        rcases (show k' = 0 ∨ k' = 1 ∨ k' = 2 ∨ k' = 3 ∨ k' = 4 ∨ k' = 5 by omega) with rfl | rfl | rfl | rfl | rfl | rfl
        · cases hk'
          conv => whnf
          rw [ef]
          refine ⟨11 + 4 * g, ⟨i11 g, by omega, show 11 + 4 * g < 202 by omega⟩, ?_⟩
          conv => whnf
          have q := h H
          rw [if_pos rfl, ← hA.2.1.1 (11 + 4 * g) (by omega) (by omega)] at q
          exact q
        · cases hk'
          conv => whnf
          rw [ef]
          refine ⟨g, ⟨rfl, by omega, show g < 25 by omega⟩, ?_⟩
          conv => whnf
          have q := h H
          rw [if_neg (by decide), if_pos rfl, ← sS g (by omega)] at q
          exact q
        · cases hk'
          conv => whnf
          rw [ef]
          refine ⟨6 + g, ⟨nI_add 6 g, by omega, show 6 + g < 25 by omega⟩, ?_⟩
          conv => whnf
          have q := h H
          rw [if_neg (by decide), if_neg (by decide), if_pos rfl, ← sS (6 + g) (by omega)] at q
          exact q
        · cases hk'
          rw [if_neg (by decide), if_neg (by decide), if_neg (by decide), if_pos rfl, ← sS g (by omega)] at h
          conv => whnf
          rw [ef]
          refine ⟨g, ⟨rfl, by omega, show g < 25 by omega⟩, ?_⟩
          conv => whnf
          refine ⟨fun y => ?_, fun y => ?_⟩
          · have y : ¬ H 157 g = 0 := y
            rw [if_neg y] at h
            conv => whnf
            exact h _
          · have y : H 157 g = 0 := y
            rw [if_pos y] at h
            conv => whnf
            exact h _
        · cases hk'
          conv => whnf
          rw [ef]
          refine ⟨12 + g, ⟨nI_add 12 g, by omega, show 12 + g < 25 by omega⟩, ?_⟩
          conv => whnf
          have q := h H
          rw [if_neg (by decide), if_neg (by decide), if_neg (by decide), if_neg (by decide), if_pos rfl, ← sS (12 + g) (by omega)] at q
          exact q
        · cases hk'
          conv => whnf
          refine y_canonOf eC hC sS ?_
          conv => whnf
          have q := h H
          rw [if_neg (by decide), if_neg (by decide), if_neg (by decide), if_neg (by decide), if_neg (by decide), if_pos rfl] at q
          exact q
      · have k6 : k = 6 := by
          have hx : wh.toInt < 0 ∨ 0 + ((6 : Nat) : Int) ≤ wh.toInt := hx
          omega
        subst k6
        conv => whnf
        rw [ef]
        refine ⟨14 + 4 * g, ⟨i14 g, by omega, show 14 + 4 * g < 202 by omega⟩, ?_⟩
        conv => whnf
        have q := h H
        rw [if_neg (by decide), if_neg (by decide), if_neg (by decide), if_neg (by decide), if_neg (by decide), if_neg (by decide), ← hA.2.1.1 (14 + 4 * g) (by omega) (by omega)] at q
        exact q
    · have z := fun y => z ((in_ix (N := 7) (f := wh) (by decide)).mpr y)
      conv => whnf
      refine b2 (fun z => z rfl) ?_
      conv => whnf
      refine n22 ?_
      unfold qFace
      rw [show ixO 7 wh = none from ixO_none (by omega) z]
      split <;> simp_all
  · conv => whnf
    refine b1' rfl ?_
    conv => whnf
    refine n22 ?_
    unfold qFace
    rw [show ixO (A.1.1 4) f = none from ixO_none (by omega) z]
set_option maxRecDepth 20000 in
theorem y_face0 {f wh : Int32} (hA0 : NC7 I) (h : ∀ I', kr (some (.int (-1))) (mk w p r I' L)) : Ev l X uX7_face (d + 2) true 0 0 [.ref 150, .int f, .int wh] (mk w p r I L) kr := by
  refine Ev.of (by decide) (Nat.le_of_ble_eq_true rfl) ?_
  refine Wf.gc tkX7_face [] ?_
  conv => whnf
  refine y_good ?_
  have hA := NC7_g hA0
  generalize hH : u2 (u2 I 150 0 0) 150 11 0 = H at hA
  conv => whnf
  refine y_isFace0 hA.1 ?_
  conv => whnf
  refine b1' rfl ?_
  conv => whnf
  refine y_no ?_
  conv => whnf
  exact h _
theorem j6_face (d : Nat) {f wh : Int32} (hL : LX M) (hv : SV o M) (h : ∀ M', LX M' → M'.1 = M.1 → SV o M' → kr (some (.int (lfq (qFace f wh) (-1) o))) M') : Ev l X uX6_face (d + 12) true 0 0 [.ref 1, .int f, .int wh] M kr := by
  refine jQ hL hv (fun k h => p6_face d hL.li h) ?_ (by decide +kernel) h
  have hp := Iv_p hL.iv
  cases o with
  | none => exact x_face0 (d := d + 10) hp hv.2.1 (fun I' => rfl)
  | some A => exact x_face (d := d + 10) hp hv.1 hv.2.1 (fun I' => rfl)
theorem j7_face (d : Nat) {f wh : Int32} (hL : LX M) (hv : SV o M) (h : ∀ M', LX M' → M'.1 = M.1 → SV o M' → kr (some (.int (lfq (qFace f wh) (-1) o))) M') : Ev l X uX7_face (d + 12) true 0 0 [.ref 150, .int f, .int wh] M kr := by
  refine jQ hL hv (fun k h => p7_face d hL.li h) ?_ (by decide +kernel) h
  cases o with
  | none => exact y_face0 (d := d + 10) hv.2.2 (fun I' => rfl)
  | some A => exact y_face (d := d + 10) hv.1 hv.2.2 (fun I' => rfl)
end QRY
