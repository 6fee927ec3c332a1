/-! the class's acts: what each does to the plain state -/
section ACT
variable {l : Launch} {X : Nat × (Nat → Int32)} {d : Nat} {w : Nat × Nat} {p r : Nat} {I I' : Nat → Nat → Int32} {L : Nat → Nat → Int64} {kr : KR} {A : Ast}
def uR (S : Rw) (i : Nat) (v : Int32) : Rw := fun j => if j = i then v else S j
theorem uR_s {S : Rw} {i : Nat} {v : Int32} : uR S i v i = v := if_pos rfl
theorem uR_o {S : Rw} {i j : Nat} {v : Int32} (h : j ≠ i) : uR S i v j = S j := if_neg h
def cnS (C : Nat) (S : Rw) (f : Int32) : Option Nat := ff (fun c => decide (S (18 + c) = f)) C 0
def aGive (A : Ast) (c f : Int32) : Int32 × Ast := match ixO (A.1.1 5) c, ixO (A.1.1 4) f with
  | some j, some g => if cnS (A.1.1 5) A.2.1 f = none ∧ ¬ A.2.1 g = 0 then (A.2.1 (18 + j), (A.1, uR A.2.1 (18 + j) f, psh A.2.2.1 A.2.1, A.2.2.2)) else (-1, A)
  | _, _ => (-1, A)
def aMend (A : Ast) (f : Int32) : Int32 × Ast := match ixO (A.1.1 4) f with
  | none => (0, A)
  | some g => if A.2.1 g = 0 ∨ (A.2.1 g = nI (A.1.1 (12 + 4 * g)) ∧ A.2.1 (6 + g) = 0) then (0, A) else (1, (A.1, uR (uR A.2.1 g (nI (A.1.1 (12 + 4 * g)))) (6 + g) 0, psh A.2.2.1 A.2.1, A.2.2.2))
def aVex (A : Ast) (f m : Int32) : Int32 × Ast := match ixO (A.1.1 4) f with
  | none => (-1, A)
  | some g => if (1 ≤ m ∧ m ≤ 99) ∧ ¬ A.2.1 g = 0 ∧ A.2.1 (6 + g) + m ≤ 999 then (A.2.1 (6 + g) + m, (A.1, uR A.2.1 (6 + g) (A.2.1 (6 + g) + m), psh A.2.2.1 A.2.1, A.2.2.2)) else (-1, A)
def aUndo (A : Ast) : Int32 × Ast := if A.2.2.1.length = 0 then (0, A) else (1, (A.1, rD A.2.2.1 (A.2.2.1.length - 1), A.2.2.1.dropLast, A.2.2.2))
def aImage (A : Ast) : Int32 × Ast := if A.2.2.2.length < 3 then (nI A.2.2.2.length, (A.1, A.2.1, A.2.2.1, A.2.2.2 ++ [A.2.1])) else (-1, A)
def aBack (A : Ast) (i : Int32) : Int32 × Ast := match ixO A.2.2.2.length i with
  | none => (0, A)
  | some j => (1, (A.1, rD A.2.2.2 j, [], A.2.2.2))
theorem kSl_lt {x k j : Nat} : kSl x k j < 16 := Nat.mod_lt _ (by decide)
theorem AS6_o (hp : p = 7 ∨ p = 20) (hB : B3 A.1) (hG : A.2.2.2.length ≤ 3) (h : AS6 A p I) (he : ∀ c i, ¬ (c = 1 ∧ i = 13) → ¬ (40 ≤ c ∧ c ≤ 54) → I' c i = I c i) : AS6 A p I' := by
  obtain ⟨h1, h2, ⟨x, hx, e5, h3⟩, h4, h5, h6⟩ := h
  refine ⟨PC_cq hp hB h1 (fun a k z1 z2 _ => he a k (by omega) (by omega)), MR_o h2 (fun c i z1 z2 => he c i (by omega) (by omega)), ⟨x, hx, by rw [he 1 5 (by omega) (by omega)]; exact e5, fun j hj => MR_o (h3 j hj) (fun c i z1 z2 => he c i (by omega) (by omega))⟩, by rw [he 1 6 (by omega) (by omega)]; exact h4, by rw [he 1 8 (by omega) (by omega)]; exact h5, fun j hj => MR_o (h6 j hj) (fun c i z1 z2 => he c i (by omega) (by omega))⟩
theorem AS6_13 (hp : p = 7 ∨ p = 20) (hR : RA A) (h : AS6 A p I) (v : Int32) : AS6 A p (u2 I 1 13 v) := AS6_o hp hR.1.1 hR.2.1.2 h (fun c i z _ => u2_o z)
theorem AS6_now {P : Ps} {S S' : Rw} {U G : List Rw} (hp : p = 7 ∨ p = 20) (hB : B3 P) (h : AS6 (P, S, U, G) p I) (he : ∀ c i, ¬ (33 ≤ c ∧ c ≤ 37) → I' c i = I c i) (hm : MR (P.1 4) (P.1 5) 33 S' I') : AS6 (P, S', U, G) p I' := by
  obtain ⟨h1, h2, ⟨x, hx, e5, h3⟩, h4, h5, h6⟩ := h
  refine ⟨PC_cq hp hB h1 (fun a k z1 z2 _ => he a k (by omega)), hm, ⟨x, hx, by rw [he 1 5 (by omega)]; exact e5, fun j hj => MR_o (h3 j hj) (fun c i z1 z2 => he c i (by omega))⟩, by rw [he 1 6 (by omega)]; exact h4, by rw [he 1 8 (by omega)]; exact h5, fun j hj => MR_o (h6 j hj) (fun c i z1 z2 => he c i (by omega))⟩
theorem cOf_cn {F C : Nat} {S : Rw} {f : Int32} (h : MR F C 33 S I) : cOf I C f = cnS C S f := by
  unfold cOf cnS
  refine ff_cong (fun j _ hj => ?_)
  rw [show I 37 j = S (18 + j) from h.2.1 j (by omega)]
theorem oI_cn {C : Nat} {S : Rw} {f : Int32} (hC : C ≤ 5) : oI (cnS C S f) = -2 ↔ cnS C S f = none := by
  cases hq : cnS C S f with
  | none => exact ⟨fun _ => rfl, fun _ => rfl⟩
  | some c =>
    have hc := (ff_lt hq).2.1
    refine ⟨fun z => ?_, fun z => by cases z⟩
    have z : nI c = -2 := z
    exact absurd z (nI_m2 (by omega))
set_option maxRecDepth 20000 in
theorem x_give {c f : Int32} (hp : p = 7 ∨ p = 20) (hR : RA A) (hA : AS6 A p I) (h : ∀ I', AS6 (aGive A c f).2 p I' → kr (some (.int (aGive A c f).1)) (mk w p r I' L)) : Ev l X uX6_give (d + 4) true 0 0 [.ref 1, .int c, .int f] (mk w p r I L) kr := by
  obtain ⟨hF, hC⟩ := ra_FC hR
  have eF : I p 4 = nI (A.1.1 4) := hA.1.1.2.2.2.2.1
  have eC : I p 10 = nI (A.1.1 5) := hA.1.1.2.2.2.2.2.1
  obtain ⟨x, hx, e5, -⟩ := hA.2.2.1
  refine Ev.of (by decide) (Nat.le_of_ble_eq_true rfl) ?_
  refine Wf.gc tkX6_give [16, 43] ?_
  have no : aGive A c f = (-1, A) → Wf l X uX6_give (d + 4) true (mC (mk w p r I L) + 0, mS (mk w p r I L) + 0) 16 [(0, .ref 1), (1, .int c), (2, .int f)] [] (mk w p r I L) kr := by
    intro e
    rw [e] at h
    refine Wf.gc tkX6_give [] ?_
    conv => whnf
    refine sX6_refuse ?_
    conv => whnf
    exact h _ (AS6_13 hp hR hA 1)
  have no5 : aGive A c f = (-1, A) → Wf l X uX6_give (d + 4) true (mC (mk w p r I L) + 0, mS (mk w p r I L) + 0) 43 [(0, .ref 1), (1, .int c), (2, .int f)] [] (mk w p r I L) kr := by
    intro e
    rw [e] at h
    refine Wf.gc tkX6_give [] ?_
    conv => whnf
    refine sX6_refuse ?_
    conv => whnf
    exact h _ (AS6_13 hp hR hA 5)
  conv => whnf
  refine sX6_isCanon hp eC (by omega) (fun j hj ec => ?_) (fun z => ?_)
  · conv => whnf
    refine b2' (by decide) ?_
    conv => whnf
    refine sX6_isFace hp eF (by omega) (fun g hg ef => ?_) (fun z => ?_)
    · conv => whnf
      refine b1 (by decide) ?_
      conv => whnf
      refine sX6_canonOf hp eC hC ?_
      rw [cOf_cn hA.2.1]
      have e0 : aGive A c f = if cnS (A.1.1 5) A.2.1 f = none ∧ ¬ A.2.1 g = 0 then (A.2.1 (18 + j), (A.1, uR A.2.1 (18 + j) f, psh A.2.2.1 A.2.1, A.2.2.2)) else (-1, A) := by
        unfold aGive
        rw [show ixO (A.1.1 5) c = some j by rw [ec]; exact ixO_some hj (by omega), show ixO (A.1.1 4) f = some g by rw [ef]; exact ixO_some hg (by omega)]
      conv => whnf
      refine ⟨fun z => ?_, fun z => ?_⟩
      · have z : ¬ oI (cnS (A.1.1 5) A.2.1 f) = -2 := z
        rw [oI_cn hC] at z
        conv => whnf
        exact no5 (by rw [e0, if_neg (fun y => z y.1)])
      · have z : oI (cnS (A.1.1 5) A.2.1 f) = -2 := z
        rw [oI_cn hC] at z
        conv => whnf
        rw [ef]
        refine sX2_hasFallen (a := 33) (by omega) rfl (fun y => ?_) (fun y => ?_)
        · rw [(hA.2.1.1 g hg).1] at y
          conv => whnf
          refine b2' (by decide) ?_
          conv => whnf
          have q := no5 (by rw [e0, if_neg (fun y' => y'.2 y)])
          rw [ef] at q
          exact q
        · rw [(hA.2.1.1 g hg).1] at y
          rw [e0, if_pos ⟨z, y⟩] at h
          conv => whnf
          refine b1' rfl ?_
          conv => whnf
          refine x_keep (d := d + 1) hx hR.2.1.1 e5 hA.2.2.2.1 (fun J hJ => ?_)
          have hJ6 := AS6_keep hp hR hA hx e5 rfl hJ
          have j37 : J 37 j = A.2.1 (18 + j) := hJ6.2.1.2.1 j hj
          conv => whnf
          rw [ec]
          refine ⟨j, ix (N := 5) (by omega) (by decide), ?_⟩
          conv => whnf
          refine ⟨j, ix (N := 5) (by omega) (by decide), ?_⟩
          conv => whnf
          refine sX6_answer ?_
          conv => whnf
          show kr (some (.int (J 37 j))) (mk w p r (u2 (u2 J 37 j (nI g)) 1 13 0) L)
          rw [j37]
          refine h _ ?_
          refine AS6_o hp (A := (A.1, uR A.2.1 (18 + j) f, psh A.2.2.1 A.2.1, A.2.2.2)) hR.1.1 hR.2.1.2 (I := u2 J 37 j (nI g)) ?_ (fun c i z _ => u2_o z)
          · refine AS6_now hp hR.1.1 hJ6 (fun c i z => u2_o (by omega)) ⟨fun f hf => ?_, fun c' hc' => ?_, ?_, ?_⟩
            · rw [u2_o (by omega), u2_o (by omega), u2_o (by omega), uR_o (by omega), uR_o (by omega), uR_o (by omega)]
              exact hJ6.2.1.1 f hf
            · by_cases e : c' = j
              · subst e
                show u2 J 37 c' (nI g) 37 c' = uR A.2.1 (18 + c') f (18 + c')
                rw [u2_s, uR_s, ef]
              · show u2 J 37 j (nI g) 37 c' = uR A.2.1 (18 + j) f (18 + c')
                rw [u2_o (by omega), uR_o (by omega)]
                exact hJ6.2.1.2.1 c' hc'
            · rw [u2_o (by omega), uR_o (by omega)]; exact hJ6.2.1.2.2.1
            · rw [u2_o (by omega), uR_o (by omega)]; exact hJ6.2.1.2.2.2
    · conv => whnf
      refine b2 (fun z => z rfl) ?_
      conv => whnf
      refine no ?_
      unfold aGive
      rw [show ixO (A.1.1 4) f = none from ixO_none (by omega) z]
      split <;> simp_all
  · conv => whnf
    refine b1' rfl ?_
    conv => whnf
    refine no ?_
    unfold aGive
    rw [show ixO (A.1.1 5) c = none from ixO_none (by omega) z]
set_option maxRecDepth 20000 in
theorem x_vex {f m : Int32} (hp : p = 7 ∨ p = 20) (hR : RA A) (hA : AS6 A p I) (h : ∀ I', AS6 (aVex A f m).2 p I' → kr (some (.int (aVex A f m).1)) (mk w p r I' L)) : Ev l X uX6_vex (d + 4) true 0 0 [.ref 1, .int f, .int m] (mk w p r I L) kr := by
  obtain ⟨hF, hC⟩ := ra_FC hR
  have eF : I p 4 = nI (A.1.1 4) := hA.1.1.2.2.2.2.1
  obtain ⟨x, hx, e5, -⟩ := hA.2.2.1
  refine Ev.of (by decide) (Nat.le_of_ble_eq_true rfl) ?_
  refine Wf.gc tkX6_vex [] ?_
  conv => whnf
  refine sX6_isFace hp eF (by omega) (fun g hg ef => ?_) (fun z => ?_)
  · have e0 : aVex A f m = if (1 ≤ m ∧ m ≤ 99) ∧ ¬ A.2.1 g = 0 ∧ A.2.1 (6 + g) + m ≤ 999 then (A.2.1 (6 + g) + m, (A.1, uR A.2.1 (6 + g) (A.2.1 (6 + g) + m), psh A.2.2.1 A.2.1, A.2.2.2)) else (-1, A) := by
      unfold aVex
      rw [show ixO (A.1.1 4) f = some g by rw [ef]; exact ixO_some hg (by omega)]
    conv => whnf
    refine b1 (by decide) ?_
    conv => whnf
    refine sX6_within (fun c1 c2 => ?_) (fun c1 => ?_)
    · conv => whnf
      refine b1 (by decide) ?_
      conv => whnf
      rw [ef]
      refine sX2_hasFallen (a := 33) (by omega) rfl (fun y => ?_) (fun y => ?_)
      · rw [(hA.2.1.1 g hg).1] at y
        rw [e0, if_neg (fun z => z.2.1 y)] at h
        conv => whnf
        refine b2' (by decide) ?_
        conv => whnf
        refine sX6_refuse ?_
        conv => whnf
        exact h _ (AS6_13 hp hR hA 5)
      · rw [(hA.2.1.1 g hg).1] at y
        conv => whnf
        refine b1' rfl ?_
        conv => whnf
        refine ⟨g, ix (N := 6) (by omega) (by decide), ?_⟩
        conv => whnf
        refine ⟨fun c3 => ?_, fun c3 => ?_⟩
        · have c3 : I 35 g + m ≤ 999 := c3
          rw [(hA.2.1.1 g hg).2.1] at c3
          rw [e0, if_pos ⟨⟨c1, c2⟩, y, c3⟩] at h
          conv => whnf
          refine x_keep (d := d + 1) hx hR.2.1.1 e5 hA.2.2.2.1 (fun J hJ => ?_)
          have hJ6 := AS6_keep hp hR hA hx e5 rfl hJ
          have j35 : J 35 g = A.2.1 (6 + g) := (hJ6.2.1.1 g hg).2.1
          conv => whnf
          refine ⟨g, ix (N := 6) (by omega) (by decide), ?_⟩
          conv => whnf
          refine ⟨g, ix (N := 6) (by omega) (by decide), ?_⟩
          conv => whnf
          refine ⟨g, ix (N := 6) (by omega) (by decide), ?_⟩
          conv => whnf
          refine sX6_answer ?_
          conv => whnf
          show kr (some (.int (u2 J 35 g (J 35 g + m) 35 g))) (mk w p r (u2 (u2 J 35 g (J 35 g + m)) 1 13 0) L)
          rw [u2_s, j35]
          refine h _ ?_
          refine AS6_o hp (A := (A.1, uR A.2.1 (6 + g) (A.2.1 (6 + g) + m), psh A.2.2.1 A.2.1, A.2.2.2)) hR.1.1 hR.2.1.2 (I := u2 J 35 g (A.2.1 (6 + g) + m)) ?_ (fun c i z _ => u2_o z)
          refine AS6_now hp hR.1.1 hJ6 (fun c i z => u2_o (by omega)) ⟨fun f' hf => ?_, fun c' hc' => ?_, ?_, ?_⟩
          · rw [u2_o (by omega), u2_o (a := 35) (b := 33 + 3) (by omega), uR_o (by omega), uR_o (j := 12 + f') (by omega)]
            refine ⟨(hJ6.2.1.1 f' hf).1, ?_, (hJ6.2.1.1 f' hf).2.2⟩
            by_cases e : f' = g
            · subst e
              show u2 J 35 f' (A.2.1 (6 + f') + m) 35 f' = _
              rw [u2_s, uR_s]
            · show u2 J 35 g (A.2.1 (6 + g) + m) 35 f' = _
              rw [u2_o (by omega), uR_o (by omega)]
              exact (hJ6.2.1.1 f' hf).2.1
          · rw [u2_o (by omega), uR_o (by omega)]; exact hJ6.2.1.2.1 c' hc'
          · rw [u2_o (by omega), uR_o (by omega)]; exact hJ6.2.1.2.2.1
          · rw [u2_o (by omega), uR_o (by omega)]; exact hJ6.2.1.2.2.2
        · have c3 : ¬ I 35 g + m ≤ 999 := c3
          rw [(hA.2.1.1 g hg).2.1] at c3
          rw [e0, if_neg (fun z => c3 z.2.2)] at h
          conv => whnf
          refine sX6_refuse ?_
          conv => whnf
          exact h _ (AS6_13 hp hR hA 3)
    · rw [e0, if_neg (fun z => c1 z.1)] at h
      conv => whnf
      refine b2 (fun z => z rfl) ?_
      conv => whnf
      refine sX6_refuse ?_
      conv => whnf
      exact h _ (AS6_13 hp hR hA 2)
  · have e0 : aVex A f m = (-1, A) := by
      unfold aVex
      rw [show ixO (A.1.1 4) f = none from ixO_none (by omega) z]
    rw [e0] at h
    conv => whnf
    refine b2 (fun z => z rfl) ?_
    conv => whnf
    refine sX6_refuse ?_
    conv => whnf
    exact h _ (AS6_13 hp hR hA 1)
set_option maxRecDepth 20000 in
theorem x_mend {f : Int32} (hp : p = 7 ∨ p = 20) (hR : RA A) (hA : AS6 A p I) (h : ∀ I', AS6 (aMend A f).2 p I' → kr (some (.int (aMend A f).1)) (mk w p r I' L)) : Ev l X uX6_mend (d + 4) true 0 0 [.ref 1, .int f] (mk w p r I L) kr := by
  obtain ⟨hF, hC⟩ := ra_FC hR
  have eF : I p 4 = nI (A.1.1 4) := hA.1.1.2.2.2.2.1
  obtain ⟨x, hx, e5, -⟩ := hA.2.2.1
  refine Ev.of (by decide) (Nat.le_of_ble_eq_true rfl) ?_
  refine Wf.gc tkX6_mend [54] ?_
  conv => whnf
  refine sX6_isFace hp eF (by omega) (fun g hg ef => ?_) (fun z => ?_)
  · have e0 : aMend A f = if A.2.1 g = 0 ∨ (A.2.1 g = nI (A.1.1 (12 + 4 * g)) ∧ A.2.1 (6 + g) = 0) then (0, A) else (1, (A.1, uR (uR A.2.1 g (nI (A.1.1 (12 + 4 * g)))) (6 + g) 0, psh A.2.2.1 A.2.1, A.2.2.2)) := by
      unfold aMend
      rw [show ixO (A.1.1 4) f = some g by rw [ef]; exact ixO_some hg (by omega)]
    have s34 := (hA.2.1.1 g hg).1
    have s35 := (hA.2.1.1 g hg).2.1
    have hpl : I (p + 2) g = nI (A.1.1 (12 + 4 * g)) := (hA.1.2.1 g hg).2.1
    have c54 : ∀ wh : Bool, (wh = true ↔ (A.2.1 g = nI (A.1.1 (12 + 4 * g)) ∧ A.2.1 (6 + g) = 0)) → Wf l X uX6_mend (d + 4) true (mC (mk w p r I L) + 0, mS (mk w p r I L) + 0) 54 [(0, .ref 1), (1, .int f)] [.int (bI wh)] (mk w p r I L) kr := by
      intro wh hwh
      have no : aMend A f = (0, A) → Wf l X uX6_mend (d + 4) true (mC (mk w p r I L) + 0, mS (mk w p r I L) + 0) 70 [(0, .ref 1), (1, .int f), (2, .int (bI wh))] [] (mk w p r I L) kr := by
        intro e
        rw [e] at h
        refine Wf.gc tkX6_mend [] ?_
        conv => whnf
        refine sX6_refuse ?_
        conv => whnf
        exact ⟨Or.inl rfl, h _ (AS6_13 hp hR hA 5)⟩
      refine Wf.gc tkX6_mend [70] ?_
      conv => whnf
      rw [ef]
      refine sX2_hasFallen (a := 33) (by omega) rfl (fun y => ?_) (fun y => ?_)
      · rw [s34] at y
        conv => whnf
        refine b1 (by decide) ?_
        conv => whnf
        have q := no (by rw [e0, if_pos (Or.inl y)])
        rw [ef] at q
        exact q
      · rw [s34] at y
        conv => whnf
        refine b2 (fun z => z rfl) ?_
        conv => whnf
        cases wh with
        | true =>
          refine b2' (by decide) ?_
          conv => whnf
          have q := no (by rw [e0, if_pos (Or.inr (hwh.mp rfl))])
          rw [ef] at q
          exact q
        | false =>
          have nw : ¬ (A.2.1 g = nI (A.1.1 (12 + 4 * g)) ∧ A.2.1 (6 + g) = 0) := fun z => by have := hwh.mpr z; cases this
          rw [e0, if_neg (fun z => z.elim y nw)] at h
          refine b1' rfl ?_
          conv => whnf
          refine x_keep (d := d + 1) hx hR.2.1.1 e5 hA.2.2.2.1 (fun J hJ => ?_)
          have hJ6 := AS6_keep hp hR hA hx e5 rfl hJ
          have jpl : J (p + 2) g = nI (A.1.1 (12 + 4 * g)) := (hJ6.1.2.1 g hg).2.1
          have fin : AS6 (A.1, uR (uR A.2.1 g (nI (A.1.1 (12 + 4 * g)))) (6 + g) 0, psh A.2.2.1 A.2.1, A.2.2.2) p (u2 (u2 (u2 J 34 g (nI (A.1.1 (12 + 4 * g)))) 35 g 0) 1 13 0) := by
            refine AS6_o hp (A := (A.1, uR (uR A.2.1 g (nI (A.1.1 (12 + 4 * g)))) (6 + g) 0, psh A.2.2.1 A.2.1, A.2.2.2)) hR.1.1 hR.2.1.2 (I := u2 (u2 J 34 g (nI (A.1.1 (12 + 4 * g)))) 35 g 0) ?_ (fun c i z _ => u2_o z)
            refine AS6_now hp hR.1.1 hJ6 (fun c i z => by rw [u2_o (by omega), u2_o (by omega)]) ⟨fun f' hf => ?_, fun c' hc' => ?_, ?_, ?_⟩
            · by_cases e : f' = g
              · subst e
                refine ⟨?_, ?_, ?_⟩
                · show u2 (u2 J 34 f' (nI (A.1.1 (12 + 4 * f')))) 35 f' 0 34 f' = _
                  rw [u2_o (by omega), u2_s, uR_o (by omega), uR_s]
                · show u2 (u2 J 34 f' (nI (A.1.1 (12 + 4 * f')))) 35 f' 0 35 f' = _
                  rw [u2_s, uR_s]
                · show u2 (u2 J 34 f' (nI (A.1.1 (12 + 4 * f')))) 35 f' 0 36 f' = _
                  rw [u2_o (by omega), u2_o (by omega), uR_o (by omega), uR_o (by omega)]
                  exact (hJ6.2.1.1 f' hf).2.2
              · rw [u2_o (by omega), u2_o (by omega), u2_o (by omega), u2_o (by omega), u2_o (by omega), u2_o (by omega), uR_o (by omega), uR_o (by omega), uR_o (by omega), uR_o (by omega), uR_o (by omega), uR_o (by omega)]
                exact hJ6.2.1.1 f' hf
            · rw [u2_o (by omega), u2_o (by omega), uR_o (by omega), uR_o (by omega)]; exact hJ6.2.1.2.1 c' hc'
            · rw [u2_o (by omega), u2_o (by omega), uR_o (by omega), uR_o (by omega)]; exact hJ6.2.1.2.2.1
            · rw [u2_o (by omega), u2_o (by omega), uR_o (by omega), uR_o (by omega)]; exact hJ6.2.1.2.2.2
          rcases hp with rfl | rfl
          · conv => whnf
            refine ⟨g, ix (N := 6) (by omega) (by decide), ?_⟩
            conv => whnf
            refine ⟨g, ix (N := 6) (by omega) (by decide), ?_⟩
            conv => whnf
            refine ⟨g, ix (N := 6) (by omega) (by decide), ?_⟩
            conv => whnf
            refine sX6_answer ?_
            conv => whnf
            refine ⟨Or.inr rfl, ?_⟩
            show kr (some (.int 1)) (mk w 7 r (u2 (u2 (u2 J 34 g (J 9 g)) 35 g 0) 1 13 0) L)
            rw [show J 9 g = _ from jpl]
            exact h _ fin
          · conv => whnf
            refine ⟨g, ix (N := 6) (by omega) (by decide), ?_⟩
            conv => whnf
            refine ⟨g, ix (N := 6) (by omega) (by decide), ?_⟩
            conv => whnf
            refine ⟨g, ix (N := 6) (by omega) (by decide), ?_⟩
            conv => whnf
            refine sX6_answer ?_
            conv => whnf
            refine ⟨Or.inr rfl, ?_⟩
            show kr (some (.int 1)) (mk w 20 r (u2 (u2 (u2 J 34 g (J 22 g)) 35 g 0) 1 13 0) L)
            rw [show J 22 g = _ from jpl]
            exact h _ fin
    conv => whnf
    refine b1 (by decide) ?_
    rcases hp with rfl | rfl
    all_goals
      conv => whnf
      rw [ef]
      refine ⟨g, ix (N := 6) (by omega) (by decide), ?_⟩
      conv => whnf
      refine ⟨g, ix (N := 6) (by omega) (by decide), ?_⟩
      conv => whnf
      refine ⟨fun c => ?_, fun c => ?_⟩
      · have c : ¬ I 34 g = nI (A.1.1 (12 + 4 * g)) := fun z => c (z.trans hpl.symm)
        rw [show I 34 g = A.2.1 g from s34] at c
        conv => whnf
        have q := c54 false ⟨(fun z => by cases z), fun z => absurd z.1 c⟩
        rw [ef] at q
        exact q
      · have c : I 34 g = nI (A.1.1 (12 + 4 * g)) := Eq.trans c hpl
        rw [show I 34 g = A.2.1 g from s34] at c
        conv => whnf
        refine ⟨g, ix (N := 6) (by omega) (by decide), ?_⟩
        conv => whnf
        refine ⟨fun c2 => ?_, fun c2 => ?_⟩
        · have c2 : ¬ I 35 g = 0 := c2
          rw [show I 35 g = A.2.1 (6 + g) from s35] at c2
          conv => whnf
          have q := c54 false ⟨(fun z => by cases z), fun z => absurd z.2 c2⟩
          rw [ef] at q
          exact q
        · have c2 : I 35 g = 0 := c2
          rw [show I 35 g = A.2.1 (6 + g) from s35] at c2
          conv => whnf
          have q := c54 true ⟨fun _ => ⟨c, c2⟩, fun _ => rfl⟩
          rw [ef] at q
          exact q
  · have e0 : aMend A f = (0, A) := by
      unfold aMend
      rw [show ixO (A.1.1 4) f = none from ixO_none (by omega) z]
    rw [e0] at h
    conv => whnf
    refine b2 (fun z => z rfl) ?_
    conv => whnf
    refine sX6_refuse ?_
    conv => whnf
    exact ⟨Or.inl rfl, h _ (AS6_13 hp hR hA 1)⟩
theorem ring_b : ∀ x, x < 16 → (nI x + 16 - 1 - (nI x + 16 - 1) / 16 * 16 : Int32) = nI ((x + 15) % 16) := by decide
theorem nI_p1 {k : Nat} (h : 0 < k) : (nI k - 1 : Int32) = nI (k - 1) := by
  have := nI_sub (x := k) (y := 1) (by omega)
  exact this
theorem rD_dl {U : List Rw} {j : Nat} (h : j < U.length - 1) : rD U.dropLast j = rD U j := by
  unfold rD
  rw [List.getD_eq_getElem?_getD, List.getD_eq_getElem?_getD, List.getElem?_dropLast, if_pos h]
set_option maxRecDepth 20000 in
theorem x_undo (hp : p = 7 ∨ p = 20) (hR : RA A) (hA : AS6 A p I) (h : ∀ I', AS6 (aUndo A).2 p I' → kr (some (.int (aUndo A).1)) (mk w p r I' L)) : Ev l X uX6_undo (d + 2) true 0 0 [.ref 1] (mk w p r I L) kr := by
  obtain ⟨hF, hC⟩ := ra_FC hR
  obtain ⟨x, hx, e5, hU⟩ := hA.2.2.1
  have e6 := hA.2.2.2.1
  have h16 := hR.2.1.1
  have h3 := hR.2.1.2
  refine Ev.of (by decide) (Nat.le_of_ble_eq_true rfl) ?_
  refine Wf.gc tkX6_undo [] ?_
  conv => whnf
  unfold aUndo at h
  refine ⟨fun z => ?_, fun z => ?_⟩
  · have z : ¬ I 1 6 = 0 := z
    have hk : 0 < A.2.2.1.length := by
      rcases Nat.eq_zero_or_pos A.2.2.1.length with y | y
      · rw [e6, y] at z; exact absurd rfl z
      · exact y
    rw [if_neg (by omega)] at h
    conv => whnf
    refine ⟨by decide, ?_⟩
    conv => whnf
    have em : (u2 (u2 I 1 5 (I 1 5 + 16 - 1 - (I 1 5 + 16 - 1) / 16 * 16)) 1 6 (u2 I 1 5 (I 1 5 + 16 - 1 - (I 1 5 + 16 - 1) / 16 * 16) 1 6 - 1)) = u2 (u2 I 1 5 (nI ((x + 15) % 16))) 1 6 (nI (A.2.2.1.length - 1)) := by
      rw [u2_o (b := 1) (j := 6) (by decide), e5, e6, ring_b x hx, nI_p1 hk]
    refine ⟨(x + 15) % 16, ⟨?_, by omega, show (x + 15) % 16 < 16 by omega⟩, ?_⟩
    · show u2 (u2 I 1 5 (I 1 5 + 16 - 1 - (I 1 5 + 16 - 1) / 16 * 16)) 1 6 (u2 I 1 5 (I 1 5 + 16 - 1 - (I 1 5 + 16 - 1) / 16 * 16) 1 6 - 1) 1 5 = _
      rw [em, u2_o (by decide), u2_s]
    conv => whnf
    have eR : mR (mk w p r (u2 (u2 I 1 5 (I 1 5 + 16 - 1 - (I 1 5 + 16 - 1) / 16 * 16)) 1 6 (u2 I 1 5 (I 1 5 + 16 - 1 - (I 1 5 + 16 - 1) / 16 * 16) 1 6 - 1)) L) 38 ((x + 15) % 16) = 55 + 5 * ((x + 15) % 16) := R38 (p := p) (r := r) (by omega)
    show Ev l X uX2_copy (d + 1) true 0 0 [.ref 33, .ref (mR (mk w p r (u2 (u2 I 1 5 (I 1 5 + 16 - 1 - (I 1 5 + 16 - 1) / 16 * 16)) 1 6 (u2 I 1 5 (I 1 5 + 16 - 1 - (I 1 5 + 16 - 1) / 16 * 16) 1 6 - 1)) L) 38 ((x + 15) % 16))] (mk w p r (u2 (u2 I 1 5 (I 1 5 + 16 - 1 - (I 1 5 + 16 - 1) / 16 * 16)) 1 6 (u2 I 1 5 (I 1 5 + 16 - 1 - (I 1 5 + 16 - 1) / 16 * 16) 1 6 - 1)) L) _
    rw [eR, em]
    refine x_cp2 (i := (x + 15) % 16) (by omega) (fun J hJ => ?_)
    obtain ⟨j1, j2, j3, j4, j5⟩ := hJ
    conv => whnf
    refine sX6_answer ?_
    conv => whnf
    refine ⟨Or.inr rfl, ?_⟩
    have o : ∀ c i, ¬ (33 ≤ c ∧ c ≤ 37) → c ≠ 1 → J c i = I c i := fun c i z1 z2 => by rw [j1 c i (by omega), u2_o (by omega), u2_o (by omega)]
    refine h _ (AS6_o hp hR.1.1 h3 (I := J) (A := (A.1, rD A.2.2.1 (A.2.2.1.length - 1), A.2.2.1.dropLast, A.2.2.2)) ?_ (fun c i z _ => u2_o z))
    have hlast := hU (A.2.2.1.length - 1) (by omega)
    have es : kSl x A.2.2.1.length (A.2.2.1.length - 1) = (x + 15) % 16 := by unfold kSl; omega
    rw [es] at hlast
    have hlast : MR (A.1.1 4) (A.1.1 5) (55 + 5 * ((x + 15) % 16)) (rD A.2.2.1 (A.2.2.1.length - 1)) (u2 (u2 I 1 5 (nI ((x + 15) % 16))) 1 6 (nI (A.2.2.1.length - 1))) := MR_o hlast (fun c i z1 z2 => by rw [u2_o (by omega), u2_o (by omega)])
    have ld : A.2.2.1.dropLast.length = A.2.2.1.length - 1 := List.length_dropLast
    refine ⟨PC_cq hp hR.1.1 hA.1 (fun a k z1 z2 _ => o a k (by omega) (by omega)), MR_cp hF hC hlast j2 j3 j4 j5, ⟨(x + 15) % 16, by omega, ?_, fun j hj => ?_⟩, ?_, ?_, fun j hj => ?_⟩
    · rw [j1 1 5 (by omega), u2_o (by decide), u2_s]
    · have hj : j < A.2.2.1.dropLast.length := hj
      show MR (A.1.1 4) (A.1.1 5) (55 + 5 * kSl ((x + 15) % 16) A.2.2.1.dropLast.length j) (rD A.2.2.1.dropLast j) J
      rw [ld] at hj ⊢
      rw [rD_dl hj]
      have e2 : kSl ((x + 15) % 16) (A.2.2.1.length - 1) j = kSl x A.2.2.1.length j := by unfold kSl; omega
      rw [e2]
      exact MR_o (hU j (by omega)) (fun c i z1 z2 => o c i (by omega) (by omega))
    · show J 1 6 = nI A.2.2.1.dropLast.length
      rw [ld, j1 1 6 (by omega), u2_s]
    · show J 1 8 = nI A.2.2.2.length
      rw [j1 1 8 (by omega), u2_o (by decide), u2_o (by decide)]; exact hA.2.2.2.2.1
    · exact MR_o (hA.2.2.2.2.2 j hj) (fun c i z1 z2 => o c i (by have : j < A.2.2.2.length := hj; omega) (by omega))
  · have z : I 1 6 = 0 := z
    have hk : A.2.2.1.length = 0 := by
      rw [e6] at z
      exact (nI_eq (by omega) (by decide)).mp (z.trans (show (0 : Int32) = nI 0 from rfl))
    rw [if_pos hk] at h
    conv => whnf
    refine sX6_refuse ?_
    conv => whnf
    exact ⟨Or.inl rfl, h _ (AS6_13 hp hR hA 6)⟩
end ACT
