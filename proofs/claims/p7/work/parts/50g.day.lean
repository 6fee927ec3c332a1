/-! a day: the plain row of the next day; the class's day -/
section DAY
variable {l : Launch} {X : Nat × (Nat → Int32)} {d : Nat} {w : Nat × Nat} {p r : Nat} {I I' : Nat → Nat → Int32} {L : Nat → Nat → Int64} {kr : KR} {A : Ast}
def vxP (P : Ps) : Option Nat → Int32
  | none => 0
  | some c => nI (P.1 (35 + 2 * c))
def evP (P : Ps) : Option Nat → Int32
  | none => 0
  | some c => nI (P.1 (36 + 2 * c))
/-- face f through the day that comes -/
def nxF (P : Ps) (S : Rw) (f : Nat) : Fc := cSt (nI (P.1 (11 + 4 * f))) (nI (P.1 (13 + 4 * f))) (vxP P (cnS (P.1 5) S (nI f))) (evP P (cnS (P.1 5) S (nI f))) false (S 23, S f, S (6 + f), 0)
def ltF (P : Ps) (S : Rw) (f : Nat) : Bool := cLt (nI (P.1 (11 + 4 * f))) (vxP P (cnS (P.1 5) S (nI f))) (evP P (cnS (P.1 5) S (nI f))) false (S 23, S f, S (6 + f), 0)
def wtS (P : Ps) (S : Rw) : Nat → Int32
  | 0 => 0
  | n + 1 => if ltF P S n = true then wtS P S n ||| ((1 : Int32) <<< (nI (P.1 (14 + 4 * n)) &&& 31)) else wtS P S n
def nR (P : Ps) (S : Rw) : Rw := fun i => if i < P.1 4 then (nxF P S i).2.1 else if 6 ≤ i ∧ i < 6 + P.1 4 then (nxF P S (i - 6)).2.2.1 else if 12 ≤ i ∧ i < 12 + P.1 4 then S i + (nxF P S (i - 12)).2.2.2 else if i = 23 then S 23 + 1 else if i = 24 then wtS P S (P.1 4) else S i
def aDay (A : Ast) : Int32 × Ast := if A.2.1 23 < 999 then (wtS A.1 A.2.1 (A.1.1 4), (A.1, nR A.1 A.2.1, psh A.2.2.1 A.2.1, A.2.2.2)) else (-1, A)
set_option maxHeartbeats 4000000 in
set_option maxRecDepth 20000 in
theorem x_day (hp : p = 7 ∨ p = 20) (hR : RA A) (hA : AS6 A p I) (h : ∀ I', AS6 (aDay A).2 p I' → kr (some (.int (aDay A).1)) (mk w p r I' L)) : Ev l X uX6_day (d + 4) true 0 0 [.ref 1] (mk w p r I L) kr := by
  obtain ⟨hF, hC⟩ := ra_FC hR
  obtain ⟨x, hx, e5, hU⟩ := hA.2.2.1
  have eF : I p 4 = nI (A.1.1 4) := hA.1.1.2.2.2.2.1
  refine Ev.of (by decide) (Nat.le_of_ble_eq_true rfl) ?_
  refine Wf.gc tkX6_day [40] ?_
  conv => whnf
  unfold aDay at h
  refine sX6_hasClose hp (fun z => ?_) (fun z => ?_)
  · conv => whnf
    refine b1 (by decide) ?_
    conv => whnf
    refine ⟨fun z => ?_, fun z => ?_⟩
    · have z : I 33 4 < 999 := z
      rw [hA.2.1.2.2.1] at z
      rw [if_pos z] at h
      conv => whnf
      refine x_keep (d := d + 1) hx hR.2.1.1 e5 hA.2.2.2.1 (fun J hJ => ?_)
      have hJ6 := AS6_keep hp hR hA hx e5 rfl hJ
      have pcJ : PC p A.1.1 A.1.2.1 J := hJ6.1
      have mrJ : MR (A.1.1 4) (A.1.1 5) 33 A.2.1 J := hJ6.2.1
      conv => whnf
      have loop : ∀ i, i ≤ A.1.1 4 → ∀ K : Nat → Nat → Int32, (∀ c j, ¬ (34 ≤ c ∧ c ≤ 36) → ¬ (40 ≤ c ∧ c ≤ 54) → K c j = J c j) → (∀ f, f < A.1.1 4 → (f < i → K 34 f = (nxF A.1 A.2.1 f).2.1 ∧ K 35 f = (nxF A.1 A.2.1 f).2.2.1 ∧ K 36 f = A.2.1 (12 + f) + (nxF A.1 A.2.1 f).2.2.2) ∧ (i ≤ f → K 34 f = A.2.1 f ∧ K 35 f = A.2.1 (6 + f) ∧ K 36 f = A.2.1 (12 + f))) → Wf l X uX6_day (d + 4) true (mC (mk w p r I L) + 0, mS (mk w p r I L) + 0) 40 [(0, .ref 1), (1, .int (wtS A.1 A.2.1 i)), (2, .int (nI i))] [] (mk w p r K L) kr := by
        refine down _ (A.1.1 4) ?_ ?_
        · intro K k1 k2
          refine Wf.gc tkX6_day [] ?_
          have kF : K p 4 = nI (A.1.1 4) := (k1 p 4 (by omega) (by omega)).trans pcJ.1.2.2.2.2.1
          have fin : kr (some (.int (wtS A.1 A.2.1 (A.1.1 4)))) (mk w p r (u2 (u2 (u2 K 33 4 (K 33 4 + 1)) 33 5 (wtS A.1 A.2.1 (A.1.1 4))) 1 13 0) L) := by
            refine h _ (AS6_o hp (A := (A.1, nR A.1 A.2.1, psh A.2.2.1 A.2.1, A.2.2.2)) hR.1.1 hR.2.1.2 (I := u2 (u2 K 33 4 (K 33 4 + 1)) 33 5 (wtS A.1 A.2.1 (A.1.1 4))) ?_ (fun c i z _ => u2_o z))
            have hJK : AS6 (A.1, A.2.1, psh A.2.2.1 A.2.1, A.2.2.2) p (fun c i => if 34 ≤ c ∧ c ≤ 36 then J c i else K c i) := AS6_o hp (A := (A.1, A.2.1, psh A.2.2.1 A.2.1, A.2.2.2)) hR.1.1 hR.2.1.2 hJ6 (fun c i z1 z2 => by
              show (if 34 ≤ c ∧ c ≤ 36 then J c i else K c i) = J c i
              split
              · rfl
              · rename_i z; exact k1 c i z z2)
            refine AS6_now hp hR.1.1 hJK (fun c i z => by rw [u2_o (by omega), u2_o (by omega), if_neg (by omega)]) ⟨fun f hf => ?_, fun c hc => ?_, ?_, ?_⟩
            · obtain ⟨y1, y2, y3⟩ := (k2 f hf).1 hf
              refine ⟨?_, ?_, ?_⟩
              · rw [u2_o (by omega), u2_o (by omega)]
                show K 34 f = if f < A.1.1 4 then _ else _
                rw [if_pos hf]; exact y1
              · rw [u2_o (by omega), u2_o (by omega)]
                show K 35 f = if 6 + f < A.1.1 4 then _ else if 6 ≤ 6 + f ∧ 6 + f < 6 + A.1.1 4 then _ else _
                rw [if_neg (by omega), if_pos (by omega), Nat.add_sub_cancel_left]; exact y2
              · rw [u2_o (by omega), u2_o (by omega)]
                show K 36 f = if 12 + f < A.1.1 4 then _ else if 6 ≤ 12 + f ∧ 12 + f < 6 + A.1.1 4 then _ else if 12 ≤ 12 + f ∧ 12 + f < 12 + A.1.1 4 then _ else _
                rw [if_neg (by omega), if_neg (by omega), if_pos (by omega), Nat.add_sub_cancel_left]; exact y3
            · rw [u2_o (by omega), u2_o (by omega)]
              show K 37 c = if 18 + c < A.1.1 4 then _ else if 6 ≤ 18 + c ∧ 18 + c < 6 + A.1.1 4 then _ else if 12 ≤ 18 + c ∧ 18 + c < 12 + A.1.1 4 then _ else if 18 + c = 23 then _ else if 18 + c = 24 then _ else _
              have hc : c < A.1.1 5 := hc
              rw [if_neg (by omega), if_neg (by omega), if_neg (by omega), if_neg (by omega), if_neg (by omega), k1 37 c (by omega) (by omega)]
              exact mrJ.2.1 c hc
            · rw [u2_o (by omega), u2_s, k1 33 4 (by omega) (by omega), mrJ.2.2.1]
              show _ = if 23 < A.1.1 4 then _ else if 6 ≤ 23 ∧ 23 < 6 + A.1.1 4 then _ else if 12 ≤ 23 ∧ 23 < 12 + A.1.1 4 then _ else if 23 = 23 then _ else _
              rw [if_neg (by omega), if_neg (by omega), if_neg (by omega), if_pos rfl]
            · rw [u2_s]
              show _ = if 24 < A.1.1 4 then _ else if 6 ≤ 24 ∧ 24 < 6 + A.1.1 4 then _ else if 12 ≤ 24 ∧ 24 < 12 + A.1.1 4 then _ else if 24 = 23 then _ else if 24 = 24 then _ else _
              rw [if_neg (by omega), if_neg (by omega), if_neg (by omega), if_neg (by decide), if_pos rfl]
          have kle : nI (A.1.1 4) ≤ nI (A.1.1 4) := Int32.le_refl _
          rcases hp with rfl | rfl
          all_goals
            conv => whnf
            refine b1' (show K _ 4 ≤ nI (A.1.1 4) from kF ▸ kle) ?_
            conv => whnf
            refine sX6_answer ?_
            conv => whnf
            exact fin
        · intro i hi ih K k1 k2
          have kF : K p 4 = nI (A.1.1 4) := (k1 p 4 (by omega) (by omega)).trans pcJ.1.2.2.2.2.1
          have kC : K p 10 = nI (A.1.1 5) := (k1 p 10 (by omega) (by omega)).trans pcJ.1.2.2.2.2.2.1
          have klt : ¬ K p 4 ≤ nI i := by rw [kF, nI_leI (by omega) (by omega)]; omega
          have mrK : ∀ c, c < A.1.1 5 → K 37 c = A.2.1 (18 + c) := fun c hc => (k1 37 c (by omega) (by omega)).trans (mrJ.2.1 c hc)
          have eo : cOf K (A.1.1 5) (nI i) = cnS (A.1.1 5) A.2.1 (nI i) := by
            unfold cOf cnS
            refine ff_cong (fun j _ hj => ?_)
            rw [mrK j (by omega)]
          have ho : ∀ c, cnS (A.1.1 5) A.2.1 (nI i) = some c → c < A.1.1 5 := fun c hc => by have := (ff_lt hc).2.1; omega
          obtain ⟨q1, q2, q3, q4⟩ := pcJ.2.1 i hi
          have a1 : K (p + 1) i = nI (A.1.1 (11 + 4 * i)) := (k1 (p + 1) i (by omega) (by omega)).trans q1
          have a3 : K (p + 3) i = nI (A.1.1 (13 + 4 * i)) := (k1 (p + 3) i (by omega) (by omega)).trans q3
          have a4 : K (p + 4) i = nI (A.1.1 (14 + 4 * i)) := (k1 (p + 4) i (by omega) (by omega)).trans q4
          have ev : vxO K p (cnS (A.1.1 5) A.2.1 (nI i)) = vxP A.1 (cnS (A.1.1 5) A.2.1 (nI i)) := by
            cases hq : cnS (A.1.1 5) A.2.1 (nI i) with
            | none => rfl
            | some c => exact (k1 (p + 7) c (by omega) (by omega)).trans (pcJ.2.2.2.1 c (ho c hq)).2.1
          have ee : evO K p (cnS (A.1.1 5) A.2.1 (nI i)) = evP A.1 (cnS (A.1.1 5) A.2.1 (nI i)) := by
            cases hq : cnS (A.1.1 5) A.2.1 (nI i) with
            | none => rfl
            | some c => exact (k1 (p + 8) c (by omega) (by omega)).trans (pcJ.2.2.2.1 c (ho c hq)).2.2
          obtain ⟨y1, y2, y3⟩ := (k2 i hi).2 (Nat.le_refl _)
          have en : nowF K i = (A.2.1 23, A.2.1 i, A.2.1 (6 + i), 0) := by
            unfold nowF
            rw [y1, y2, k1 33 4 (by omega) (by omega), mrJ.2.2.1]
          have ec : crs K p i (cnS (A.1.1 5) A.2.1 (nI i)) (nowF K i) = crf K (nI (A.1.1 (11 + 4 * i))) (nI (A.1.1 (13 + 4 * i))) (vxP A.1 (cnS (A.1.1 5) A.2.1 (nI i))) (evP A.1 (cnS (A.1.1 5) A.2.1 (nI i))) (A.2.1 23, A.2.1 i, A.2.1 (6 + i), 0) := by
            unfold crs
            rw [a1, a3, ev, ee, en]
          have c86 : ∀ bt : Int32, bt = wtS A.1 A.2.1 (i + 1) → Wf l X uX6_day (d + 4) true (mC (mk w p r I L) + 0, mS (mk w p r I L) + 0) 86 [(0, .ref 1), (1, .int bt), (2, .int (nI i))] [] (mk w p r (crf K (nI (A.1.1 (11 + 4 * i))) (nI (A.1.1 (13 + 4 * i))) (vxP A.1 (cnS (A.1.1 5) A.2.1 (nI i))) (evP A.1 (cnS (A.1.1 5) A.2.1 (nI i))) (nxF A.1 A.2.1 i)) L) kr := by
            intro bt hbt
            generalize hN : crf K (nI (A.1.1 (11 + 4 * i))) (nI (A.1.1 (13 + 4 * i))) (vxP A.1 (cnS (A.1.1 5) A.2.1 (nI i))) (evP A.1 (cnS (A.1.1 5) A.2.1 (nI i))) (nxF A.1 A.2.1 i) = N
            have n5 : N 40 5 = (nxF A.1 A.2.1 i).2.1 := by rw [← hN]; rfl
            have n6 : N 40 6 = (nxF A.1 A.2.1 i).2.2.1 := by rw [← hN]; rfl
            have n7 : N 40 7 = (nxF A.1 A.2.1 i).2.2.2 := by rw [← hN]; rfl
            have no : ∀ c j, c ≠ 40 → N c j = K c j := fun c j z => by rw [← hN]; exact congrFun (cr_o z) j
            refine Wf.gc tkX6_day [40] ?_
            conv => whnf
            refine ⟨i, ix (N := 6) (by omega) (by decide), ?_⟩
            conv => whnf
            refine ⟨i, ix (N := 6) (by omega) (by decide), ?_⟩
            conv => whnf
            refine ⟨i, ix (N := 6) (by omega) (by decide), ?_⟩
            conv => whnf
            refine ⟨i, ix (N := 6) (by omega) (by decide), ?_⟩
            conv => whnf
            show Wf l X uX6_day (d + 4) true (mC (mk w p r I L) + 0, mS (mk w p r I L) + 0) 40 [(0, .ref 1), (1, .int bt), (2, .int (nI i + 1))] [] (mk w p r (u2 (u2 (u2 N 34 i (N 40 5)) 35 i (u2 N 34 i (N 40 5) 40 6)) 36 i (u2 (u2 N 34 i (N 40 5)) 35 i (u2 N 34 i (N 40 5) 40 6) 36 i + u2 (u2 N 34 i (N 40 5)) 35 i (u2 N 34 i (N 40 5) 40 6) 40 7)) L) kr
            rw [nI_s, hbt]
            refine ih _ (fun c j z1 z2 => ?_) (fun f hf => ⟨fun z => ?_, fun z => ?_⟩)
            · rw [u2_o (by omega), u2_o (by omega), u2_o (by omega), no c j (by omega)]; exact k1 c j z1 z2
            · by_cases e : f = i
              · subst e
                refine ⟨?_, ?_, ?_⟩
                · rw [u2_o (by omega), u2_o (by omega), u2_s]; exact n5
                · rw [u2_o (by omega), u2_s, u2_o (by omega)]; exact n6
                · rw [u2_s, u2_o (by omega), u2_o (by omega), u2_o (by omega), u2_o (by omega), no 36 f (by decide), y3, n7]
              · rw [u2_o (by omega), u2_o (by omega), u2_o (by omega), no 34 f (by decide), u2_o (by omega), u2_o (by omega), u2_o (by omega), no 35 f (by decide), u2_o (by omega), u2_o (by omega), u2_o (by omega), no 36 f (by decide)]
                exact (k2 f hf).1 (by omega)
            · rw [u2_o (by omega), u2_o (by omega), u2_o (by omega), no 34 f (by decide), u2_o (by omega), u2_o (by omega), u2_o (by omega), no 35 f (by decide), u2_o (by omega), u2_o (by omega), u2_o (by omega), no 36 f (by decide)]
              exact (k2 f hf).2 (by omega)
          refine Wf.gc tkX6_day [86] ?_
          have hp' := hp
          rcases hp with rfl | rfl
          all_goals
            conv => whnf
            refine b2' (show ¬ K _ 4 ≤ nI i from klt) ?_
            conv => whnf
            refine sX6_canonOf hp' kC hC ?_
            rw [eo]
            conv => whnf
            refine sX6_startNow hp' (by omega) (fun c hc => Nat.lt_of_lt_of_le (ho c hc) hC) ?_
            rw [ec]
            conv => whnf
            refine sX0_pass (calm := false) ?_
            conv => whnf
            refine ⟨fun z => ?_, fun z => ?_⟩
            · have z : bI (ltF A.1 A.2.1 i) = 0 := z
              have zl : ltF A.1 A.2.1 i = false := by
                cases hq : ltF A.1 A.2.1 i with
                | false => rfl
                | true => rw [hq] at z; exact absurd z (by decide)
              conv => whnf
              exact c86 _ (by show _ = (if ltF A.1 A.2.1 i = true then _ else _); rw [zl]; rfl)
            · have z : ¬ bI (ltF A.1 A.2.1 i) = 0 := z
              have zl : ltF A.1 A.2.1 i = true := by
                cases hq : ltF A.1 A.2.1 i with
                | true => rfl
                | false => rw [hq] at z; exact absurd rfl z
              conv => whnf
              refine ⟨i, ix (N := 6) (by omega) (by decide), ?_⟩
              conv => whnf
              refine c86 _ ?_
              have e1 : wtS A.1 A.2.1 (i + 1) = wtS A.1 A.2.1 i ||| ((1 : Int32) <<< (nI (A.1.1 (14 + 4 * i)) &&& 31)) := by
                show (if ltF A.1 A.2.1 i = true then _ else _) = _
                rw [zl]
                rfl
              rw [e1]
              exact congrArg (fun t => wtS A.1 A.2.1 i ||| ((1 : Int32) <<< (t &&& 31))) a4
      exact loop 0 (Nat.zero_le _) J (fun _ _ _ _ => rfl) (fun f hf => ⟨fun z => absurd z (Nat.not_lt_zero _), fun _ => mrJ.1 f hf⟩)
    · have z : ¬ I 33 4 < 999 := z
      rw [hA.2.1.2.2.1] at z
      rw [if_neg z] at h
      conv => whnf
      refine sX6_refuse ?_
      conv => whnf
      exact h _ (AS6_13 hp hR hA 3)
  · exact absurd (by rw [eF, show (0 : Int32) = nI 0 from rfl, nI_ltI (by decide) (by omega)]; exact hR.1.2.2) z
end DAY
