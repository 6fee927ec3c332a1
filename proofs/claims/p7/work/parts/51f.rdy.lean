/-! the reference's days on a row -/
section RDY
variable {l : Launch} {X : Nat × (Nat → Int32)} {d : Nat} {w : Nat × Nat} {p r : Nat} {I : Nat → Nat → Int32} {L : Nat → Nat → Int64} {kr : KR} {P : Ps} {S : Rw} {V : Nat → Int32} {calm : Bool}
def lgo (k h b : Int32) : Int32 := if k = 0 then (if b < h then 0 else b) else if k = 1 then (if b < h then 0 else h) else (if b < 2 * h then 0 else b)
theorem i11 (f : Nat) : (11 + 4 * nI f : Int32) = nI (11 + 4 * f) := by
  rw [show (4 : Int32) * nI f = nI (4 * f) from nI_mul 4 f]
  exact nI_add 11 (4 * f)
theorem i13 (f : Nat) : (11 + 4 * nI f + 2 : Int32) = nI (13 + 4 * f) := by
  rw [i11, show (nI (11 + 4 * f) + 2 : Int32) = nI (11 + 4 * f + 2) from nI_add _ 2, show 11 + 4 * f + 2 = 13 + 4 * f by omega]
theorem i14 (f : Nat) : (11 + 4 * nI f + 3 : Int32) = nI (14 + 4 * f) := by
  rw [i11, show (nI (11 + 4 * f) + 3 : Int32) = nI (11 + 4 * f + 3) from nI_add _ 3, show 11 + 4 * f + 3 = 14 + 4 * f by omega]
theorem i35 (c : Nat) : (35 + 2 * nI c : Int32) = nI (35 + 2 * c) := by
  rw [show (2 : Int32) * nI c = nI (2 * c) from nI_mul 2 c]
  exact nI_add 35 (2 * c)
theorem i36 (c : Nat) : (35 + 2 * nI c + 1 : Int32) = nI (36 + 2 * c) := by
  rw [i35, nI_s, show 35 + 2 * c + 1 = 36 + 2 * c by omega]
set_option maxRecDepth 20000 in
/-- nobody's vexation is in doubt -/
theorem y_vexed0 {N U : Nat} {F : Nat → Nat} (hN : I 153 5 = nI N) (hb : N ≤ 5) (hU : I 153 7 = nI U) (hUb : U ≤ 4) (hF : ∀ c, c < N → I 153 (35 + 2 * c) = nI (F (35 + 2 * c))) (h : ∀ K : Nat → Nat → Int32, (∀ x i, ¬ (x = 160 ∧ i < 5) → K x i = I x i) → (∀ c, c < N → K 160 c = nI (F (35 + 2 * c))) → kr none (mk w p r K L)) : Ev l X uX7_vexedBy (d + 1) true 0 0 [.ref 150, .int 0] (mk w p r I L) kr := by
  refine Ev.of (by decide) (Nat.le_of_ble_eq_true rfl) ?_
  refine Wf.gc tkX7_vexedBy [2] ?_
  conv => whnf
  have sec : ∀ K : Nat → Nat → Int32, (∀ x i, ¬ (x = 160 ∧ i < 5) → K x i = I x i) → (∀ c, c < N → K 160 c = nI (F (35 + 2 * c))) → ∀ i, i ≤ U → Wf l X uX7_vexedBy (d + 1) true (mC (mk w p r I L) + 0, mS (mk w p r I L) + 0) 37 [(0, .ref 150), (1, .int 0), (2, .int (nI i))] [] (mk w p r K L) kr := by
    intro K k1 k2
    have kU : K 153 7 = nI U := (k1 153 7 (by omega)).trans hU
    refine down _ U ?_ ?_
    · refine Wf.gc tkX7_vexedBy [] ?_
      conv => whnf
      refine ⟨7, ⟨rfl, by decide, show 7 < 202 by decide⟩, ?_⟩
      conv => whnf
      refine b1' (by show K 153 7 ≤ nI U; rw [kU]; exact Int32.le_refl _) ?_
      conv => whnf
      exact h K k1 k2
    · intro i hi ih
      refine Wf.gc tkX7_vexedBy [37] ?_
      conv => whnf
      refine ⟨7, ⟨rfl, by decide, show 7 < 202 by decide⟩, ?_⟩
      conv => whnf
      refine b2' (by show ¬ K 153 7 ≤ nI i; rw [kU, nI_leI (by omega) (by omega)]; omega) ?_
      conv => whnf
      refine y_hasBit ?_
      rw [show isWl (0 : Int32) i = false by rcases (show i = 0 ∨ i = 1 ∨ i = 2 ∨ i = 3 by omega) with rfl | rfl | rfl | rfl <;> decide]
      conv => whnf
      refine b1' rfl ?_
      conv => whnf
      show Wf l X uX7_vexedBy (d + 1) true (mC (mk w p r I L) + 0, mS (mk w p r I L) + 0) 37 [(0, .ref 150), (1, .int 0), (2, .int (nI i + 1))] [] (mk w p r K L) kr
      rw [nI_s]
      exact ih
  refine down (fun i => ∀ K : Nat → Nat → Int32, (∀ x j, ¬ (x = 160 ∧ j < 5) → K x j = I x j) → (∀ c, c < i → K 160 c = nI (F (35 + 2 * c))) → Wf l X uX7_vexedBy (d + 1) true (mC (mk w p r I L) + 0, mS (mk w p r I L) + 0) 2 [(0, .ref 150), (1, .int 0), (2, .int (nI i))] [] (mk w p r K L) kr) N ?_ ?_ 0 (Nat.zero_le _) I (fun _ _ _ => rfl) (fun c hc => absurd hc (Nat.not_lt_zero _))
  · intro K k1 k2
    have kN : K 153 5 = nI N := (k1 153 5 (by omega)).trans hN
    refine Wf.gc tkX7_vexedBy [37] ?_
    conv => whnf
    refine ⟨5, ⟨rfl, by decide, show 5 < 202 by decide⟩, ?_⟩
    conv => whnf
    refine b1' (by show K 153 5 ≤ nI N; rw [kN]; exact Int32.le_refl _) ?_
    conv => whnf
    exact sec K k1 k2 0 (Nat.zero_le _)
  · intro i hi ih K k1 k2
    have kN : K 153 5 = nI N := (k1 153 5 (by omega)).trans hN
    refine Wf.gc tkX7_vexedBy [2] ?_
    conv => whnf
    refine ⟨5, ⟨rfl, by decide, show 5 < 202 by decide⟩, ?_⟩
    conv => whnf
    refine b2' (by show ¬ K 153 5 ≤ nI i; rw [kN, nI_leI (by omega) (by omega)]; omega) ?_
    conv => whnf
    refine ⟨35 + 2 * i, ⟨i35 i, by omega, show 35 + 2 * i < 202 by omega⟩, ?_⟩
    conv => whnf
    refine ⟨i, ⟨rfl, by omega, show i < 5 by omega⟩, ?_⟩
    conv => whnf
    show Wf l X uX7_vexedBy (d + 1) true (mC (mk w p r I L) + 0, mS (mk w p r I L) + 0) 2 [(0, .ref 150), (1, .int 0), (2, .int (nI i + 1))] [] (mk w p r (u2 K 160 i (K 153 (35 + 2 * i))) L) kr
    rw [nI_s]
    refine ih _ (fun x j z => by rw [u2_o (by omega)]; exact k1 x j z) (fun c hc => ?_)
    by_cases e : c = i
    · subst e
      rw [u2_s, k1 153 _ (by omega)]; exact hF c hi
    · rw [u2_o (by omega)]; exact k2 c (by omega)
set_option maxRecDepth 20000 in
theorem y_letsGo_157 {f : Nat} {k h b : Int32} (hf : f < 6) (ek : I 153 (11 + 4 * f) = k) (eh : I 157 f = h) (eb : I 157 (6 + f) = b) (hk : kr (some (.int (lgo k h b))) (mk w p r I L)) : Ev l X uX7_letsGo d true 0 0 [.ref 150, .ref 157, .int (nI f)] (mk w p r I L) kr := by
  refine Ev.of (by decide) (Nat.le_of_ble_eq_true rfl) ?_
  refine Wf.gc tkX7_letsGo [25] ?_
  have go : Wf l X uX7_letsGo d true (mC (mk w p r I L) + 0, mS (mk w p r I L) + 0) 25 [(0, .ref 150), (1, .ref 157), (2, .int (nI f)), (3, .int k), (4, .int h), (5, .int b)] [] (mk w p r I L) kr := by
    unfold lgo at hk
    refine Wf.gc tkX7_letsGo [] ?_
    conv => whnf
    refine ⟨fun z => ?_, fun z => ?_⟩
    · have z : ¬ k = 0 := z
      rw [if_neg z] at hk
      conv => whnf
      refine ⟨fun z2 => ?_, fun z2 => ?_⟩
      · have z2 : ¬ k = 1 := z2
        rw [if_neg z2] at hk
        conv => whnf
        refine ⟨fun y => ?_, fun y => ?_⟩
        · have y : b < 2 * h := y
          rw [if_pos y] at hk
          conv => whnf
          exact hk
        · have y : ¬ b < 2 * h := y
          rw [if_neg y] at hk
          conv => whnf
          exact hk
      · have z2 : k = 1 := z2
        rw [if_pos z2] at hk
        conv => whnf
        refine ⟨fun y => ?_, fun y => ?_⟩
        · have y : b < h := y
          rw [if_pos y] at hk
          conv => whnf
          exact hk
        · have y : ¬ b < h := y
          rw [if_neg y] at hk
          conv => whnf
          exact hk
    · have z : k = 0 := z
      rw [if_pos z] at hk
      conv => whnf
      refine ⟨fun y => ?_, fun y => ?_⟩
      · have y : b < h := y
        rw [if_pos y] at hk
        conv => whnf
        exact hk
      · have y : ¬ b < h := y
        rw [if_neg y] at hk
        conv => whnf
        exact hk
  conv => whnf
  refine ⟨11 + 4 * f, ⟨i11 f, by omega, show 11 + 4 * f < 202 by omega⟩, ?_⟩
  conv => whnf
  refine ⟨f, ⟨rfl, by omega, show f < 25 by omega⟩, ?_⟩
  conv => whnf
  refine ⟨6 + f, ⟨nI_add 6 f, by omega, show 6 + f < 25 by omega⟩, ?_⟩
  conv => whnf
  show Wf l X uX7_letsGo d true (mC (mk w p r I L) + 0, mS (mk w p r I L) + 0) 25 [(0, .ref 150), (1, .ref 157), (2, .int (nI f)), (3, .int (I 153 (11 + 4 * f))), (4, .int (I 157 f)), (5, .int (I 157 (6 + f)))] [] (mk w p r I L) kr
  rw [ek, eh, eb]
  exact go
set_option maxRecDepth 20000 in
theorem y_letsGo_161 {f : Nat} {k h b : Int32} (hf : f < 6) (ek : I 153 (11 + 4 * f) = k) (eh : I 161 f = h) (eb : I 161 (6 + f) = b) (hk : kr (some (.int (lgo k h b))) (mk w p r I L)) : Ev l X uX7_letsGo d true 0 0 [.ref 150, .ref 161, .int (nI f)] (mk w p r I L) kr := by
  refine Ev.of (by decide) (Nat.le_of_ble_eq_true rfl) ?_
  refine Wf.gc tkX7_letsGo [25] ?_
  have go : Wf l X uX7_letsGo d true (mC (mk w p r I L) + 0, mS (mk w p r I L) + 0) 25 [(0, .ref 150), (1, .ref 161), (2, .int (nI f)), (3, .int k), (4, .int h), (5, .int b)] [] (mk w p r I L) kr := by
    unfold lgo at hk
    refine Wf.gc tkX7_letsGo [] ?_
    conv => whnf
    refine ⟨fun z => ?_, fun z => ?_⟩
    · have z : ¬ k = 0 := z
      rw [if_neg z] at hk
      conv => whnf
      refine ⟨fun z2 => ?_, fun z2 => ?_⟩
      · have z2 : ¬ k = 1 := z2
        rw [if_neg z2] at hk
        conv => whnf
        refine ⟨fun y => ?_, fun y => ?_⟩
        · have y : b < 2 * h := y
          rw [if_pos y] at hk
          conv => whnf
          exact hk
        · have y : ¬ b < 2 * h := y
          rw [if_neg y] at hk
          conv => whnf
          exact hk
      · have z2 : k = 1 := z2
        rw [if_pos z2] at hk
        conv => whnf
        refine ⟨fun y => ?_, fun y => ?_⟩
        · have y : b < h := y
          rw [if_pos y] at hk
          conv => whnf
          exact hk
        · have y : ¬ b < h := y
          rw [if_neg y] at hk
          conv => whnf
          exact hk
    · have z : k = 0 := z
      rw [if_pos z] at hk
      conv => whnf
      refine ⟨fun y => ?_, fun y => ?_⟩
      · have y : b < h := y
        rw [if_pos y] at hk
        conv => whnf
        exact hk
      · have y : ¬ b < h := y
        rw [if_neg y] at hk
        conv => whnf
        exact hk
  conv => whnf
  refine ⟨11 + 4 * f, ⟨i11 f, by omega, show 11 + 4 * f < 202 by omega⟩, ?_⟩
  conv => whnf
  refine ⟨f, ⟨rfl, by omega, show f < 25 by omega⟩, ?_⟩
  conv => whnf
  refine ⟨6 + f, ⟨nI_add 6 f, by omega, show 6 + f < 25 by omega⟩, ?_⟩
  conv => whnf
  show Wf l X uX7_letsGo d true (mC (mk w p r I L) + 0, mS (mk w p r I L) + 0) 25 [(0, .ref 150), (1, .ref 161), (2, .int (nI f)), (3, .int (I 153 (11 + 4 * f))), (4, .int (I 161 f)), (5, .int (I 161 (6 + f)))] [] (mk w p r I L) kr
  rw [ek, eh, eb]
  exact go
end RDY
