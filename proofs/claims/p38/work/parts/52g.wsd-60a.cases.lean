section
/-! wet, sunny, dropsIn, fallsIn -/
section WSD
variable {l : Launch} {X : Nat × (Nat → Int32)} {d : Nat} {w : Nat × Nat} {p r : Nat} {I : Nat → Nat → Int32} {L : Nat → Nat → Int64} {kr : KR} {M : Mm} {o : Ost} {A : Ast}
/-! fallsIn -/
end WSD
end
section
/-! dropsIn, sunny, fallen -/
section DSF
variable {l : Launch} {X : Nat × (Nat → Int32)} {d : Nat} {w : Nat × Nat} {p r : Nat} {I : Nat → Nat → Int32} {L : Nat → Nat → Int64} {kr : KR} {M : Mm} {o : Ost} {A : Ast}
/-! sunny -/
/-! dropsIn -/
end DSF
end
section
/-! fallen -/
section FLN
variable {l : Launch} {X : Nat × (Nat → Int32)} {d : Nat} {w : Nat × Nat} {p r : Nat} {I : Nat → Nat → Int32} {L : Nat → Nat → Int64} {kr : KR} {M : Mm} {o : Ost} {A : Ast}
end FLN
end
section
/-! size -/
section SIZ
variable {l : Launch} {X : Nat × (Nat → Int32)} {d : Nat} {w : Nat × Nat} {p r : Nat} {I : Nat → Nat → Int32} {L : Nat → Nat → Int64} {kr : KR} {M : Mm} {o : Ost} {A : Ast} {F : Nat → Nat} {W : Int32}
end SIZ
end
section
section SIZ2
variable {l : Launch} {X : Nat × (Nat → Int32)} {d : Nat} {w : Nat × Nat} {p r : Nat} {I : Nat → Nat → Int32} {L : Nat → Nat → Int64} {kr : KR} {M : Mm} {o : Ost} {A : Ast} {t : Nat}
end SIZ2
end
section
/-! canons of whom nobody is sure: whether a set fits what was told -/
section UNS
variable {l : Launch} {X : Nat × (Nat → Int32)} {d : Nat} {w : Nat × Nat} {p r : Nat} {I : Nat → Nat → Int32} {L : Nat → Nat → Int64} {kr : KR} {M : Mm} {o : Ost} {A : Ast} {P : Ps} {S : Rw} {F : Nat → Nat} {W : Int32}
/-- no canon is told to be unsure twice -/
noncomputable def UD (F : Nat → Nat) : Prop := ∀ u u', u < u' → u' < F 7 → F (53 + 2 * u) ≠ F (53 + 2 * u')
/-- how vexed canon c is by set s -/
noncomputable def vxB (F : Nat → Nat) (s : Int32) (c : Nat) : Int32 := match usd F c with
  | none => nI (F (35 + 2 * c))
  | some u => if isWl s u = true then nI (F (54 + 2 * u)) else nI (F (35 + 2 * c))
noncomputable def tdV (F : Nat → Nat) (s : Int32) (f : Nat) : Int32 := match toc F f with
  | none => 0
  | some c => vxB F s c
noncomputable def tdE (F : Nat → Nat) (f : Nat) : Int32 := match toc F f with
  | none => 0
  | some c => nI (F (36 + 2 * c))
/-- face f's course from the beginning on -/
noncomputable def tdC (F : Nat → Nat) (s : Int32) (f i : Nat) : Fc := cIt (nI (F (11 + 4 * f))) (nI (F (13 + 4 * f))) (tdV F s f) (tdE F f) (0, nI (F (12 + 4 * f)), 0, 0) i
noncomputable def tdL (F : Nat → Nat) (s : Int32) (f i : Nat) : Bool := cLt (nI (F (11 + 4 * f))) (tdV F s f) (tdE F f) false (tdC F s f i)
/-- the day on which it first lets go -/
noncomputable def tdF (F : Nat → Nat) (s : Int32) (f : Nat) : Option Nat := (ff (tdL F s f) 40 0).map (· + 1)
noncomputable def dfB (F : Nat → Nat) (s : Int32) (f : Nat) : Bool := decide (F (61 + f) = 0) || decide (oI (tdF F s f) = nI (F (61 + f)))
/-- the first face that doesn't fit -/
noncomputable def wrB (F : Nat → Nat) (s : Int32) : Option Nat := ff (fun f => !dfB F s f) (F 4) 0
set_option maxRecDepth 20000 in
theorem x_vexedBy {q c : Nat} {s : Int32} (hq : q = 7 ∨ q = 20) (hc : c < F 5) (h5 : F 5 ≤ 5) (h7 : F 7 ≤ 4) (hb : ∀ k, F k < 1000) (hp : PC q F W I) (h : kr (some (.int (vxB F s c))) (mk w p r I L)) : Ev l X uX3_vexedBy (d + 1) true 0 0 [.ref q, .int (nI c), .int s] (mk w p r I L) kr := by
  refine Ev.of (by decide) (Nat.le_of_ble_eq_true rfl) ?_
  refine Wf.gc tkX3_vexedBy [29] ?_
  have e7 : I (q + 7) c = nI (F (35 + 2 * c)) := (hp.2.2.2.1 c hc).2.1
  have lst : ∀ v : Int32, vxB F s c = nI (F (35 + 2 * c)) → Wf l X uX3_vexedBy (d + 1) true (mC (mk w p r I L) + 0, mS (mk w p r I L) + 0) 29 [(0, .ref q), (1, .int (nI c)), (2, .int s), (3, .int v)] [] (mk w p r I L) kr := by
    intro v e
    rw [e, ← e7] at h
    refine Wf.gc tkX3_vexedBy [] ?_
    rcases hq with rfl | rfl
    all_goals
      conv => whnf
      refine ⟨c, ix (N := 5) (by omega) (by decide), ?_⟩
      conv => whnf
      exact h
  have hq' := hq
  rcases hq with rfl | rfl
  all_goals
    conv => whnf
    refine x_unsureOf (d := d) (v := c) hq' (by omega) (fun f _ => hb _) h7 hp ?_
    conv => whnf
    cases hu : usd F c with
    | none =>
      refine b1' (show oI none = -2 from rfl) ?_
      conv => whnf
      refine lst _ ?_
      unfold vxB
      rw [hu]
    | some u =>
      have u4 : u < F 7 := by have := (ff_lt (show ff (fun u => Nat.beq (F (53 + 2 * u)) c) (F 7) 0 = some u from hu)).2.1; omega
      refine b2' (show ¬ nI u = -2 from nI_m2 (by omega)) ?_
      conv => whnf
      cases hs : isWl s u with
      | true =>
        have hz : ¬ (s >>> (nI u &&& 31)) &&& 1 = 0 := fun z => by
          unfold isWl at hs
          rw [decide_eq_true z] at hs
          cases hs
        refine b2' hz ?_
        have e12 := (hp.2.2.2.2.2 u u4).2
        have ev : vxB F s c = nI (F (54 + 2 * u)) := by
          unfold vxB
          rw [hu]
          exact if_pos hs
        rw [ev, ← e12] at h
        conv => whnf
        refine ⟨u, ix (N := 4) (by omega) (by decide), ?_⟩
        conv => whnf
        exact h
      | false =>
        have hz : (s >>> (nI u &&& 31)) &&& 1 = 0 := by
          unfold isWl at hs
          by_cases z : (s >>> (nI u &&& 31)) &&& 1 = 0
          · exact z
          · rw [decide_eq_false z] at hs
            cases hs
        refine b1' hz ?_
        conv => whnf
        refine lst _ ?_
        unfold vxB
        rw [hu]
        exact if_neg (by rw [hs]; decide)
theorem toc_lt {f c : Nat} (h : toc F f = some c) : c < F 5 := by
  have := (ff_lt (show ff (fun c => Nat.beq (F (300 + c)) f) (F 5) 0 = some c from h)).2.1
  omega
set_option maxRecDepth 20000 in
theorem x_dropFits {f : Nat} {s : Int32} (hp7 : p = 7 ∨ p = 20) (hf : f < F 4) (h4 : F 4 ≤ 6) (h5 : F 5 ≤ 5) (h7 : F 7 ≤ 4) (hb : ∀ k, F k < 1000) (hp : PC p F W I) (h : ∀ I', sc I I' → kr (some (.int (bI (dfB F s f)))) (mk w p r I' L)) : Ev l X uX6_dropFits (d + 2) true 0 0 [.ref 1, .int (nI f), .int s] (mk w p r I L) kr := by
  refine Ev.of (by decide) (Nat.le_of_ble_eq_true rfl) ?_
  refine Wf.gc tkX6_dropFits [22] ?_
  obtain ⟨k1, k2, k3, -⟩ := hp.2.1 f hf
  have kd : I (p + 5) f = nI (F (61 + f)) := hp.2.2.1 f (by omega)
  have hq := hp7
  -- behind the start of the course
  have fin : ∀ I' : Nat → Nat → Int32, sc I I' → ¬ F (61 + f) = 0 → Wf l X uX6_dropFits (d + 2) true (mC (mk w p r I L) + 0, mS (mk w p r I L) + 0) 53 [(0, .ref 1), (1, .int (nI f)), (2, .int s), (3, .int (oI (toc F f)))] [] (mk w p r (crf I' (nI (F (11 + 4 * f))) (nI (F (13 + 4 * f))) (tdV F s f) (tdE F f) (0, nI (F (12 + 4 * f)), 0, 0)) L) kr := by
    intro I' hs hz
    refine Wf.gc tkX6_dropFits [62] ?_
    have tail : ∀ y', Wf l X uX6_dropFits (d + 2) true (mC (mk w p r I L) + 0, mS (mk w p r I L) + 0) 62 [(0, .ref 1), (1, .int (nI f)), (2, .int s), (3, .int (oI (toc F f)))] [.int (oI (tdF F s f))] (mk w p r (crf I' (nI (F (11 + 4 * f))) (nI (F (13 + 4 * f))) (tdV F s f) (tdE F f) y') L) kr := by
      intro y'
      have hsc : sc I (crf I' (nI (F (11 + 4 * f))) (nI (F (13 + 4 * f))) (tdV F s f) (tdE F f) y') := sc_crf hs
      have kd2 : crf I' (nI (F (11 + 4 * f))) (nI (F (13 + 4 * f))) (tdV F s f) (tdE F f) y' (p + 5) f = nI (F (61 + f)) := by
        rw [hsc (p + 5) (by rcases hq with rfl | rfl <;> decide)]
        exact kd
      have hk := h _ hsc
      generalize crf I' (nI (F (11 + 4 * f))) (nI (F (13 + 4 * f))) (tdV F s f) (tdE F f) y' = J at kd2 hk ⊢
      refine Wf.gc tkX6_dropFits [] ?_
      by_cases c : oI (tdF F s f) = nI (F (61 + f))
      · have e : dfB F s f = true := by
          unfold dfB
          rw [decide_eq_true c, Bool.or_true]
        rw [e] at hk
        rcases hq with rfl | rfl
        all_goals
          conv => whnf
          refine ⟨f, ix (N := 6) (by omega) (by decide), ?_⟩
          conv => whnf
          refine b2 (fun z => z (c.trans kd2.symm)) ?_
          conv => whnf
          exact ⟨Or.inr rfl, hk⟩
      · have e : dfB F s f = false := by
          unfold dfB
          rw [decide_eq_false c, decide_eq_false hz]
          rfl
        rw [e] at hk
        rcases hq with rfl | rfl
        all_goals
          conv => whnf
          refine ⟨f, ix (N := 6) (by omega) (by decide), ?_⟩
          conv => whnf
          refine b1 (fun z => c (z.trans kd2)) ?_
          conv => whnf
          exact ⟨Or.inl rfl, hk⟩
    rcases hq with rfl | rfl
    all_goals
      conv => whnf
      refine sX0_firstDrop (d := d) (N := 40) (by decide) (fun y' => ?_)
      conv => whnf
      exact tail y'
  by_cases hz : F (61 + f) = 0
  · have e : dfB F s f = true := by
      unfold dfB
      rw [decide_eq_true hz]
      rfl
    have hk := h I (fun _ _ => rfl)
    rw [e] at hk
    rcases hp7 with rfl | rfl
    all_goals
      conv => whnf
      refine ⟨f, ix (N := 6) (by omega) (by decide), ?_⟩
      conv => whnf
      refine b2 (fun z => z (kd.trans (by rw [hz]; rfl))) ?_
      conv => whnf
      exact ⟨Or.inr rfl, hk⟩
  · have kz : ¬ I (p + 5) f = 0 := by
      rw [kd]
      exact fun z => hz ((nI_eq (by have := hb (61 + f); omega) (by decide)).mp z)
    have st : ∀ v : Int32, tdV F s f = v → Wf l X uX6_dropFits (d + 2) true (mC (mk w p r I L) + 0, mS (mk w p r I L) + 0) 50 [(0, .ref 1), (1, .int (nI f)), (2, .int s), (3, .int (oI (toc F f)))] [.int v, .int (oI (toc F f)), .int (nI f), .ref p, .ref 40] (mk w p r I L) kr := by
      intro v ev
      refine Wf.gc tkX6_dropFits [53] ?_
      have fi := fin I (fun _ _ => rfl) hz
      have es : ∀ e : Int32, tdE F f = e → crf I (nI (F (11 + 4 * f))) (nI (F (13 + 4 * f))) (tdV F s f) (tdE F f) (0, nI (F (12 + 4 * f)), 0, 0) = cr I (I (p + 1) f) (I (p + 3) f) v e 0 (I (p + 2) f) 0 0 := by
        intro e ee
        rw [ev, ee, k1, k2, k3]
        rfl
      cases ht : toc F f with
      | none =>
        rw [ht, es 0 (by unfold tdE; rw [ht])] at fi
        conv => whnf
        refine sX0_start_n (a := p) hq (by omega) ?_
        exact fi
      | some c =>
        have c5 := toc_lt ht
        rw [ht, es (I (p + 8) c) (by unfold tdE; rw [ht]; exact (hp.2.2.2.1 c c5).2.2.symm)] at fi
        conv => whnf
        refine sX0_start_c (a := p) hq (by omega) (by omega) ?_
        exact fi
    have go : Wf l X uX6_dropFits (d + 2) true (mC (mk w p r I L) + 0, mS (mk w p r I L) + 0) 22 [(0, .ref 1), (1, .int (nI f)), (2, .int s)] [.int (oI (toc F f))] (mk w p r I L) kr := by
      refine Wf.gc tkX6_dropFits [50] ?_
      cases ht : toc F f with
      | none =>
        rw [ht] at st
        conv => whnf
        refine b2' (show ¬ (0 : Int32) ≤ -2 by decide) ?_
        conv => whnf
        exact st 0 (by unfold tdV; rw [ht])
      | some c =>
        have c5 := toc_lt ht
        rw [ht] at st
        have st := st (vxB F s c) (by unfold tdV; rw [ht])
        rcases hq with rfl | rfl
        all_goals
          conv => whnf
          refine b1' (show (0 : Int32) ≤ nI c from nI_pos' (by omega)) ?_
          conv => whnf
          refine x_vexedBy (d := d) (by first | exact Or.inl rfl | exact Or.inr rfl) c5 h5 h7 hb hp ?_
          conv => whnf
          exact st
    rcases hp7 with rfl | rfl
    all_goals
      conv => whnf
      refine ⟨f, ix (N := 6) (by omega) (by decide), ?_⟩
      conv => whnf
      refine b1 kz ?_
      conv => whnf
      refine x_toldCanonOf (d := d + 1) (v := f) hq (by omega) (fun f _ => hb _) h5 hp ?_
      conv => whnf
      exact go
/-- the search's first place with one place more -/
theorem ff_s {Q : Nat → Bool} : ∀ (n i : Nat), ff Q (n + 1) i = match ff Q n i with
    | some j => some j
    | none => if Q (i + n) = true then some (i + n) else none
  | 0, i => rfl
  | n + 1, i => by
    show (if Q i = true then some i else ff Q (n + 1) (i + 1)) = match (if Q i = true then some i else ff Q n (i + 1)) with
      | some j => some j
      | none => if Q (i + (n + 1)) = true then some (i + (n + 1)) else none
    by_cases c : Q i = true
    · rw [if_pos c, if_pos c]
    · rw [if_neg c, if_neg c, ff_s n (i + 1), show i + 1 + n = i + (n + 1) by omega]
theorem PC_sc {J : Nat → Nat → Int32} (hp7 : p = 7 ∨ p = 20) (hp : PC p F W I) (hs : sc I J) : PC p F W J := PC_eq hp (fun a i z1 z2 => by rw [hs a (by omega)])
end UNS
end
section
/-! canons of whom nobody is sure: the reference's side -/
section WRG
variable {l : Launch} {X : Nat × (Nat → Int32)} {d : Nat} {w : Nat × Nat} {p r : Nat} {I : Nat → Nat → Int32} {L : Nat → Nat → Int64} {kr : KR} {M : Mm} {o : Ost} {A : Ast} {P : Ps} {S : Rw} {F : Nat → Nat} {W : Int32} {V : Nat → Int32}
theorem i53 (c : Nat) : (53 + 2 * nI c : Int32) = nI (53 + 2 * c) := by
  rw [show (2 : Int32) * nI c = nI (2 * c) from nI_mul 2 c]
  exact nI_add 53 (2 * c)
theorem i54 (c : Nat) : (53 + 2 * nI c + 1 : Int32) = nI (54 + 2 * c) := by
  rw [i53, nI_s, show 53 + 2 * c + 1 = 54 + 2 * c by omega]
/-- how vexed canon c is by the first k unsure ones of set s -/
noncomputable def vxK (F : Nat → Nat) (s : Int32) : Nat → Nat → Int32
  | 0, c => nI (F (35 + 2 * c))
  | k + 1, c => if isWl s k = true ∧ F (53 + 2 * k) = c then nI (F (54 + 2 * k)) else vxK F s k c
theorem vxK_n {s : Int32} {c : Nat} : ∀ k, (∀ u, u < k → F (53 + 2 * u) ≠ c) → vxK F s k c = nI (F (35 + 2 * c))
  | 0, _ => rfl
  | k + 1, h => by
    show (if isWl s k = true ∧ F (53 + 2 * k) = c then nI (F (54 + 2 * k)) else vxK F s k c) = _
    rw [if_neg (fun z => h k (Nat.lt_succ_self _) z.2)]
    exact vxK_n k (fun u hu => h u (by omega))
theorem vxK_s {s : Int32} {c u : Nat} (e : F (53 + 2 * u) = c) : ∀ k, u < k → (∀ v, v < k → v ≠ u → F (53 + 2 * v) ≠ c) → vxK F s k c = if isWl s u = true then nI (F (54 + 2 * u)) else nI (F (35 + 2 * c))
  | 0, hu, _ => absurd hu (Nat.not_lt_zero _)
  | k + 1, hu, hd => by
    show (if isWl s k = true ∧ F (53 + 2 * k) = c then nI (F (54 + 2 * k)) else vxK F s k c) = _
    by_cases z : k = u
    · subst z
      by_cases y : isWl s k = true
      · rw [if_pos ⟨y, e⟩, if_pos y]
      · rw [if_neg (fun x => y x.1), if_neg y]
        exact vxK_n k (fun v hv => hd v (by omega) (by omega))
    · rw [if_neg (fun x => hd k (Nat.lt_succ_self _) z x.2)]
      exact vxK_s e k (by omega) (fun v hv => hd v (by omega))
theorem vxK_B (hD : UD F) {s : Int32} {c : Nat} : vxK F s (F 7) c = vxB F s c := by
  unfold vxB
  cases hu : usd F c with
  | none =>
    refine vxK_n _ (fun u hu' z => ?_)
    have := ff_none (P := fun u => Nat.beq (F (53 + 2 * u)) c) hu u (Nat.zero_le _) (by omega)
    rw [z, Nat.beq_refl] at this
    cases this
  | some u =>
    obtain ⟨-, u1, u2⟩ := ff_lt (P := fun u => Nat.beq (F (53 + 2 * u)) c) hu
    have e : F (53 + 2 * u) = c := Nat.eq_of_beq_eq_true u2
    refine vxK_s e _ (by omega) (fun v hv hne => ?_)
    rw [← e]
    rcases Nat.lt_or_gt_of_ne hne with y | y
    · exact hD v u y (by omega)
    · exact (hD u v y hv).symm
set_option maxRecDepth 20000 in
theorem y_vexedBy {s : Int32} (h5 : F 5 ≤ 5) (h7 : F 7 ≤ 4) (hFS : FS F W I) (hb : ∀ u, u < F 7 → F (53 + 2 * u) < 5) (h : ∀ K : Nat → Nat → Int32, (∀ x i, x ≠ 160 → K x i = I x i) → (∀ c, c < F 5 → K 160 c = vxK F s (F 7) c) → kr none (mk w p r K L)) : Ev l X uX7_vexedBy (d + 1) true 0 0 [.ref 150, .int s] (mk w p r I L) kr := by
  have hN : I 153 5 = nI (F 5) := hFS.1 5 (by decide) (by decide)
  have hU : I 153 7 = nI (F 7) := hFS.1 7 (by decide) (by decide)
  refine Ev.of (by decide) (Nat.le_of_ble_eq_true rfl) ?_
  refine Wf.gc tkX7_vexedBy [2] ?_
  conv => whnf
  have sec : ∀ i, i ≤ F 7 → ∀ K : Nat → Nat → Int32, (∀ x i, x ≠ 160 → K x i = I x i) → (∀ c, c < F 5 → K 160 c = vxK F s i c) → Wf l X uX7_vexedBy (d + 1) true (mC (mk w p r I L) + 0, mS (mk w p r I L) + 0) 37 [(0, .ref 150), (1, .int s), (2, .int (nI i))] [] (mk w p r K L) kr := by
    refine down (fun i => ∀ K : Nat → Nat → Int32, (∀ x i, x ≠ 160 → K x i = I x i) → (∀ c, c < F 5 → K 160 c = vxK F s i c) → Wf l X uX7_vexedBy (d + 1) true (mC (mk w p r I L) + 0, mS (mk w p r I L) + 0) 37 [(0, .ref 150), (1, .int s), (2, .int (nI i))] [] (mk w p r K L) kr) (F 7) ?_ ?_
    · intro K k1 k2
      have kU : K 153 7 = nI (F 7) := (k1 153 7 (by decide)).trans hU
      refine Wf.gc tkX7_vexedBy [] ?_
      conv => whnf
      refine ⟨7, ⟨rfl, by decide, show 7 < 202 by decide⟩, ?_⟩
      conv => whnf
      refine b1' (by show K 153 7 ≤ nI (F 7); rw [kU]; exact Int32.le_refl _) ?_
      conv => whnf
      exact h K k1 k2
    · intro i hi ih K k1 k2
      have kU : K 153 7 = nI (F 7) := (k1 153 7 (by decide)).trans hU
      have kd : K 153 (53 + 2 * i) = nI (F (53 + 2 * i)) := (k1 153 _ (by decide)).trans (hFS.1 (53 + 2 * i) (by omega) (by omega))
      have ko : K 153 (54 + 2 * i) = nI (F (54 + 2 * i)) := (k1 153 _ (by decide)).trans (hFS.1 (54 + 2 * i) (by omega) (by omega))
      have hdb := hb i hi
      refine Wf.gc tkX7_vexedBy [37] ?_
      conv => whnf
      refine ⟨7, ⟨rfl, by decide, show 7 < 202 by decide⟩, ?_⟩
      conv => whnf
      refine b2' (by show ¬ K 153 7 ≤ nI i; rw [kU, nI_leI (by omega) (by omega)]; omega) ?_
      conv => whnf
      refine y_hasBit ?_
      cases hs : isWl s i with
      | false =>
        conv => whnf
        refine b1' rfl ?_
        conv => whnf
        show Wf l X uX7_vexedBy (d + 1) true (mC (mk w p r I L) + 0, mS (mk w p r I L) + 0) 37 [(0, .ref 150), (1, .int s), (2, .int (nI i + 1))] [] (mk w p r K L) kr
        rw [nI_s]
        refine ih K k1 (fun c hc => ?_)
        rw [k2 c hc]
        show _ = (if isWl s i = true ∧ F (53 + 2 * i) = c then nI (F (54 + 2 * i)) else vxK F s i c)
        rw [if_neg (fun z => by rw [hs] at z; cases z.1)]
      | true =>
        conv => whnf
        refine b2' (by decide) ?_
        conv => whnf
        refine ⟨53 + 2 * i, ⟨i53 i, by omega, show 53 + 2 * i < 202 by omega⟩, ?_⟩
        conv => whnf
        refine ⟨54 + 2 * i, ⟨i54 i, by omega, show 54 + 2 * i < 202 by omega⟩, ?_⟩
        conv => whnf
        refine ⟨F (53 + 2 * i), ⟨kd, by omega, show F (53 + 2 * i) < 5 from hdb⟩, ?_⟩
        conv => whnf
        show Wf l X uX7_vexedBy (d + 1) true (mC (mk w p r I L) + 0, mS (mk w p r I L) + 0) 37 [(0, .ref 150), (1, .int s), (2, .int (nI i + 1))] [] (mk w p r (u2 K 160 (F (53 + 2 * i)) (K 153 (54 + 2 * i))) L) kr
        rw [nI_s]
        refine ih _ (fun x j z => by rw [u2_o (by omega)]; exact k1 x j z) (fun c hc => ?_)
        show _ = (if isWl s i = true ∧ F (53 + 2 * i) = c then nI (F (54 + 2 * i)) else vxK F s i c)
        by_cases e : F (53 + 2 * i) = c
        · rw [if_pos ⟨hs, e⟩, ← e, u2_s]
          exact ko
        · rw [if_neg (fun z => e z.2), u2_o (by omega)]
          exact k2 c hc
  refine down (fun i => ∀ K : Nat → Nat → Int32, (∀ x j, x ≠ 160 → K x j = I x j) → (∀ c, c < i → K 160 c = nI (F (35 + 2 * c))) → Wf l X uX7_vexedBy (d + 1) true (mC (mk w p r I L) + 0, mS (mk w p r I L) + 0) 2 [(0, .ref 150), (1, .int s), (2, .int (nI i))] [] (mk w p r K L) kr) (F 5) ?_ ?_ 0 (Nat.zero_le _) I (fun _ _ _ => rfl) (fun c hc => absurd hc (Nat.not_lt_zero _))
  · intro K k1 k2
    have kN : K 153 5 = nI (F 5) := (k1 153 5 (by decide)).trans hN
    refine Wf.gc tkX7_vexedBy [37] ?_
    conv => whnf
    refine ⟨5, ⟨rfl, by decide, show 5 < 202 by decide⟩, ?_⟩
    conv => whnf
    refine b1' (by show K 153 5 ≤ nI (F 5); rw [kN]; exact Int32.le_refl _) ?_
    conv => whnf
    exact sec 0 (Nat.zero_le _) K k1 k2
  · intro i hi ih K k1 k2
    have kN : K 153 5 = nI (F 5) := (k1 153 5 (by decide)).trans hN
    refine Wf.gc tkX7_vexedBy [2] ?_
    conv => whnf
    refine ⟨5, ⟨rfl, by decide, show 5 < 202 by decide⟩, ?_⟩
    conv => whnf
    refine b2' (by show ¬ K 153 5 ≤ nI i; rw [kN, nI_leI (by omega) (by omega)]; omega) ?_
    conv => whnf
    refine ⟨35 + 2 * i, ⟨i35 i, by omega, show 35 + 2 * i < 202 by omega⟩, ?_⟩
    conv => whnf
    refine ⟨i, ⟨rfl, by omega, show i < 5 by omega⟩, ?_⟩
    conv => whnf
    show Wf l X uX7_vexedBy (d + 1) true (mC (mk w p r I L) + 0, mS (mk w p r I L) + 0) 2 [(0, .ref 150), (1, .int s), (2, .int (nI i + 1))] [] (mk w p r (u2 K 160 i (K 153 (35 + 2 * i))) L) kr
    rw [nI_s]
    refine ih _ (fun x j z => by rw [u2_o (by omega)]; exact k1 x j z) (fun c hc => ?_)
    by_cases e : c = i
    · subst e
      rw [u2_s, k1 153 _ (by decide)]; exact hFS.1 (35 + 2 * c) (by omega) (by omega)
    · rw [u2_o (by omega)]; exact k2 c (by omega)
/-- rows one after another, so vexed -/
noncomputable def itG (P : Ps) (V : Nat → Int32) (S : Rw) : Nat → Rw
  | 0 => S
  | n + 1 => gR P V false (itG P V S n)
theorem gR_18u (hF : P.1 4 ≤ 6) {c : Nat} (hc : c < 5) : gR P V false S (18 + c) = S (18 + c) := by
  unfold gR
  rw [if_neg (by omega), if_neg (by omega), if_neg (by omega), if_neg (by omega), if_neg (by omega)]
theorem gF_1 {f : Nat} : (gF P V false S f).1 = S 23 + 1 := by
  unfold gF cSt
  dsimp only
  split
  · rfl
  · split
    · rfl
    · split <;> rfl
/-- a face's course and the rows are the same -/
theorem itG_F (hF : P.1 4 ≤ 6) (hC : P.1 5 ≤ 5) {f : Nat} (hf : f < P.1 4) : ∀ n, ((itG P V S n 23, itG P V S n f, itG P V S n (6 + f), itG P V S n (12 + f)) : Fc) = cIt (gK P f) (gWr P f) (vxG V (gO P S f)) (evP P (gO P S f)) (S 23, S f, S (6 + f), S (12 + f)) n ∧ (∀ c, c < P.1 5 → itG P V S n (18 + c) = S (18 + c))
  | 0 => ⟨rfl, fun _ _ => rfl⟩
  | n + 1 => by
    obtain ⟨a1, a5⟩ := itG_F hF hC hf n
    have ec : gO P (itG P V S n) f = gO P S f := by
      unfold gO cnS
      refine ff_cong (fun j _ hj => ?_)
      rw [a5 j (by omega)]
    have eX : gF P V false (itG P V S n) f = cIt (gK P f) (gWr P f) (vxG V (gO P S f)) (evP P (gO P S f)) (S 23, S f, S (6 + f), S (12 + f)) (n + 1) := by
      unfold gF
      rw [ec, a1]
      rfl
    refine ⟨?_, fun c hc => ?_⟩
    · rw [← eX]
      have b0 : itG P V S (n + 1) 23 = (gF P V false (itG P V S n) f).1 := by
        rw [gF_1]
        show gR P V false (itG P V S n) 23 = _
        unfold gR
        rw [if_neg (by omega), if_neg (by omega), if_neg (by omega), if_pos rfl]
      have b1 : itG P V S (n + 1) f = (gF P V false (itG P V S n) f).2.1 := by
        show gR P V false (itG P V S n) f = _
        unfold gR
        rw [if_pos hf]
      have b2 : itG P V S (n + 1) (6 + f) = (gF P V false (itG P V S n) f).2.2.1 := by
        show gR P V false (itG P V S n) (6 + f) = _
        unfold gR
        rw [if_neg (by omega), if_pos (by omega), Nat.add_sub_cancel_left]
      have b3 : itG P V S (n + 1) (12 + f) = (gF P V false (itG P V S n) f).2.2.2 := by
        show gR P V false (itG P V S n) (12 + f) = _
        unfold gR
        rw [if_neg (by omega), if_neg (by omega), if_pos (by omega), Nat.add_sub_cancel_left]
      rw [b0, b1, b2, b3]
    · show gR P V false (itG P V S n) (18 + c) = _
      rw [gR_18u hF (by omega)]
      exact a5 c hc
theorem gF_h (hP : PI P.1) (hS : RIg P S) {f : Nat} (hf : f < P.1 4) : ∃ h, h ≤ 99 ∧ (gF P V false S f).2.1 = nI h := by
  obtain ⟨h, h9, eh⟩ := hS.1 f hf
  obtain ⟨-, w9, -, -⟩ := hP.1 f hf
  unfold gF cSt gWr
  dsimp only
  split
  · exact ⟨h, h9, eh⟩
  · split
    · exact ⟨h, h9, eh⟩
    · split
      · exact ⟨0, by decide, rfl⟩
      · rename_i z
        rw [eh] at z ⊢
        rcases Nat.lt_or_ge h (P.1 (13 + 4 * f)) with y | y
        · exfalso
          apply z
          rw [Int32.lt_iff_toInt_lt]
          have e1 : (1 : Int32).toInt = 1 := rfl
          have e2 : (nI h).toInt = h := nI_toInt (by omega)
          have e3 : (nI (P.1 (13 + 4 * f))).toInt = (P.1 (13 + 4 * f) : Nat) := nI_toInt (by omega)
          have lo : iLo ≤ -10 := by decide
          have hi : (100 : Int) ≤ iHi := by decide
          rw [sub_i (by rw [e2, e3]; omega) (by rw [e2, e3]; omega), e1, e2, e3]
          omega
        · exact ⟨h - P.1 (13 + 4 * f), by omega, nI_sub y⟩
theorem RIg_gR (hF : P.1 4 ≤ 6) (hC : P.1 5 ≤ 5) (hP : PI P.1) (hS : RIg P S) : RIg P (gR P V false S) := by
  refine ⟨fun f hf => ?_, fun c hc => ?_, fun c1 c2 y1 y2 => ?_, trivial⟩
  · show ∃ h, h ≤ 99 ∧ gR P V false S f = nI h
    unfold gR
    rw [if_pos hf]
    exact gF_h hP hS hf
  · rw [gR_18u hF (by omega)]; exact hS.2.1 c hc
  · rw [gR_18u hF (by omega), gR_18u hF (by omega)]; exact hS.2.2.1 c1 c2 y1 y2
theorem RIg_itG (hF : P.1 4 ≤ 6) (hC : P.1 5 ≤ 5) (hP : PI P.1) (hS : RIg P S) : ∀ n, RIg P (itG P V S n)
  | 0 => hS
  | n + 1 => RIg_gR hF hC hP (RIg_itG hF hC hP hS n)
/-- the row of a close that was just read -/
noncomputable def tR (F : Nat → Nat) : Rw := fun i => if i < 6 then nI (F (12 + 4 * i)) else if 18 ≤ i ∧ i < 23 then nI (F (300 + (i - 18))) else 0
theorem tR_FH (h : FH 155 F I) : ∀ i, i < 25 → I 155 i = tR F i := by
  intro i hi
  unfold tR
  by_cases c : i < 6
  · rw [if_pos c]
    exact h.2.1 i c
  · rw [if_neg c]
    by_cases c2 : 18 ≤ i ∧ i < 23
    · rw [if_pos c2]
      have := h.1 (i - 18) (by omega)
      rw [show 18 + (i - 18) = i by omega] at this
      exact this
    · rw [if_neg c2]
      exact h.2.2 i (by omega) hi (by omega)
theorem tR_RIg (hB : ∀ k, P.1 k < 1000) (hF : P.1 4 ≤ 6) (hC : P.1 5 ≤ 5) (hP : PI P.1) : RIg P (tR P.1) := by
  have e : ∀ c, c < 5 → tR P.1 (18 + c) = nI (P.1 (300 + c)) := fun c hc => by
    unfold tR
    rw [if_neg (by omega), if_pos (by omega), Nat.add_sub_cancel_left]
  refine ⟨fun f hf => ⟨P.1 (12 + 4 * f), (hP.1 f hf).1.2, ?_⟩, fun c hc => ⟨P.1 (300 + c), (hP.2.1 c hc).1, e c (by omega)⟩, fun c c' h1 h2 z => ?_, trivial⟩
  · unfold tR
    rw [if_pos (by omega)]
  · rw [e c (by omega), e c' (by omega)] at z
    have := hB (300 + c)
    have := hB (300 + c')
    exact hP.2.2.1 c c' h1 h2 ((nI_eq (by omega) (by omega)).mp z)
theorem tR_gO (hB : ∀ k, P.1 k < 1000) (hC : P.1 5 ≤ 5) {f : Nat} (hf : f < 1000) : gO P (tR P.1) f = toc P.1 f := by
  unfold gO cnS toc
  refine ff_cong (fun c _ hc => ?_)
  have e : tR P.1 (18 + c) = nI (P.1 (300 + c)) := by
    unfold tR
    rw [if_neg (by omega), if_pos (by omega), Nat.add_sub_cancel_left]
  rw [e]
  have := hB (300 + c)
  by_cases z : P.1 (300 + c) = f
  · rw [z, Nat.beq_refl]
    exact decide_eq_true rfl
  · rw [decide_eq_false (fun y => z ((nI_eq (by omega) (by omega)).mp y))]
    cases hq : Nat.beq (P.1 (300 + c)) f with
    | false => rfl
    | true => exact absurd (Nat.eq_of_beq_eq_true hq) z
/-- how often a face has let go by day n -/
theorem td_row (hB : ∀ k, P.1 k < 1000) (hF : P.1 4 ≤ 6) (hC : P.1 5 ≤ 5) {s : Int32} (hV : ∀ c, c < P.1 5 → V c = vxB P.1 s c) {f : Nat} (hf : f < P.1 4) (n : Nat) : itG P V (tR P.1) n (12 + f) = (tdC P.1 s f n).2.2.2 := by
  have q := (itG_F (V := V) (S := tR P.1) hF hC hf n).1
  have q := congrArg (fun x : Fc => x.2.2.2) q
  have q : itG P V (tR P.1) n (12 + f) = (cIt (gK P f) (gWr P f) (vxG V (gO P (tR P.1) f)) (evP P (gO P (tR P.1) f)) (tR P.1 23, tR P.1 f, tR P.1 (6 + f), tR P.1 (12 + f)) n).2.2.2 := q
  rw [q, tR_gO hB hC (by omega)]
  have e1 : tR P.1 23 = 0 := rfl
  have e2 : tR P.1 f = nI (P.1 (12 + 4 * f)) := by unfold tR; rw [if_pos (by omega)]
  have e3 : tR P.1 (6 + f) = 0 := by unfold tR; rw [if_neg (by omega), if_neg (by omega)]
  have e4 : tR P.1 (12 + f) = 0 := by unfold tR; rw [if_neg (by omega), if_neg (by omega)]
  have e5 : vxG V (toc P.1 f) = tdV P.1 s f := by
    unfold tdV
    cases ht : toc P.1 f with
    | none => rfl
    | some c => exact hV c (toc_lt ht)
  have e6 : evP P (toc P.1 f) = tdE P.1 f := by
    unfold tdE
    cases ht : toc P.1 f with
    | none => rfl
    | some c => rfl
  rw [e1, e2, e3, e4, e5, e6]
  rfl
theorem cSt_dq {k ww v e : Int32} {x : Fc} : (cSt k ww v e false x).2.2.2 = x.2.2.2 + (if cLt k v e false x = true then 1 else 0) := by
  unfold cSt cLt
  by_cases c0 : x.2.1 = 0
  · rw [if_pos c0, decide_eq_false (fun z => z.1 c0), if_neg (by decide), Int32.add_zero]
  · rw [if_neg c0]
    by_cases c1 : cVx v e false (x.1 + 1) x.2.2.1 < cLs k x.2.1
    · rw [if_pos c1, decide_eq_false (fun z => z.2 c1), if_neg (by decide), Int32.add_zero]
    · rw [if_neg c1, decide_eq_true ⟨c0, c1⟩, if_pos rfl]
      split
      · rfl
      · rfl
/-- drops are counted; some iff there was a first -/
theorem td_cnt {s : Int32} {f : Nat} : ∀ n, ∃ k, k ≤ n ∧ (tdC F s f n).2.2.2 = nI k ∧ (0 < k ↔ (ff (tdL F s f) n 0).isSome = true)
  | 0 => ⟨0, Nat.le_refl _, rfl, by constructor <;> (intro h; cases h)⟩
  | n + 1 => by
    obtain ⟨k, k1, k2, k3⟩ := td_cnt (s := s) (f := f) n
    have e : (tdC F s f (n + 1)).2.2.2 = (tdC F s f n).2.2.2 + (if tdL F s f n = true then 1 else 0) := cSt_dq
    by_cases c : tdL F s f n = true
    · refine ⟨k + 1, by omega, by rw [e, k2, if_pos c, nI_s], ⟨fun _ => ?_, fun _ => Nat.succ_pos _⟩⟩
      rw [ff_s]
      cases hq : ff (tdL F s f) n 0 with
      | some j => rfl
      | none =>
        show (if tdL F s f (0 + n) = true then some (0 + n) else none).isSome = true
        rw [Nat.zero_add, if_pos c]
        rfl
    · refine ⟨k, by omega, by rw [e, k2, if_neg c, Int32.add_zero], ?_⟩
      rw [k3, ff_s]
      cases hq : ff (tdL F s f) n 0 with
      | some j => exact Iff.rfl
      | none =>
        show (none : Option Nat).isSome = true ↔ (if tdL F s f (0 + n) = true then some (0 + n) else none).isSome = true
        rw [Nat.zero_add, if_neg c]
/-- the first day so far (0: none) -/
noncomputable def fdD (F : Nat → Nat) (s : Int32) (f n : Nat) : Int32 := match ff (tdL F s f) n 0 with
  | none => 0
  | some i => nI (i + 1)
theorem fdD_s {s : Int32} {f n : Nat} (hn : n < 100) : fdD F s f (n + 1) = if 0 < (tdC F s f (n + 1)).2.2.2 ∧ fdD F s f n = 0 then nI (n + 1) else fdD F s f n := by
  obtain ⟨k, k1, k2, k3⟩ := td_cnt (F := F) (s := s) (f := f) (n + 1)
  have k0 : 0 < (tdC F s f (n + 1)).2.2.2 ↔ 0 < k := by
    rw [k2, show (0 : Int32) = nI 0 from rfl, nI_ltI (by decide) (by omega)]
  unfold fdD
  rw [ff_s] at k3 ⊢
  cases hq : ff (tdL F s f) n 0 with
  | some i =>
    have hi := (ff_lt hq).2.1
    show nI (i + 1) = if 0 < (tdC F s f (n + 1)).2.2.2 ∧ nI (i + 1) = 0 then nI (n + 1) else nI (i + 1)
    rw [if_neg (fun z => absurd ((nI_eq (b := 0) (by omega) (by decide)).mp z.2) (by omega))]
  | none =>
    rw [hq] at k3
    rw [Nat.zero_add] at k3 ⊢
    by_cases c : tdL F s f n = true
    · rw [if_pos c] at k3 ⊢
      show nI (n + 1) = if 0 < (tdC F s f (n + 1)).2.2.2 ∧ (0 : Int32) = 0 then nI (n + 1) else 0
      rw [if_pos ⟨k0.mpr (k3.mpr rfl), rfl⟩]
    · rw [if_neg c] at k3 ⊢
      show (0 : Int32) = if 0 < (tdC F s f (n + 1)).2.2.2 ∧ (0 : Int32) = 0 then nI (n + 1) else 0
      rw [if_neg (fun z => by have := k3.mp (k0.mp z.1); cases this)]
theorem dfB_fd {s : Int32} {f : Nat} (hb : F (61 + f) < 1000) : (!dfB F s f) = decide (¬ F (61 + f) = 0 ∧ ¬ fdD F s f 40 = nI (F (61 + f))) := by
  unfold dfB
  by_cases c : F (61 + f) = 0
  · rw [decide_eq_true c, show decide (¬ F (61 + f) = 0 ∧ ¬ fdD F s f 40 = nI (F (61 + f))) = false from decide_eq_false (fun z => z.1 c)]
    rfl
  · rw [decide_eq_false c, Bool.false_or]
    have e : (oI (tdF F s f) = nI (F (61 + f))) ↔ fdD F s f 40 = nI (F (61 + f)) := by
      unfold tdF fdD
      cases hq : ff (tdL F s f) 40 0 with
      | none =>
        constructor
        · intro z
          have z : (-2 : Int32) = nI (F (61 + f)) := z
          exact absurd z.symm (nI_m2 hb)
        · intro z
          have z : nI 0 = nI (F (61 + f)) := z
          exact absurd ((nI_eq (by decide) (by omega)).mp z).symm c
      | some i => exact Iff.rfl
    by_cases y : fdD F s f 40 = nI (F (61 + f))
    · rw [decide_eq_true (e.mpr y), decide_eq_false (fun z => z.2 y)]
      rfl
    · rw [decide_eq_false (fun z => y (e.mp z)), decide_eq_true ⟨c, y⟩]
      rfl
theorem B3_b (hB : B3 P) : P.1 4 ≤ 6 ∧ P.1 5 ≤ 5 ∧ P.1 7 ≤ 4 ∧ ∀ k, P.1 k < 1000 := ⟨hB.1.1.1.2.2.2.1, hB.1.1.1.2.2.2.2.1, hB.1.1.1.2.2.2.2.2.2, hB.1.1.2.1⟩
set_option maxHeartbeats 2000000 in
set_option maxRecDepth 20000 in
theorem y_wrongBy {s : Int32} (hB : B3 P) (hP : PI P.1) (hD : UD P.1) (hub : ∀ u, u < P.1 7 → P.1 (53 + 2 * u) < 5) (hFS : FS P.1 P.2.1 I) (hFH : FH 155 P.1 I) (h : ∀ K : Nat → Nat → Int32, (∀ x i, x ≠ 160 → x ≠ 161 → x ≠ 165 → K x i = I x i) → kr (some (.int (oI (wrB P.1 s)))) (mk w p r K L)) : Ev l X uX7_wrongBy (d + 2) true 0 0 [.ref 150, .int s] (mk w p r I L) kr := by
  obtain ⟨h4, h5, h7, hb⟩ := B3_b hB
  have t0 := tR_RIg hb h4 h5 hP
  have hV : ∀ c, c < P.1 5 → vxB P.1 s c = vxB P.1 s c := fun _ _ => rfl
  have e4 : ∀ K : Nat → Nat → Int32, (∀ x i, x ≠ 160 → x ≠ 161 → x ≠ 165 → K x i = I x i) → K 153 4 = nI (P.1 4) := fun K k => (k 153 4 (by decide) (by decide) (by decide)).trans (hFS.1 4 (by decide) (by decide))
  refine Ev.of (by decide) (Nat.le_of_ble_eq_true rfl) ?_
  refine Wf.gc tkX7_wrongBy [22] ?_
  conv => whnf
  refine y_vexedBy (d := d) h5 h7 hFS hub (fun K k1 k2 => ?_)
  conv => whnf
  refine y_cp_155_161 (s := 0) (t := 0) (by decide) (by decide) (fun J j1 j2 => ?_)
  conv => whnf
  -- the faces, at the end
  have last : ∀ Q : Nat → Nat → Int32, (∀ x i, x ≠ 160 → x ≠ 161 → x ≠ 165 → Q x i = I x i) → (∀ f, f < P.1 4 → Q 165 f = fdD P.1 s f 40) → Wf l X uX7_wrongBy (d + 2) true (mC (mk w p r I L) + 0, mS (mk w p r I L) + 0) 112 [(0, .ref 150), (1, .int s), (2, .int (nI 0))] [] (mk w p r Q L) kr := by
    intro Q q1 q2
    have hQ := h Q q1
    unfold wrB at hQ
    have q4 := e4 Q q1
    refine srch (e := P.1 4) (P := fun f => !dfB P.1 s f) (Wi := fun f => Wf l X uX7_wrongBy (d + 2) true (mC (mk w p r I L) + 0, mS (mk w p r I L) + 0) 112 [(0, .ref 150), (1, .int s), (2, .int (nI f))] [] (mk w p r Q L) kr) (K := fun o => o = ff (fun f => !dfB P.1 s f) (P.1 4) 0) (fun ho => ?_) (fun f hf => ⟨fun hP ho => ?_, fun hP ih => ?_⟩) 0 (Nat.zero_le _) rfl
    · rw [← ho] at hQ
      refine Wf.gc tkX7_wrongBy [] ?_
      conv => whnf
      refine ⟨4, ⟨rfl, by decide, show 4 < 202 by decide⟩, ?_⟩
      conv => whnf
      refine b1' (by show Q 153 4 ≤ nI (P.1 4); rw [q4]; exact Int32.le_refl _) ?_
      conv => whnf
      exact hQ
    · rw [← ho] at hQ
      rw [dfB_fd (hb _)] at hP
      obtain ⟨c1, c2⟩ := of_decide_eq_true hP
      have qd : Q 153 (61 + f) = nI (P.1 (61 + f)) := (q1 153 _ (by decide) (by decide) (by decide)).trans (hFS.1 (61 + f) (by omega) (by omega))
      have hd := hb (61 + f)
      refine Wf.gc tkX7_wrongBy [] ?_
      conv => whnf
      refine ⟨4, ⟨rfl, by decide, show 4 < 202 by decide⟩, ?_⟩
      conv => whnf
      refine b2' (by show ¬ Q 153 4 ≤ nI f; rw [q4, nI_leI (by omega) (by omega)]; omega) ?_
      conv => whnf
      refine ⟨61 + f, ⟨nI_add 61 f, by omega, show 61 + f < 202 by omega⟩, ?_⟩
      conv => whnf
      refine b2' (by show ¬ Q 153 (61 + f) ≤ 0; rw [qd, show (0 : Int32) = nI 0 from rfl, nI_leI (by omega) (by decide)]; omega) ?_
      conv => whnf
      refine ⟨f, ⟨rfl, by omega, show f < 6 by omega⟩, ?_⟩
      conv => whnf
      refine ⟨61 + f, ⟨nI_add 61 f, by omega, show 61 + f < 202 by omega⟩, ?_⟩
      conv => whnf
      refine b2' (by show ¬ Q 165 f = Q 153 (61 + f); rw [q2 f hf, qd]; exact c2) ?_
      conv => whnf
      exact hQ
    · rw [dfB_fd (hb _)] at hP
      have hP := of_decide_eq_false hP
      have qd : Q 153 (61 + f) = nI (P.1 (61 + f)) := (q1 153 _ (by decide) (by decide) (by decide)).trans (hFS.1 (61 + f) (by omega) (by omega))
      have hd := hb (61 + f)
      refine Wf.gc tkX7_wrongBy [112] ?_
      conv => whnf
      refine ⟨4, ⟨rfl, by decide, show 4 < 202 by decide⟩, ?_⟩
      conv => whnf
      refine b2' (by show ¬ Q 153 4 ≤ nI f; rw [q4, nI_leI (by omega) (by omega)]; omega) ?_
      conv => whnf
      refine ⟨61 + f, ⟨nI_add 61 f, by omega, show 61 + f < 202 by omega⟩, ?_⟩
      conv => whnf
      have nx : Wf l X uX7_wrongBy (d + 2) true (mC (mk w p r I L) + 0, mS (mk w p r I L) + 0) 112 [(0, .ref 150), (1, .int s), (2, .int (nI f + 1))] [] (mk w p r Q L) kr := by
        rw [nI_s]
        exact ih
      by_cases c : P.1 (61 + f) = 0
      · refine b1' (by show Q 153 (61 + f) ≤ 0; rw [qd, c]; exact Int32.le_refl _) ?_
        conv => whnf
        exact nx
      · refine b2' (by show ¬ Q 153 (61 + f) ≤ 0; rw [qd, show (0 : Int32) = nI 0 from rfl, nI_leI (by omega) (by decide)]; omega) ?_
        conv => whnf
        refine ⟨f, ⟨rfl, by omega, show f < 6 by omega⟩, ?_⟩
        conv => whnf
        refine ⟨61 + f, ⟨nI_add 61 f, by omega, show 61 + f < 202 by omega⟩, ?_⟩
        conv => whnf
        refine b1' (by show Q 165 f = Q 153 (61 + f); rw [q2 f hf, qd]; exact Decidable.not_not.mp (fun z => hP ⟨c, z⟩)) ?_
        conv => whnf
        exact nx
  -- the days
  have days : ∀ n, n ≤ 40 → ∀ Q : Nat → Nat → Int32, (∀ x i, x ≠ 160 → x ≠ 161 → x ≠ 165 → Q x i = I x i) → (∀ c, c < P.1 5 → Q 160 c = vxB P.1 s c) → (∀ j, j < 25 → Q 161 j = itG P (vxB P.1 s) (tR P.1) n j) → (∀ f, f < P.1 4 → Q 165 f = fdD P.1 s f n) → Wf l X uX7_wrongBy (d + 2) true (mC (mk w p r I L) + 0, mS (mk w p r I L) + 0) 43 [(0, .ref 150), (1, .int s), (2, .int (nI (n + 1)))] [] (mk w p r Q L) kr := by
    refine down (fun n => ∀ Q : Nat → Nat → Int32, (∀ x i, x ≠ 160 → x ≠ 161 → x ≠ 165 → Q x i = I x i) → (∀ c, c < P.1 5 → Q 160 c = vxB P.1 s c) → (∀ j, j < 25 → Q 161 j = itG P (vxB P.1 s) (tR P.1) n j) → (∀ f, f < P.1 4 → Q 165 f = fdD P.1 s f n) → Wf l X uX7_wrongBy (d + 2) true (mC (mk w p r I L) + 0, mS (mk w p r I L) + 0) 43 [(0, .ref 150), (1, .int s), (2, .int (nI (n + 1)))] [] (mk w p r Q L) kr) 40 ?_ ?_
    · intro Q q1 q2 q3 q4
      refine Wf.gc tkX7_wrongBy [112] ?_
      conv => whnf
      refine b1' (show (40 : Int32) < nI 41 by decide) ?_
      conv => whnf
      exact last Q q1 q4
    · intro n hn ih Q q1 q2 q3 q4
      refine Wf.gc tkX7_wrongBy [60] ?_
      conv => whnf
      refine b2' (by show ¬ (40 : Int32) < nI (n + 1); rw [show (40 : Int32) = nI 40 from rfl, nI_ltI (by decide) (by omega)]; omega) ?_
      conv => whnf
      refine y_dayOn_161 (d := d) (P := P) (S := itG P (vxB P.1 s) (tR P.1) n) (V := vxB P.1 s) (calm := false) hB hP (RIg_itG h4 h5 hP t0 n) (FS_cg hFS (fun k _ => q1 153 k (by decide) (by decide) (by decide))) q2 q3 (fun K' w1 w2 => ?_)
      conv => whnf
      -- the faces of a day
      have inn : ∀ f, f ≤ P.1 4 → ∀ G : Nat → Nat → Int32, (∀ x i, x ≠ 160 → x ≠ 161 → x ≠ 165 → G x i = I x i) → (∀ c, c < P.1 5 → G 160 c = vxB P.1 s c) → (∀ j, j < 25 → G 161 j = itG P (vxB P.1 s) (tR P.1) (n + 1) j) → (∀ g, g < P.1 4 → G 165 g = fdD P.1 s g (if g < f then n + 1 else n)) → Wf l X uX7_wrongBy (d + 2) true (mC (mk w p r I L) + 0, mS (mk w p r I L) + 0) 60 [(0, .ref 150), (1, .int s), (2, .int (nI (n + 1))), (3, .int (nI f))] [] (mk w p r G L) kr := by
        refine down (fun f => ∀ G : Nat → Nat → Int32, (∀ x i, x ≠ 160 → x ≠ 161 → x ≠ 165 → G x i = I x i) → (∀ c, c < P.1 5 → G 160 c = vxB P.1 s c) → (∀ j, j < 25 → G 161 j = itG P (vxB P.1 s) (tR P.1) (n + 1) j) → (∀ g, g < P.1 4 → G 165 g = fdD P.1 s g (if g < f then n + 1 else n)) → Wf l X uX7_wrongBy (d + 2) true (mC (mk w p r I L) + 0, mS (mk w p r I L) + 0) 60 [(0, .ref 150), (1, .int s), (2, .int (nI (n + 1))), (3, .int (nI f))] [] (mk w p r G L) kr) (P.1 4) ?_ ?_
        · intro G g1 g2 g3 g4
          have c4 := e4 G g1
          refine Wf.gc tkX7_wrongBy [43] ?_
          conv => whnf
          refine ⟨4, ⟨rfl, by decide, show 4 < 202 by decide⟩, ?_⟩
          conv => whnf
          refine b1' (by show G 153 4 ≤ nI (P.1 4); rw [c4]; exact Int32.le_refl _) ?_
          conv => whnf
          refine Wf.keep [0, 1, 2] ?_
          show Wf l X uX7_wrongBy (d + 2) true (mC (mk w p r I L) + 0, mS (mk w p r I L) + 0) 43 [(0, .ref 150), (1, .int s), (2, .int (nI (n + 1) + 1))] [] (mk w p r G L) kr
          rw [nI_s]
          exact ih G g1 g2 g3 (fun f hf => by rw [g4 f hf, if_pos hf])
        · intro f hf ihf G g1 g2 g3 g4
          have c4 := e4 G g1
          have c12 : G 161 (12 + f) = (tdC P.1 s f (n + 1)).2.2.2 := (g3 (12 + f) (by omega)).trans (td_row hb h4 h5 hV hf (n + 1))
          have c5 : G 165 f = fdD P.1 s f n := by rw [g4 f hf, if_neg (Nat.lt_irrefl _)]
          have fs := fdD_s (F := P.1) (s := s) (f := f) (n := n) (by omega)
          have stay : fdD P.1 s f (n + 1) = fdD P.1 s f n → Wf l X uX7_wrongBy (d + 2) true (mC (mk w p r I L) + 0, mS (mk w p r I L) + 0) 60 [(0, .ref 150), (1, .int s), (2, .int (nI (n + 1))), (3, .int (nI f + 1))] [] (mk w p r G L) kr := by
            intro e
            rw [nI_s]
            refine ihf G g1 g2 g3 (fun g hg => ?_)
            rw [g4 g hg]
            by_cases y : g = f
            · subst y
              rw [if_neg (Nat.lt_irrefl _), if_pos (Nat.lt_succ_self _), e]
            · by_cases z : g < f
              · rw [if_pos z, if_pos (by omega)]
              · rw [if_neg z, if_neg (by omega)]
          refine Wf.gc tkX7_wrongBy [60] ?_
          conv => whnf
          refine ⟨4, ⟨rfl, by decide, show 4 < 202 by decide⟩, ?_⟩
          conv => whnf
          refine b2' (by show ¬ G 153 4 ≤ nI f; rw [c4, nI_leI (by omega) (by omega)]; omega) ?_
          conv => whnf
          refine ⟨12 + f, ⟨nI_add 12 f, by omega, show 12 + f < 25 by omega⟩, ?_⟩
          conv => whnf
          by_cases z1 : 0 < (tdC P.1 s f (n + 1)).2.2.2
          · refine b2' (by show ¬ G 161 (12 + f) ≤ 0; rw [c12]; exact Int32.not_le.mpr z1) ?_
            conv => whnf
            refine ⟨f, ⟨rfl, by omega, show f < 6 by omega⟩, ?_⟩
            conv => whnf
            by_cases z2 : fdD P.1 s f n = 0
            · refine b2 (fun z => z (by show G 165 f = 0; rw [c5]; exact z2)) ?_
              conv => whnf
              refine ⟨f, ⟨rfl, by omega, show f < 6 by omega⟩, ?_⟩
              conv => whnf
              show Wf l X uX7_wrongBy (d + 2) true (mC (mk w p r I L) + 0, mS (mk w p r I L) + 0) 60 [(0, .ref 150), (1, .int s), (2, .int (nI (n + 1))), (3, .int (nI f + 1))] [] (mk w p r (u2 G 165 f (nI (n + 1))) L) kr
              rw [nI_s]
              refine ihf _ (fun x i y1 y2 y3 => by rw [u2_o (by omega)]; exact g1 x i y1 y2 y3) (fun c hc => by rw [u2_o (by omega)]; exact g2 c hc) (fun j hj => by rw [u2_o (by omega)]; exact g3 j hj) (fun g hg => ?_)
              by_cases y : g = f
              · subst y
                rw [u2_s, if_pos (Nat.lt_succ_self _), fs, if_pos ⟨z1, z2⟩]
              · rw [u2_o (by omega), g4 g hg]
                by_cases z : g < f
                · rw [if_pos z, if_pos (by omega)]
                · rw [if_neg z, if_neg (by omega)]
            · refine b1 (by show ¬ G 165 f = 0; rw [c5]; exact z2) ?_
              conv => whnf
              exact stay (by rw [fs, if_neg (fun z => z2 z.2)])
          · refine b1' (by show G 161 (12 + f) ≤ 0; rw [c12]; exact Int32.not_lt.mp z1) ?_
            conv => whnf
            exact stay (by rw [fs, if_neg (fun z => z1 z.1)])
      exact inn 0 (Nat.zero_le _) K' (fun x i y1 y2 y3 => by rw [w1 x i y2]; exact q1 x i y1 y2 y3) (fun c hc => by rw [w1 160 c (by decide)]; exact q2 c hc) w2 (fun g hg => by rw [w1 165 g (by decide), q4 g hg, if_neg (Nat.not_lt_zero _)])
  -- nothing is told of any face yet
  refine down (fun i => ∀ Q : Nat → Nat → Int32, (∀ x i, x ≠ 160 → x ≠ 161 → x ≠ 165 → Q x i = I x i) → (∀ c, c < P.1 5 → Q 160 c = vxB P.1 s c) → (∀ j, j < 25 → Q 161 j = tR P.1 j) → (∀ f, f < i → Q 165 f = 0) → Wf l X uX7_wrongBy (d + 2) true (mC (mk w p r I L) + 0, mS (mk w p r I L) + 0) 22 [(0, .ref 150), (1, .int s), (2, .int (nI i))] [] (mk w p r Q L) kr) 6 ?_ ?_ 0 (Nat.zero_le _) J (fun x i y1 y2 y3 => by rw [j1 x i (by omega), k1 x i y1]) (fun c hc => by rw [j1 160 c (by omega), k2 c hc]; exact vxK_B hD) (fun j hj => ?_) (fun f hf => absurd hf (Nat.not_lt_zero _))
  · intro Q q1 q2 q3 q4
    refine Wf.gc tkX7_wrongBy [43] ?_
    conv => whnf
    refine b1' (show (6 : Int32) ≤ nI 6 by decide) ?_
    conv => whnf
    exact days 0 (Nat.zero_le _) Q q1 q2 q3 (fun f hf => q4 f (by omega))
  · intro i hi ih Q q1 q2 q3 q4
    refine Wf.gc tkX7_wrongBy [22] ?_
    conv => whnf
    refine b2' (by show ¬ (6 : Int32) ≤ nI i; rw [show (6 : Int32) = nI 6 from rfl, nI_leI (by decide) (by omega)]; omega) ?_
    conv => whnf
    refine ⟨i, ⟨rfl, by omega, show i < 6 by omega⟩, ?_⟩
    conv => whnf
    show Wf l X uX7_wrongBy (d + 2) true (mC (mk w p r I L) + 0, mS (mk w p r I L) + 0) 22 [(0, .ref 150), (1, .int s), (2, .int (nI i + 1))] [] (mk w p r (u2 Q 165 i 0) L) kr
    rw [nI_s]
    refine ih _ (fun x j y1 y2 y3 => by rw [u2_o (by omega)]; exact q1 x j y1 y2 y3) (fun c hc => by rw [u2_o (by omega)]; exact q2 c hc) (fun j hj => by rw [u2_o (by omega)]; exact q3 j hj) (fun f hf => ?_)
    by_cases e : f = i
    · subst e
      rw [u2_s]
    · rw [u2_o (by omega)]
      exact q4 f (by omega)
  · have q := j2 j hj
    rw [Nat.zero_add] at q
    rw [q, k1 155 j (by decide)]
    exact tR_FH hFH j hj
end WRG
end
section
/-! counting sets (pure) -/
section CNT
/-- how many of the first n -/
noncomputable def cn (Q : Nat → Bool) : Nat → Nat
  | 0 => 0
  | n + 1 => cn Q n + (Q n).toNat
end CNT
end
section
/-! all sets that fit: the class's side -/
section FIT
variable {l : Launch} {X : Nat × (Nat → Int32)} {d : Nat} {w : Nat × Nat} {p r : Nat} {I : Nat → Nat → Int32} {L : Nat → Nat → Int64} {kr : KR} {M : Mm} {o : Ost} {A : Ast} {P : Ps} {S : Rw} {F : Nat → Nat} {W : Int32}
/-- whether set s fits -/
noncomputable def fB (F : Nat → Nat) (s : Nat) : Bool := (wrB F (nI s)).isNone
/-! the methods -/
noncomputable def qJudge (A : Ast) : Int32 := oI (wrB A.1.1 0)
theorem ra_B (hR : RA A) : A.1.1 4 ≤ 6 ∧ A.1.1 5 ≤ 5 ∧ A.1.1 7 ≤ 4 ∧ ∀ k, A.1.1 k < 1000 := B3_b hR.1.1
set_option maxRecDepth 20000 in
theorem x_judge (hp : p = 7 ∨ p = 20) (hR : RA A) (hA : AS6 A p I) (h : ∀ I', kr (some (.int (qJudge A))) (mk w p r I' L)) : Ev l X uX6_judge (d + 3) true 0 0 [.ref 1] (mk w p r I L) kr := by
  obtain ⟨h4, h5, h7, hb⟩ := ra_B hR
  unfold qJudge wrB at h
  refine Ev.of (by decide) (Nat.le_of_ble_eq_true rfl) ?_
  refine Wf.gc tkX6_judge [15] ?_
  conv => whnf
  refine sX6_hasC (as_vC hp hR hA) (fun _ => ?_) (fun z => absurd z (by have := hR.1.2.2; omega))
  conv => whnf
  refine b1 (by decide) ?_
  conv => whnf
  have hPC : ∀ J, sc I J → PC p A.1.1 A.1.2.1 J := fun J hs => PC_sc hp hA.1 hs
  refine srch (e := A.1.1 4) (P := fun f => !dfB A.1.1 0 f) (Wi := fun f => ∀ J : Nat → Nat → Int32, sc I J → Wf l X uX6_judge (d + 3) true (mC (mk w p r I L) + 0, mS (mk w p r I L) + 0) 15 [(0, .ref 1), (1, .int (nI f))] [] (mk w p r J L) kr) (K := fun o => o = ff (fun f => !dfB A.1.1 0 f) (A.1.1 4) 0) (fun ho => ?_) (fun f hf => ⟨fun hP ho => ?_, fun hP ih => ?_⟩) 0 (Nat.zero_le _) rfl I sc.rf
  · intro J hs
    rw [← ho] at h
    have e4 : J p 4 = nI (A.1.1 4) := (hPC J hs).1.2.2.2.2.1
    have l1 : J p 4 ≤ nI (A.1.1 4) := by rw [e4]; exact Int32.le_refl _
    refine Wf.gc tkX6_judge [] ?_
    rcases hp with rfl | rfl
    all_goals
      conv => whnf
      refine b1' l1 ?_
      conv => whnf
      refine sX6_answer ?_
      conv => whnf
      exact h _
  · intro J hs
    rw [← ho] at h
    have e4 : J p 4 = nI (A.1.1 4) := (hPC J hs).1.2.2.2.2.1
    have l2 : ¬ J p 4 ≤ nI f := by rw [e4, nI_leI (by omega) (by omega)]; omega
    have hP : dfB A.1.1 0 f = false := by
      cases hq : dfB A.1.1 0 f with
      | false => rfl
      | true => rw [hq] at hP; cases hP
    refine Wf.gc tkX6_judge [] ?_
    rcases hp with rfl | rfl
    all_goals
      conv => whnf
      refine b2' l2 ?_
      conv => whnf
      refine x_dropFits (d := d) (by omega) hf h4 h5 h7 hb (hPC J hs) (fun I' hs' => ?_)
      rw [hP]
      conv => whnf
      refine b2 (fun z => z rfl) ?_
      conv => whnf
      refine sX6_answer ?_
      conv => whnf
      exact h _
  · intro J hs
    have e4 : J p 4 = nI (A.1.1 4) := (hPC J hs).1.2.2.2.2.1
    have l2 : ¬ J p 4 ≤ nI f := by rw [e4, nI_leI (by omega) (by omega)]; omega
    have hP : dfB A.1.1 0 f = true := by
      cases hq : dfB A.1.1 0 f with
      | true => rfl
      | false => rw [hq] at hP; cases hP
    refine Wf.gc tkX6_judge [15] ?_
    rcases hp with rfl | rfl
    all_goals
      conv => whnf
      refine b2' l2 ?_
      conv => whnf
      refine x_dropFits (d := d) (by omega) hf h4 h5 h7 hb (hPC J hs) (fun I' hs' => ?_)
      rw [hP]
      conv => whnf
      refine b1 (by decide) ?_
      conv => whnf
      rw [nI_s]
      exact ih I' (hs.tr hs')
end FIT
end
section
/-! no close yet -/
section FTN
variable {l : Launch} {X : Nat × (Nat → Int32)} {d : Nat} {w : Nat × Nat} {p r : Nat} {I : Nat → Nat → Int32} {L : Nat → Nat → Int64} {kr : KR}
theorem x_judge0 (hp : p = 7 ∨ p = 20) (hA : NC6 p I) (h : ∀ I', kr (some (.int (-1))) (mk w p r I' L)) : Ev l X uX6_judge (d + 3) true 0 0 [.ref 1] (mk w p r I L) kr := by
  refine Ev.of (by decide) (Nat.le_of_ble_eq_true rfl) ?_
  refine Wf.gc tkX6_judge [] ?_
  conv => whnf
  refine sX6_hasC (nc_vC hp hA) (fun z => absurd z (by decide)) (fun _ => ?_)
  conv => whnf
  refine b2 (fun z => z rfl) ?_
  conv => whnf
  refine sX6_refuse ?_
  conv => whnf
  exact h _
theorem y_judge0 (hA0 : NC7 I) (h : ∀ I', kr (some (.int (-1))) (mk w p r I' L)) : Ev l X uX7_judge (d + 3) true 0 0 [.ref 150] (mk w p r I L) kr := by
  refine Ev.of (by decide) (Nat.le_of_ble_eq_true rfl) ?_
  refine Wf.gc tkX7_judge [] ?_
  conv => whnf
  refine y_good ?_
  have hA := NC7_g hA0
  generalize hH : u2 (u2 I 150 0 0) 150 11 0 = H at hA
  conv => whnf
  refine b1' hA.1 ?_
  conv => whnf
  refine y_no ?_
  conv => whnf
  exact h _
end FTN
end
section
/-! all sets that fit: the reference's side -/
section SKS
variable {l : Launch} {X : Nat × (Nat → Int32)} {d : Nat} {w : Nat × Nat} {p r : Nat} {I : Nat → Nat → Int32} {L : Nat → Nat → Int64} {kr : KR} {M : Mm} {o : Ost} {A : Ast} {P : Ps} {S : Rw} {F : Nat → Nat} {W : Int32}
/-! the methods -/
/-- what the row of the reference says of the canons told unsure -/
theorem lx_U (hL : LX M) (hv : SV (some A) M) : ∀ u, u < A.1.1 7 → A.1.1 (53 + 2 * u) < 5 := by
  obtain ⟨p, hp, hI⟩ := hL.li.2.1
  have hA := hv.2.2
  have e14 : mI M 150 14 = 1 := hA.1
  have h7 : A.1.1 7 ≤ 4 := (ra_B hv.1).2.2.1
  have hb := (ra_B hv.1).2.2.2
  rcases lt2 hp.1 with rfl | rfl
  · intro u hu
    have e0 : mI M 153 (53 + 2 * u) = nI (A.1.1 (53 + 2 * u)) := hA.2.1.1 (53 + 2 * u) (by omega) (by omega)
    have := hb (53 + 2 * u)
    have b : (0 : Int) ≤ (mI M 153 (53 + 2 * u)).toInt ∧ (mI M 153 (53 + 2 * u)).toInt ≤ 4 := by
      rcases (show u = 0 ∨ u = 1 ∨ u = 2 ∨ u = 3 by omega) with rfl | rfl | rfl | rfl
      · exact hI.2.2.2 153 53 (by decide)
      · exact hI.2.2.2 153 55 (by decide)
      · exact hI.2.2.2 153 57 (by decide)
      · exact hI.2.2.2 153 59 (by decide)
    rw [e0, nI_toInt (by omega)] at b
    omega
  · have b : (0 : Int) ≤ (mI M 150 14).toInt ∧ (mI M 150 14).toInt ≤ 0 := hI.2.2.2 150 14 (by decide)
    rw [e14] at b
    exact absurd b.2 (by decide)
theorem y_judge (hR : RA A) (hD : UD A.1.1) (hub : ∀ u, u < A.1.1 7 → A.1.1 (53 + 2 * u) < 5) (hA0 : AS7 A I) (h : ∀ I', kr (some (.int (qJudge A))) (mk w p r I' L)) : Ev l X uX7_judge (d + 3) true 0 0 [.ref 150] (mk w p r I L) kr := by
  refine Ev.of (by decide) (Nat.le_of_ble_eq_true rfl) ?_
  refine Wf.gc tkX7_judge [] ?_
  conv => whnf
  refine y_good ?_
  have hA := AS7_g hA0
  generalize hH : u2 (u2 I 150 0 0) 150 11 0 = H at hA
  have h14 : H 150 14 = 1 := hA.1
  conv => whnf
  refine b2' (by show ¬ H 150 14 = 0; rw [h14]; decide) ?_
  conv => whnf
  refine y_wrongBy (d := d) hR.1.1 hR.1.2.1 hD hub hA.2.1 hA.2.2.1 (fun K k1 => ?_)
  conv => whnf
  exact h K
end SKS
end
section
theorem ra_UD {A : Ast} (h : RA A) : UD A.1.1 := h.1.2.1.2.2.2.2
end
section
/-! unsure canons: both sides together -/
section UNJ
variable {l : Launch} {X : Nat × (Nat → Int32)} {d : Nat} {kr : KR} {M : Mm} {o : Ost} {A : Ast}
theorem j6_judge (d : Nat) (hL : LX M) (hv : SV o M) (h : ∀ M', LX M' → M'.1 = M.1 → SV o M' → kr (some (.int (lfq qJudge (-1) o))) M') : Ev l X uX6_judge (d + 12) true 0 0 [.ref 1] M kr := by
  refine jQ hL hv (fun k h => p6_judge d hL.li h) ?_ (by decide +kernel) h
  have hp := Iv_p hL.iv
  cases o with
  | none => exact x_judge0 (d := d + 9) hp hv.2.1 (fun I' => rfl)
  | some A => exact x_judge (d := d + 9) hp hv.1 hv.2.1 (fun I' => rfl)
theorem j7_judge (d : Nat) (hL : LX M) (hv : SV o M) (h : ∀ M', LX M' → M'.1 = M.1 → SV o M' → kr (some (.int (lfq qJudge (-1) o))) M') : Ev l X uX7_judge (d + 12) true 0 0 [.ref 150] M kr := by
  refine jQ hL hv (fun k h => p7_judge d hL.li h) ?_ (by decide +kernel) h
  cases o with
  | none => exact y_judge0 (d := d + 9) hv.2.2 (fun I' => rfl)
  | some A => exact y_judge (d := d + 9) hv.1 (ra_UD hv.1) (lx_U hL hv) hv.2.2 (fun I' => rfl)
end UNJ
end
section
noncomputable def ilX6_led : List (Nat × Instr × Nat) := [(0, .iconst 0, 1), (1, .istore_n 2, 1), (2, .iconst 0, 1), (3, .istore_n 3, 1), (4, .iload_n 3, 1), (5, .aload_n 0, 1), (6, .getfield 19, 3), (9, .getfield 97, 3), (12, .if_icmp .ge 43, 3), (15, .aload_n 0, 1), (16, .getfield 29, 3), (19, .iload_n 3, 1), (20, .invokevirtual 122, 3), (23, .ifCond .ne 26, 3), (26, .aload_n 0, 1), (27, .iload_n 3, 1), (28, .invokevirtual 128, 3), (31, .bipush (-2), 2), (33, .if_icmp .eq 6, 3), (36, .goto 13, 3), (39, .iload_n 2, 1), (40, .iload_n 1, 1), (41, .if_icmp .ne 5, 3), (44, .iload_n 3, 1), (45, .ireturn, 1), (46, .iinc 2 1, 3), (49, .iinc 3 1, 3), (52, .goto (-48), 3), (55, .new 327, 3), (58, .dup, 1), (59, .invokespecial 329, 3), (62, .athrow, 1)]
theorem idX6_led : ∀ x ∈ ilX6_led, decode cX6_led x.1 = .ok x.2 := sq_ok (B := 0) List.drop_zero (by decide +kernel : sqI cX6_led 0 cX6_led.data.toList ilX6_led = true)
theorem clX6_327 : Cond.classLink RX6 327 NSE ∈ wB := wT5 93 rfl (by decide +kernel)
theorem nsI : Cond.initialized NSE ∈ wB := wT1 19 rfl (by decide +kernel)
theorem nsN : Cond.instantiable NSE 6 ∈ wB := wT5 94 rfl (by decide +kernel)
noncomputable def thA : List Cond := Bundle.ownAtoms0 RX6 329 NSE ["java/lang/RuntimeException", "java/lang/Exception"]
theorem thA_g : ∀ w ∈ thA.filter goodWord, w ∈ wB := wB_all [142, 1201, 1210, 1212, 1215, 1217, 1202, 1203, 152, 153, 1204, 1209, 1213, 1229, 1191, 1230, 1193, 1231, 1195, 1205, 1207, 1197, 1219, 1220, 1221, 1222, 1222, 1223, 1224, 1225, 1225, 1226, 1227, 1202, 1218, 1180, 1188, 1189, 1190, 1192, 1194, 1196, 1200, 1199, 1198] (by decide +kernel) (by decide +kernel)
theorem thA_b : thA.filter (fun w => !goodWord w) = [.laysStatic "java/lang/Throwable" "UNASSIGNED_STACK" "[Ljava/lang/StackTraceElement;", .laysStatic "java/lang/Throwable" "SUPPRESSED_SENTINEL" "Ljava/util/List;", .declares ⟨"java/lang/RuntimeException", "<init>", "()V"⟩, .declares ⟨"java/lang/Exception", "<init>", "()V"⟩, .declares ⟨"java/lang/Throwable", "<init>", "()V"⟩, .castable NSE NSE, .isRef (.static "java/lang/Throwable" "UNASSIGNED_STACK" "[Ljava/lang/StackTraceElement;"), .isRef (.static "java/lang/Throwable" "SUPPRESSED_SENTINEL" "Ljava/util/List;")] := by decide +kernel
theorem thA_h {args : Array Value} {s : State} {A : Nat → Prop} {g : Nat → ClassId} (hts : ∀ w ∈ wB, w.before args s = true) (ho : ao g A s s.heap) : ∀ a ∈ thA, a.before args s = true := by
  intro a ha
  cases hg : goodWord a with
  | true => exact hts _ (thA_g a (List.mem_filter.mpr ⟨ha, hg⟩))
  | false =>
    have hb : a ∈ thA.filter (fun w => !goodWord w) := List.mem_filter.mpr ⟨ha, by rw [hg]; rfl⟩
    rw [thA_b] at hb
    obtain ⟨-, -, ⟨o1, o2⟩, o3, o4⟩ := ho
    simp only [List.mem_cons, List.not_mem_nil, or_false] at hb
    rcases hb with rfl | rfl | rfl | rfl | rfl | rfl | rfl | rfl
    · exact o1.lays
    · exact o2.lays
    · exact va_Nw.use rfl (o4 _ (List.mem_of_getElem? (i := 0) rfl))
    · exact va_Nw.use rfl (o4 _ (List.mem_of_getElem? (i := 1) rfl))
    · exact va_Nw.use rfl (o4 _ (List.mem_of_getElem? (i := 2) rfl))
    · exact va_Nw.use rfl o3
    · exact o1.isRef
    · exact o2.isRef
end
section
/-! a frame over a memory that stays as it is, whose end may be elsewhere than at a return: for the class's led, which throws -/
section WTA
noncomputable def rq (D : va_G) (g : Nat → ClassId) (A : Nat → Prop) (s : State) (ad : Nat → Nat) (M : Mm) (H : Heap) (locs : List Loc) : Prop :=
  va_P D vwCl (wl g ad M) H ∧ va_D A (wl g ad M) ∧ va_S A s.heap H locs ∧ kO M ∧ mN M ≤ 4000
/-- the frame at pc comes to a place and a stack of which E speaks; the memory is M all along -/
noncomputable def Wt (l : Launch) (X : Nat × (Nat → Int32)) (q : Md) (d : Nat) (E : Nat → Option Value → Prop) (pc : Nat) (ls : Ls) (st : List Value) (M : Mm) : Prop :=
  ∀ (p : Program) (e : Env) (R : Room) (s : State) (m : MethodId) (args : Array Value) (below : List Frame) (meth : Method) (c : Code) (Q : State → Prop) (D : va_G) (g : Nat → ClassId) (ad : Nat → Nat) (A : Nat → Prop) (H : Heap) (locs : List Loc) (la : Array Slot),
    fx X q p s m args meth c D g ad A → d ≤ R.frames → 64 * d ≤ R.locals → rq D g A s ad M H locs → lv_has la q.2.2.1 (lm ad ls) →
    (∀ (pc' : Nat) (r : Option Value) (H' : Heap) (locs' : List Loc) (la' : Array Slot), E pc' r → rq D g A s ad M H' locs' → lv_has la' q.2.2.1 [] → W p l e R s m args below meth c H' locs' 0 0 Q (F0 m pc' la' (r.toList.map (iv ad)))) →
    W p l e R s m args below meth c H locs 0 0 Q (F0 m pc la (st.map (iv ad)))
variable {l : Launch} {X : Nat × (Nat → Int32)} {q : Md} {d : Nat} {E : Nat → Option Value → Prop} {pc : Nat} {ls : Ls} {st : List Value} {M : Mm}
theorem wt_end {r : Option Value} (he : E pc r) : Wt l X q d E pc ls r.toList M := by
  intro p e R s m args below meth c Q D g ad A H locs la hf h1 h2 hr hl hk
  exact hk pc r H locs la he hr ⟨hl.1, hl.2.1, fun x hx => absurd hx List.not_mem_nil⟩
theorem wt_pure {pc' : Nat} {ls' : Ls} {st' : List Value} (h : ∀ (p : Program) (e : Env) (R : Room) (s : State) (m : MethodId) (args : Array Value) (below : List Frame) (meth : Method) (c : Code) (H : Heap) (locs : List Loc) (Q : State → Prop) (ad : Nat → Nat) (la : Array Slot), p.tables.exec = Jvm.exec → c.code = q.2.1 → lv_has la q.2.2.1 (lm ad ls) → (∀ la' : Array Slot, lv_has la' q.2.2.1 (lm ad ls') → W p l e R s m args below meth c H locs 0 0 Q (F0 m pc' la' (st'.map (iv ad)))) → W p l e R s m args below meth c H locs 0 0 Q (F0 m pc la (st.map (iv ad)))) (k : Wt l X q d E pc' ls' st' M) : Wt l X q d E pc ls st M := by
  intro p e R s m args below meth c Q D g ad A H locs la hf h1 h2 hr hl hk
  exact h p e R s m args below meth c H locs Q ad la hf.1 hf.2.1 hl (fun la' hl' => k p e R s m args below meth c Q D g ad A H locs la' hf h1 h2 hr hl' hk)
theorem wt_two {st' : List Value} {t t' : Nat} {P N : Prop} (h : ∀ (p : Program) (e : Env) (R : Room) (s : State) (m : MethodId) (args : Array Value) (below : List Frame) (meth : Method) (c : Code) (H : Heap) (locs : List Loc) (Q : State → Prop) (ad : Nat → Nat) (la : Array Slot), p.tables.exec = Jvm.exec → c.code = q.2.1 → (P → W p l e R s m args below meth c H locs 0 0 Q (F0 m t la (st'.map (iv ad)))) → (N → W p l e R s m args below meth c H locs 0 0 Q (F0 m t' la (st'.map (iv ad)))) → W p l e R s m args below meth c H locs 0 0 Q (F0 m pc la (st.map (iv ad)))) (k1 : P → Wt l X q d E t ls st' M) (k2 : N → Wt l X q d E t' ls st' M) : Wt l X q d E pc ls st M := by
  intro p e R s m args below meth c Q D g ad A H locs la hf h1 h2 hr hl hk
  exact h p e R s m args below meth c H locs Q ad la hf.1 hf.2.1 (fun z => k1 z p e R s m args below meth c Q D g ad A H locs la hf h1 h2 hr hl hk) (fun z => k2 z p e R s m args below meth c Q D g ad A H locs la hf h1 h2 hr hl hk)
theorem wt_ic {n : Int} {v : Int32} (hv : Int32.ofInt n = v) (hd : decode q.2.1 pc = .ok (.iconst n, 1)) (k1 : Wt l X q d E (pc + 1) ls (.int v :: st) M) : Wt l X q d E pc ls st M :=
  wt_pure (fun _ _ _ _ _ _ _ _ _ _ _ _ ad la hx hb hl k => lv_iconst hx hb hd hv (k la hl)) k1
theorem wt_bi {n : Int} {v : Int32} (hv : (Int8.ofInt n).toInt32 = v) (hd : decode q.2.1 pc = .ok (.bipush n, 2)) (k1 : Wt l X q d E (pc + 2) ls (.int v :: st) M) : Wt l X q d E pc ls st M :=
  wt_pure (fun _ _ _ _ _ _ _ _ _ _ _ _ ad la hx hb hl k => lv_bipush hx hb hd hv (k la hl)) k1
theorem wt_il {i : Nat} {j : Fin 4} {v : Int32} (hi : (j : Nat) = i) (hd : decode q.2.1 pc = .ok (.iload_n j, 1)) (hg : lg ls i = some (.int v)) (k1 : Wt l X q d E (pc + 1) ls (.int v :: st) M) : Wt l X q d E pc ls st M :=
  wt_pure (fun _ _ _ _ _ _ _ _ _ _ _ _ ad la hx hb hl k => lv_iload_n hx hb hd hi (lg_has hg hl) (k la hl)) k1
theorem wt_al {i a : Nat} {j : Fin 4} (hi : (j : Nat) = i) (hd : decode q.2.1 pc = .ok (.aload_n j, 1)) (hg : lg ls i = some (.ref a)) (ha : 0 < a) (k1 : Wt l X q d E (pc + 1) ls (.ref a :: st) M) : Wt l X q d E pc ls st M := by
  refine wt_pure (fun p e R s m args below meth c H locs Q ad la hx hb hl k => ?_) k1
  have k := k la hl
  rw [List.map_cons, iv_ref ha] at k
  exact lv_aload_n hx hb hd hi (by rw [← iv_ref ha]; exact lg_has hg hl) k
theorem wt_is {i : Nat} {j : Fin 4} {v : Int32} {ls' : Ls} (hi : (j : Nat) = i) (hn : i < q.2.2.1) (hd : decode q.2.1 pc = .ok (.istore_n j, 1)) (hp : lp ls i (.int v) = ls') (k1 : Wt l X q d E (pc + 1) ls' st M) : Wt l X q d E pc ls (.int v :: st) M := by
  subst hp
  exact wt_pure (fun _ _ _ _ _ _ _ _ _ _ _ _ ad la hx hb hl k => lv_istore_n hx hb hd hi hl hn rfl (fun la' hl' => k la' (lp_1 rfl hl'))) k1
theorem wt_inc {i : Nat} {n : Int} {x v : Int32} {ls' : Ls} (hv : Int32.ofInt n = v) (hn : i < q.2.2.1) (hd : decode q.2.1 pc = .ok (.iinc i n, 3)) (hg : lg ls i = some (.int x)) (hp : lp ls i (.int (x + v)) = ls') (k1 : Wt l X q d E (pc + 3) ls' st M) : Wt l X q d E pc ls st M := by
  subst hp
  subst hv
  refine wt_pure (fun p e R s m args below meth c H locs Q ad la hx hb hl k => ?_) k1
  obtain ⟨j, hj⟩ := List.getElem?_of_mem (List.mem_map.mpr ⟨(i, Value.int x), lg_mem hg, rfl⟩ : (i, Value.int x) ∈ lm ad ls)
  exact lv_iinc hx hb hd hl hj rfl hn rfl (fun la' hl' => k la' (lp_1 rfl hl'))
theorem wt_go {off : Int} {t : Nat} (ht : (pc : Int) + off = (t : Int)) (hd : decode q.2.1 pc = .ok (.goto off, 3)) (k1 : Wt l X q d E t ls st M) : Wt l X q d E pc ls st M :=
  wt_pure (fun _ _ _ _ _ _ _ _ _ _ _ _ ad la hx hb hl k => lv_goto hx hb hd ht (k la hl)) k1
theorem wt_ge {off : Int} {t : Nat} {x y : Int32} (ht : (pc : Int) + off = (t : Int)) (hd : decode q.2.1 pc = .ok (.if_icmp .ge off, 3)) (k1 : y ≤ x → Wt l X q d E t ls st M) (k2 : ¬ y ≤ x → Wt l X q d E (pc + 3) ls st M) : Wt l X q d E pc ls (.int y :: .int x :: st) M :=
  wt_two (fun _ _ _ _ _ _ _ _ _ _ _ _ ad la hx hb k1 k2 => lv_icmp_ge hx hb hd ht k1 k2) k1 k2
theorem wt_eq {off : Int} {t : Nat} {x y : Int32} (ht : (pc : Int) + off = (t : Int)) (hd : decode q.2.1 pc = .ok (.if_icmp .eq off, 3)) (k1 : x = y → Wt l X q d E t ls st M) (k2 : ¬ x = y → Wt l X q d E (pc + 3) ls st M) : Wt l X q d E pc ls (.int y :: .int x :: st) M :=
  wt_two (fun _ _ _ _ _ _ _ _ _ _ _ _ ad la hx hb k1 k2 => lv_icmp_eq hx hb hd ht k1 k2) k1 k2
theorem wt_ne {off : Int} {t : Nat} {x y : Int32} (ht : (pc : Int) + off = (t : Int)) (hd : decode q.2.1 pc = .ok (.if_icmp .ne off, 3)) (k1 : ¬ x = y → Wt l X q d E t ls st M) (k2 : x = y → Wt l X q d E (pc + 3) ls st M) : Wt l X q d E pc ls (.int y :: .int x :: st) M :=
  wt_two (fun _ _ _ _ _ _ _ _ _ _ _ _ ad la hx hb k1 k2 => lv_icmp_ne hx hb hd ht k1 k2) k1 k2
theorem wt_ifne {off : Int} {t : Nat} {x : Int32} (ht : (pc : Int) + off = (t : Int)) (hd : decode q.2.1 pc = .ok (.ifCond .ne off, 3)) (k1 : ¬ x = 0 → Wt l X q d E t ls st M) (k2 : x = 0 → Wt l X q d E (pc + 3) ls st M) : Wt l X q d E pc ls (.int x :: st) M :=
  wt_two (fun _ _ _ _ _ _ _ _ _ _ _ _ ad la hx hb k1 k2 => lv_if_ne hx hb hd ht k1 k2) k1 k2
theorem wt_get {c k t idx a : Nat} {Cn : String} {T : u_T} {N : Nat} (hc : vwCl[c]? = some (Cn, T, N)) (hin : ∀ w ∈ u_ws Cn T N, w ∈ wB) (h8 : c < 8 ∧ k < N ∧ k < (tf c).length ∧ (tf c).getD k 0 = t) (hw : Cond.fieldLink q.1.cls idx (T k).1 (T k).2.1 (T k).2.2.1 ∈ wB) (hd : decode q.2.1 pc = .ok (.getfield idx, 3)) (h0 : kk M a c = true) (k1 : Wt l X q d E (pc + 3) ls (sv M a k t :: st) M) : Wt l X q d E pc ls (.ref a :: st) M := by
  intro p e R s m args below meth c' Q D g ad A H locs la hf h1 h2 hr hl hk
  obtain ⟨a0, a1, a2⟩ := kk_of h0
  have hw1 := k1 p e R s m args below meth c' Q D g ad A H locs la hf h1 h2 hr hl hk
  rw [List.map_cons, iv_ref a0]
  have he := wl_at (g := g) (ad := ad) a0 a1
  rw [en_o a2 h8.1] at he
  have hts := hf.2.2.2.2.2.2.2.1
  exact va_get hf.1 hf.2.1 hts hin hf.2.2.2.2.2.1 hf.2.2.2.2.2.2.2.2.2.1 hr.1 (a - 1) he hc k h8.2.1 (hts _ hw) (fun _ z => z) (v := iv ad (sv M a k t)) (by rw [eo_at h8.2.2.1, h8.2.2.2]) hd hw1
/-- a call that leaves the memory as it is -/
theorem wt_cv {q' : Md} {c n idx a : Nat} {T : u_T} {N : Nat} {as rest : List Value} (hW : cV q' n) (hc : vwCl[c]? = some (q'.1.cls, T, N)) (h8 : c < 8) (hw : Cond.methodLink q.1.cls idx q'.1 ∈ wB) (hd : decode q.2.1 pc = .ok (.invokevirtual idx, 3)) (e0 : pn (n + 1) st [] = some (.ref a :: as, rest)) (h0 : kk M a c = true) (hcs : cs rest ≤ 8) {ps : Option Value → Prop} (h : Ev l X q' d true 0 0 (.ref a :: as) M (fun r M' => M' = M ∧ ps r)) (k1 : ∀ r, ps r → Wt l X q (d + 1) E (pc + 3) ls (r.toList ++ rest) M) : Wt l X q (d + 1) E pc ls st M := by
  intro p e R s m args below meth c' Q D g ad A H locs la hf g1 g2 hr hl hk
  obtain ⟨r1, r2, r3, r4, r6⟩ := hr
  obtain ⟨a0, a1, a2⟩ := kk_of h0
  obtain ⟨n1, n2⟩ := pn_0 e0
  have hs := sx_kept hf.2.2.2.2.2.2.2.2.2 r3.1 r3.2.1
  have hA := hf.2.2.2.2.2.2.2.2.1
  have hts := hf.2.2.2.2.2.2.2.1
  have hp := fun av => pz_pre (X := X) (av := av) r1 r2 (fun a ha => hA a (Nat.le_trans r3.1 ha)) r4 r6 hs
  have he := wl_at (g := g) (ad := ad) a0 a1
  rw [en_o a2 h8] at he
  have hR : (rz d 0 0).frames + 1 ≤ R.frames ∧ 8 + (q'.2.2.1 + 11) + (rz d 0 0).locals ≤ R.locals := ⟨g1, by have := hW.1.2.2.2; show 8 + (q'.2.2.1 + 11) + 64 * d ≤ _; omega⟩
  have hrun := va_runV (p := p) (e := e) (below := below) (meth := meth) (locs := locs) (cells := 0) (slots := 0) (g := F0 m pc la (st.map (iv ad))) (As := as.map (iv ad)) (rest := rest.map (iv ad)) (b := ad a) (C := q'.1.cls) ⟨hf.1, hf.2.1, hf.2.2.1, hf.2.2.2.2.2.1, hts⟩ (h D g ad A) ⟨callB_of n hts (wB_good hW.1.1) rfl rfl rfl (hts _ hW.1.2.1) (hts _ hw) hW.1.2.2.1 hR, hts _ hW.2.1, hts _ hW.2.2⟩ ⟨(hp _).1, va_recv hs.1 r1 hc he, fun U hU hW' => by
      have := (hp (.ref a :: as)).2 U hU hW'
      rw [List.map_cons, iv_ref a0] at this
      exact this⟩ rfl (by rw [List.length_map]; simpa using n1) hl.1 (by
      show st.map (iv ad) = _
      rw [n2, ← iv_ref a0]
      simp) (lv_room (by rw [cs_of]; exact hcs)) hd ⟨Nat.zero_le _, Nat.zero_le _⟩
  intro T1 hT Xs
  obtain ⟨v, st₀, t, T', L, h3, X', hL, e1, e2, hq, stp⟩ := hrun T1 hT Xs
  obtain ⟨r, M', ad', o1, ⟨o2, o2'⟩, o3, o4, o5, o6, o7, o8, o9, o10⟩ := hq
  obtain ⟨rfl, -⟩ := o3 rfl
  subst o2
  have ev : v = r.map (iv ad') := by cases o1; rfl
  subst ev
  have hS' : va_S A s.heap t.heap (locs ++ L) := by
    obtain ⟨z1, z2⟩ := o10
    rw [h3] at z1 z2
    exact ⟨Nat.le_trans r3.1 z1, fun a ha hA' => by rw [z2 a (Nat.lt_of_lt_of_le ha r3.1) hA']; exact r3.2.1 a ha hA', fun x hx => by
      rcases List.mem_append.mp hx with z | z
      · exact r3.2.2 x z
      · exact hL x z⟩
  have hw1 := k1 r o2' p e R s m args below meth c' Q D g ad' A t.heap (locs ++ L) la hf g1 g2 ⟨o8, o9, hS', r4, r6⟩ hl hk
  obtain ⟨t2, x1, y1⟩ := hw1 T' e1 X'
  refine ⟨t2, stp t2 ?_, y1⟩
  have es : (r.toList ++ rest).map (iv ad') = (r.map (iv ad')).toList ++ rest.map (iv ad') := by cases r <;> simp
  rw [es] at x1
  exact x1
end WTA
/-! a walk's state as a beginning of its own -/
section BASE
variable {p : Program} {l : Launch} {e : Env} {R : Room} {s : State} {m : MethodId} {args : Array Value} {below : List Frame} {meth : Method} {c : Code} {T : State} {locs : List Loc}
theorem hears_eq {u : State} (hv : s.vm.Alike u.vm) (m : MethodId) (below : List Frame) : u.hears m below = s.hears m below := by
  have hm := hv.method?
  rcases below with _ | ⟨y, r⟩
  · simp [State.hears, hm]
  · cases y <;> simp [State.hears, State.code?_eq, hm]
theorem st_base (Xs : Stand p l e R s m args below meth c T locs 0 0) : Stand p l e R (T.setFrames (.invoking m args :: below)) m args below meth c T [] 0 0 := by
  obtain ⟨g₀, hfr⟩ := Xs.frames_eq
  obtain ⟨th, hth, -⟩ := State.frames_cons hfr
  have hcur : T.cur < T.threads.size := (Array.getElem?_eq_some_iff.mp hth).1
  have hF : (T.setFrames (.invoking m args :: below)).frames = .invoking m args :: below := State.frames_setFrames _ hcur
  have hroom : (T.setFrames (.invoking m args :: below)).hasRoom e.platform R = true := by
    obtain ⟨r1, r2, r3, r4⟩ := State.hasRoom_stack Xs.room
    have r5 := State.hasRoom_real Xs.room
    have h := Xs.room
    simp only [State.hasRoom, Bool.and_eq_true, decide_eq_true_eq] at h
    rw [State.localsInUse_invoking Xs.frames Xs.method Xs.code] at r3 r4 r5
    rw [Xs.frames, List.length_cons] at r1 r2
    have hU := State.localsInUse_invoking (s := T.setFrames (.invoking m args :: below)) hF Xs.method' Xs.code
    simp only [State.hasRoom, Bool.and_eq_true, decide_eq_true_eq, hF, hU, List.length_cons, State.stackLimits_setFrames, State.stackBytes_setFrames, Xs.limits, Xs.bytes]
    refine ⟨⟨⟨⟨by omega, by omega, by omega, by omega, by omega, h.1.1.1.2.2.2.2.2⟩, ?_⟩, ?_⟩, Xs.book⟩
    · have h1 := h.1.1.2
      have h2 := Xs.heapSize
      show T.heap.size + R.cells ≤ e.platform.maxCells
      omega
    · have h1 := h.1.2
      have h2 := Xs.used
      show T.slotsUsed + R.slots ≤ e.platform.maxSlots
      omega
  obtain ⟨th', hth', -⟩ := State.frames_cons hF
  have hcur' : (T.setFrames (.invoking m args :: below)).cur < (T.setFrames (.invoking m args :: below)).threads.size := State.cur_lt_of_frames hF
  have hsame : (T.setFrames (.invoking m args :: below)).sameButNew ((T.setFrames (.invoking m args :: below)).setFrames T.frames) [] 0 0 := (State.sameButNew.refl _ hth').setFrames T.frames hcur'
  rw [State.setFrames_setFrames, State.setFrames_self hth] at hsame
  exact ⟨Xs.admits, Xs.cas, Xs.clock, hF, hroom, (hears_eq (s := s) (u := T.setFrames (.invoking m args :: below)) Xs.warmed.alike m below).trans Xs.hears, Xs.method', Xs.code, Xs.here, Xs.tail, State.WarmedH.refl _, by rw [State.stackLimits_setFrames], by rw [State.stackBytes_setFrames], hsame⟩
end BASE
end
section
/-! the class's led: an answer, or a throw; the memory stays as it is -/
section LED
variable {l : Launch} {X : Nat × (Nat → Int32)} {d : Nat} {M : Mm} {i0 : Int32}
theorem kp_nil {M M' : Mm} (h1 : M'.1 = M.1) (h : kp [] M M') : M' = M := by
  obtain ⟨a, I, L, Rf⟩ := M
  obtain ⟨a', I', L', Rf'⟩ := M'
  have e0 : a' = a := h1
  have e1 : I' = I := by funext b j; exact (h b j rfl).1
  have e2 : L' = L := by funext b j; exact (h b j rfl).2.2
  have e3 : Rf' = Rf := by funext b j; exact (h b j rfl).2.1
  rw [e0, e1, e2, e3]
/-- where it ends: at its return, or where the throwable is made -/
noncomputable def ledE (pc : Nat) (r : Option Value) : Prop := (pc = 45 ∧ ∃ v : Int32, r = some (.int v)) ∨ (pc = 55 ∧ r = none)
theorem led_hf (hI : Iv Pt8 M) (he : eO 1 M) {f : Nat} (hf : f ≤ 5) : Ev l X uX2_hasFallen d true 0 0 [.ref 33, .int (nI f)] M (fun r M' => M' = M ∧ ∃ x : Int32, r = some (.int x)) := by
  have e1 : (nI f).toInt = (f : Int) := nI_toInt (by omega)
  refine vc116 d [.ref 33, .int (nI f)] M _ hI he ⟨⟨rfl, List.mem_singleton.mpr rfl⟩, ⟨rfl, by rw [e1]; show (0 : Int) ≤ _; omega, by rw [e1]; show _ ≤ (5 : Int); omega⟩, trivial⟩ (fun f hf => absurd hf List.not_mem_nil) (fun r M' hJ hp => ⟨kp_nil hJ.1 hJ.2.2.1, ?_⟩)
  obtain ⟨v, rfl, hk⟩ := posts_ok (t := 0) (by decide +kernel) hp
  exact iV hk (fun x e => ⟨x, by rw [e]⟩)
theorem led_co (hI : Iv Pt8 M) (he : eO 1 M) {f : Int32} : Ev l X uX6_canonOf d true 0 0 [.ref 1, .int f] M (fun r M' => M' = M ∧ ∃ x : Int32, r = some (.int x)) := by
  refine vc117 d [.ref 1, .int f] M _ hI he ⟨⟨rfl, List.mem_singleton.mpr rfl⟩, ⟨rfl, i32_lo _, i32_hi _⟩, trivial⟩ (fun f hf => absurd hf List.not_mem_nil) (fun r M' hJ hp => ⟨kp_nil hJ.1 hJ.2.2.1, ?_⟩)
  obtain ⟨v, rfl, hk⟩ := posts_ok (t := 0) (by decide +kernel) hp
  exact iV hk (fun x e => ⟨x, by rw [e]⟩)
theorem led_pl (hI : Iv Pt8 M) : ∃ (P n : Nat), mR M 1 1 = P ∧ kk M P 3 = true ∧ n ≤ 6 ∧ mI M P 4 = nI n := by
  have r1 := hI.2.2.1 1 1 (by decide)
  have r1 : mR M 1 1 = 7 ∨ mR M 1 1 = 20 := by
    have r1 : mR M 1 1 ∈ [7, 20] := r1
    rcases List.mem_cons.mp r1 with z | z
    · exact Or.inl z
    · exact Or.inr (List.mem_singleton.mp z)
  have cnt : ∀ x : Int32, 0 ≤ x.toInt → x.toInt ≤ 6 → ∃ n : Nat, n ≤ 6 ∧ x = nI n := fun x h0 h6 => ⟨x.toInt.toNat, by omega, nI_at h0 (by omega)⟩
  rcases r1 with e | e
  · obtain ⟨b1, b2⟩ := hI.2.2.2 7 4 (by decide)
    obtain ⟨n, h1, h2⟩ := cnt (mI M 7 4) b1 b2
    exact ⟨7, n, e, kk_ok hI rfl, h1, h2⟩
  · obtain ⟨b1, b2⟩ := hI.2.2.2 20 4 (by decide)
    obtain ⟨n, h1, h2⟩ := cnt (mI M 20 4) b1 b2
    exact ⟨20, n, e, kk_ok hI rfl, h1, h2⟩

set_option maxRecDepth 20000 in
theorem led_wt (hI : Iv Pt8 M) (he : eO 1 M) : Wt l X uX6_led (d + 1) ledE 0 [(0, .ref 1), (1, .int i0)] [] M := by
  obtain ⟨P, n, hP, kP, hn, hc⟩ := led_pl hI
  have k1 : kk M 1 6 = true := kk_ok hI rfl
  have k33 : kk M 33 2 = true := kk_ok hI rfl
  have r3 : mR M 1 3 = 33 := List.mem_singleton.mp (hI.2.2.1 1 3 (by decide))
  -- the head of the loop
  have head : ∀ (f : Nat) (ah : Int32), (nI n ≤ nI f → Wt l X uX6_led (d + 1) ledE 55 [(0, .ref 1), (1, .int i0), (2, .int ah), (3, .int (nI f))] [] M) → (¬ nI n ≤ nI f → Wt l X uX6_led (d + 1) ledE 15 [(0, .ref 1), (1, .int i0), (2, .int ah), (3, .int (nI f))] [] M) → Wt l X uX6_led (d + 1) ledE 4 [(0, .ref 1), (1, .int i0), (2, .int ah), (3, .int (nI f))] [] M := by
    intro f ah j1 j2
    refine wt_il (i := 3) rfl (idX6_led (4, .iload_n 3, 1) (List.mem_of_getElem? (i := 4) rfl)) rfl ?_
    refine wt_al (i := 0) rfl (idX6_led (5, .aload_n 0, 1) (List.mem_of_getElem? (i := 5) rfl)) rfl (by decide) ?_
    refine wt_get (c := 6) (k := 1) (t := 2) rfl inB6 (by decide) flX6_19 (idX6_led (6, .getfield 19, 3) (List.mem_of_getElem? (i := 6) rfl)) k1 ?_
    show Wt l X uX6_led (d + 1) ledE 9 _ [.ref (mR M 1 1), .int (nI f)] M
    rw [hP]
    refine wt_get (c := 3) (k := 4) (t := 0) rfl inB3 (by decide) flX6_97 (idX6_led (9, .getfield 97, 3) (List.mem_of_getElem? (i := 7) rfl)) kP ?_
    show Wt l X uX6_led (d + 1) ledE 12 _ [.int (mI M P 4), .int (nI f)] M
    rw [hc]
    exact wt_ge (t := 55) (by decide) (idX6_led (12, .if_icmp .ge 43, 3) (List.mem_of_getElem? (i := 8) rfl)) j1 j2
  have step : ∀ (f : Nat) (ah : Int32), (∀ ah' : Int32, Wt l X uX6_led (d + 1) ledE 4 [(0, .ref 1), (1, .int i0), (2, .int ah'), (3, .int (nI (f + 1)))] [] M) → Wt l X uX6_led (d + 1) ledE 49 [(0, .ref 1), (1, .int i0), (2, .int ah), (3, .int (nI f))] [] M := by
    intro f ah j
    refine wt_inc (i := 3) (v := 1) (by decide) (by decide) (idX6_led (49, .iinc 3 1, 3) (List.mem_of_getElem? (i := 26) rfl)) rfl rfl ?_
    rw [nI_1]
    exact wt_go (t := 4) (by decide) (idX6_led (52, .goto (-48), 3) (List.mem_of_getElem? (i := 27) rfl)) (j ah)
  have loop : ∀ f, f ≤ n → ∀ ah : Int32, Wt l X uX6_led (d + 1) ledE 4 [(0, .ref 1), (1, .int i0), (2, .int ah), (3, .int (nI f))] [] M := by
    refine dwn _ n ?_ ?_
    · intro ah
      exact head n ah (fun _ => wt_end (r := none) (Or.inr ⟨rfl, rfl⟩)) (fun z => absurd (nI_le (Nat.le_refl n) (by omega)) z)
    · intro f hf j ah
      refine head f ah (fun z => absurd z (nI_ge hf (by omega))) (fun _ => ?_)
      refine wt_al (i := 0) rfl (idX6_led (15, .aload_n 0, 1) (List.mem_of_getElem? (i := 9) rfl)) rfl (by decide) ?_
      refine wt_get (c := 6) (k := 3) (t := 2) rfl inB6 (by decide) flX6_29 (idX6_led (16, .getfield 29, 3) (List.mem_of_getElem? (i := 10) rfl)) k1 ?_
      show Wt l X uX6_led (d + 1) ledE 19 _ [.ref (mR M 1 3)] M
      rw [r3]
      refine wt_il (i := 3) rfl (idX6_led (19, .iload_n 3, 1) (List.mem_of_getElem? (i := 11) rfl)) rfl ?_
      refine wt_cv (c := 2) (n := 1) (as := [.int (nI f)]) (rest := []) cv_X2_hasFallen rfl (by decide) mlX6_122 (idX6_led (20, .invokevirtual 122, 3) (List.mem_of_getElem? (i := 12) rfl)) rfl k33 (Nat.zero_le _) (led_hf (f := f) hI he (by omega)) (fun r hr => ?_)
      obtain ⟨x, rfl⟩ := hr
      show Wt l X uX6_led (d + 1) ledE 23 _ [.int x] M
      refine wt_ifne (t := 49) (by decide) (idX6_led (23, .ifCond .ne 26, 3) (List.mem_of_getElem? (i := 13) rfl)) (fun _ => step f ah j) (fun _ => ?_)
      refine wt_al (i := 0) rfl (idX6_led (26, .aload_n 0, 1) (List.mem_of_getElem? (i := 14) rfl)) rfl (by decide) ?_
      refine wt_il (i := 3) rfl (idX6_led (27, .iload_n 3, 1) (List.mem_of_getElem? (i := 15) rfl)) rfl ?_
      refine wt_cv (c := 6) (n := 1) (as := [.int (nI f)]) (rest := []) cv_X6_canonOf rfl (by decide) mlX6_128 (idX6_led (28, .invokevirtual 128, 3) (List.mem_of_getElem? (i := 16) rfl)) rfl k1 (Nat.zero_le _) (led_co hI he) (fun r hr => ?_)
      obtain ⟨y, rfl⟩ := hr
      show Wt l X uX6_led (d + 1) ledE 31 _ [.int y] M
      refine wt_bi (v := -2) (by decide) (idX6_led (31, .bipush (-2), 2) (List.mem_of_getElem? (i := 17) rfl)) ?_
      refine wt_eq (t := 39) (by decide) (idX6_led (33, .if_icmp .eq 6, 3) (List.mem_of_getElem? (i := 18) rfl)) (fun _ => ?_) (fun _ => wt_go (t := 49) (by decide) (idX6_led (36, .goto 13, 3) (List.mem_of_getElem? (i := 19) rfl)) (step f ah j))
      refine wt_il (i := 2) rfl (idX6_led (39, .iload_n 2, 1) (List.mem_of_getElem? (i := 20) rfl)) rfl ?_
      refine wt_il (i := 1) rfl (idX6_led (40, .iload_n 1, 1) (List.mem_of_getElem? (i := 21) rfl)) rfl ?_
      refine wt_ne (t := 46) (by decide) (idX6_led (41, .if_icmp .ne 5, 3) (List.mem_of_getElem? (i := 22) rfl)) (fun _ => ?_) (fun _ => ?_)
      · refine wt_inc (i := 2) (v := 1) (by decide) (by decide) (idX6_led (46, .iinc 2 1, 3) (List.mem_of_getElem? (i := 25) rfl)) rfl rfl ?_
        exact step f (ah + 1) j
      · refine wt_il (i := 3) rfl (idX6_led (44, .iload_n 3, 1) (List.mem_of_getElem? (i := 23) rfl)) rfl ?_
        exact wt_end (r := some (.int (nI f))) (Or.inl ⟨rfl, _, rfl⟩)
  refine wt_ic (v := 0) (by decide) (idX6_led (0, .iconst 0, 1) (List.mem_of_getElem? (i := 0) rfl)) ?_
  refine wt_is (i := 2) rfl (by decide) (idX6_led (1, .istore_n 2, 1) (List.mem_of_getElem? (i := 1) rfl)) rfl ?_
  refine wt_ic (v := 0) (by decide) (idX6_led (2, .iconst 0, 1) (List.mem_of_getElem? (i := 2) rfl)) ?_
  refine wt_is (i := 3) rfl (by decide) (idX6_led (3, .istore_n 3, 1) (List.mem_of_getElem? (i := 3) rfl)) rfl ?_
  exact loop 0 (Nat.zero_le n) 0
/-- it returned, or threw a new NoSuchElementException; the memory is as it was -/
noncomputable def qT (D : va_G) (g : Nat → ClassId) (ad : Nat → Nat) (A : Nat → Prop) (M : Mm) : Array Value → State → Outcome → State → Prop := fun _ st o t =>
  ((∃ (v : Int32) (L : List Loc), o = .returned (some (.int v)) ∧ st.WarmedH t.vm ∧ st.sameButNew ({ t with vm := st.vm } : State) L 0 0 ∧ ∀ x ∈ L, A x.base) ∨
   (∃ (x : Addr) (ce : Cell) (L : List Loc), o = .threw x ∧ st.WarmedH t.vm ∧ st.sameButNew ({ t with vm := st.vm } : State) L 1 6 ∧ (∀ y ∈ L, A y.base) ∧ t.heap[x]? = some ce ∧ st.vm.findClass NSE = some ce.cls ∧ ce.vm = .none)) ∧ va_P D vwCl (wl g ad M) t.heap ∧ va_F A st t
set_option maxHeartbeats 4000000 in
set_option maxRecDepth 20000 in
theorem led6 (hl0 : l.stackTraces = false) (hI : Iv Pt8 M) (he0 : eO 1 M) (D : va_G) (g : Nat → ClassId) (ad : Nat → Nat) (A : Nat → Prop) : MetFree l uX6_led.1 (headSpec (wz uX6_led) (rz (d + 9) 1 6)) (pz D g ad X A [.ref 1, .int i0] M) (fun _ _ _ _ _ => True) (qT D g ad A M) := by
  refine MetFree.of_bodyS (code := cX6_led) (maxLocals := 4) (ret := some .int) (by decide) ?_ ?_
  · intro args s m h hn
    obtain ⟨meth, c, h1, h2, h3, h4, h5, h6, -, -⟩ := Cond.code_spec hn (atoms_spec (ws := wz uX6_led) h _ List.mem_cons_self)
    exact ⟨meth, c, h1, h2, h3, h4, h5, h6⟩
  · intro p e s m args below meth c s₁ B hml hv _
    obtain ⟨rfl, hP, hD, hA, hk, hn, hs⟩ := hv
    have hx := B.exec
    have hb := B.bytes
    have hlocks := B.notSynchronized
    have hts0 := atoms_spec (ws := wz uX6_led) B.pre
    have hts : ∀ w ∈ wB, w.before (([.ref 1, .int i0] : List Value).map (iv ad)).toArray s = true := fun w hw => hts0 w (List.mem_cons_of_mem _ hw)
    have hown : s.vm.findClass RX6 = some m.cls := findClass_of_methodNamed B.named
    have hhan := B.noHandlers (hts0 _ List.mem_cons_self)
    have hh0 : s₁.heap = s.heap := by rw [B.state]; rfl
    have hfx : fx X uX6_led p s m (([.ref 1, .int i0] : List Value).map (iv ad)).toArray meth c D g ad A := ⟨hx, hb, hml, B.returns, hlocks, hown, (name_of_methodNamed B.named B.method).1, hts, hA, hs⟩
    have hl := lv_entry (([.ref 1, .int i0] : List Value).map (iv ad)) (n := 4) (by rw [sl_len]; exact Nat.le_of_ble_eq_true rfl)
    have key : W p l e (headSpec (wz uX6_led) (rz (d + 9) 1 6)).room s m (([.ref 1, .int i0] : List Value).map (iv ad)).toArray below meth c s.heap [] 0 0 (fun t => ∃ o, t.status = .running ∧ Ended t below o ∧ qT D g ad A M (([.ref 1, .int i0] : List Value).map (iv ad)).toArray s o t) (entryFrame m (([.ref 1, .int i0] : List Value).map (iv ad)).toArray 4) := by
      rw [lg_entry_eq]
      rw [lv_args_iv] at hl
      generalize (lg_sl (([.ref 1, .int i0] : List Value).map (iv ad)) ++ List.replicate (4 - (lg_sl (([.ref 1, .int i0] : List Value).map (iv ad))).length) Slot.unset).toArray = ls at hl ⊢
      refine led_wt (l := l) (X := X) (d := d + 8) (i0 := i0) hI he0 p e (headSpec (wz uX6_led) (rz (d + 9) 1 6)).room s m _ below meth c _ D g ad A s.heap [] ls hfx (Nat.le_refl (d + 9)) (Nat.le_refl (64 * (d + 9))) ⟨hP, hD, va_S.rf, hk, hn⟩ hl (fun pc' r H' locs' la' hE hr hl' => ?_)
      rcases hE with ⟨rfl, v, rfl⟩ | ⟨rfl, rfl⟩
      · intro T hT XT
        have hw := W.iret (p := p) (l := l) (e := e) (R := (headSpec (wz uX6_led) (rz (d + 9) 1 6)).room) (s := s) (m := m) (args := (([.ref 1, .int i0] : List Value).map (iv ad)).toArray) (below := below) (meth := meth) (c := c) (H := H') (locs := locs') (cells := 0) (slots := 0) (ls := la') (v := v) (Qc := fun _ _ o t => o = .returned (some (.int v)) ∧ t.heap = H') (free := A) hx hb B.returns (fun t e1 _ => ⟨rfl, e1⟩) hr.2.2.1.2.2 (idX6_led (45, .ireturn, 1) (List.mem_of_getElem? (i := 24) rfl)) hlocks
        obtain ⟨t, a1, o, b1, b2, ⟨b3, b4⟩, L, ⟨-, b5, b6⟩, b7⟩ := hw T hT XT
        exact ⟨t, a1, o, b1, b2, Or.inl ⟨v, L, b3, b5, b6, b7⟩, by rw [b4]; exact hr.1, hr.2.2.1.F b4⟩
      · intro T hT XT
        have X0 := st_base XT
        have hwm : s.WarmedH T.vm := XT.warmed
        have hwm' : s.WarmedH (T.setFrames (.invoking m (([.ref 1, .int i0] : List Value).map (iv ad)).toArray :: below)).vm := hwm
        have hts' : ∀ w ∈ wB, w.before (([.ref 1, .int i0] : List Value).map (iv ad)).toArray (T.setFrames (.invoking m (([.ref 1, .int i0] : List Value).map (iv ad)).toArray :: below)) = true := fun w hw => word_at hwm' (good_of_word (List.mem_filter.mp hw).2) (hts _ hw)
        have hown' : (T.setFrames (.invoking m (([.ref 1, .int i0] : List Value).map (iv ad)).toArray :: below)).vm.findClass RX6 = some m.cls := by
          show T.vm.findClass RX6 = some m.cls
          rw [hwm.alike.findClass]
          exact hown
        have hs1 : sx D g ad X A s T.heap := sx_kept hs (by rw [hT]; exact hr.2.2.1.1) (fun a h1 h2 => by rw [hT]; exact hr.2.2.1.2.1 a h1 h2)
        have hs' : sx D g ad X A (T.setFrames (.invoking m (([.ref 1, .int i0] : List Value).map (iv ad)).toArray :: below)) T.heap := sx_warm hwm' hs1
        generalize hsp : T.setFrames (.invoking m (([.ref 1, .int i0] : List Value).map (iv ad)).toArray :: below) = sp at X0 hts' hown' hs'
        have ehp : sp.heap = T.heap := by rw [← hsp]; rfl
        have evp : sp.vm = T.vm := by rw [← hsp]; rfl
        have key2 : W p l e (headSpec (wz uX6_led) (rz (d + 9) 1 6)).room sp m (([.ref 1, .int i0] : List Value).map (iv ad)).toArray below meth c sp.heap [] 0 0 (fun U => U.status = .running ∧ Ended U below (.threw sp.heap.size) ∧ sp.WarmedH U.vm ∧ sp.sameButNew ({ U with vm := sp.vm } : State) [] 1 6 ∧ ∃ ce, U.heap[sp.heap.size]? = some ce ∧ sp.vm.findClass NSE = some ce.cls ∧ ce.vm = .none) (F0 m 55 la' []) := by
          obtain ⟨cN, kN, hfN, hkN, -⟩ := Cond.instantiable_spec (hts' _ nsN)
          refine W.newcK (n := 6) hx hb hown' (hts' _ clX6_327) (hts' _ nsN) (hts' _ nsI) rfl (idX6_led (55, .new 327, 3) (List.mem_of_getElem? (i := 28) rfl)) (Nat.le_refl 1) (Nat.le_refl 6) hfN rfl (fun H1 kC hkC e1 z1 o1 => ?_)
          refine lv_dup hx hb (idX6_led (58, .dup, 1) (List.mem_of_getElem? (i := 29) rfl)) rfl ?_
          intro T2 hT2 XT2
          have htr : e.platform.stackTraces = false := by rw [XT2.admits.platform]; exact hl0
          obtain ⟨U, u1, u2, u3, u4, u5, ce, u6, u7⟩ := XT2.ctorThrow0 hx htr (own := RX6) (cls := NSE) (names := ["java/lang/RuntimeException", "java/lang/Exception"]) (ic := 329) hown' (by decide +kernel) (by decide +kernel) (thA_h hts' (by rw [ehp]; exact hs'.2.2.1)) (fun y hy => absurd hy List.not_mem_nil) (a := sp.heap.size) (cX := cN) (kX := kC) hfN hkC (by rw [hT2]; exact e1) (Nat.le_refl _) (g := F0 m 59 la' [.ref sp.heap.size, .ref sp.heap.size]) rfl (hl'.1.trans hml.symm) rfl rfl (rest := []) rfl (by rw [hb]; exact (idX6_led (59, .invokespecial 329, 3) (List.mem_of_getElem? (i := 30) rfl))) (by rw [hb]; exact (idX6_led (62, .athrow, 1) (List.mem_of_getElem? (i := 31) rfl))) (fun y hy => by
            have h0 : c.exceptionTable.size = 0 := by simpa [Array.isEmpty] using hhan
            have h1 : c.exceptionTable.toList = [] := List.eq_nil_of_length_eq_zero (by simpa using h0)
            rw [h1] at hy
            cases hy) (by show 2 + 3 < d + 9; omega) (by
            show 2 * (F0 m 59 la' [.ref sp.heap.size, .ref sp.heap.size]).monitorRoom + 1 + (13 * (2 + 1) + 41) ≤ 64 * (d + 9)
            have hr : 2 * (F0 m 59 la' [.ref sp.heap.size, .ref sp.heap.size]).monitorRoom + (([] : List Value).map fun v => v.category).sum ≤ 8 := lv_room (by decide)
            have hr : 2 * (F0 m 59 la' [.ref sp.heap.size, .ref sp.heap.size]).monitorRoom ≤ 8 := hr
            omega) hlocks
          exact ⟨U, u1, u2, u3, u4, u5, ce, u6, u7.cls, u7.vm⟩
        obtain ⟨U, a1, b1, b2, b3, b4, ce, b5, b6, b7⟩ := key2 T ehp.symm X0
        have hold : ∀ a, a < T.heap.size → U.heap[a]? = T.heap[a]? := fun a ha => by
          have hc0 : sp.heap[a]? = some (T.heap[a]'ha) := by rw [ehp]; exact Array.getElem?_eq_getElem ha
          have z := State.sameButNew.old_cell b4 hc0
          have z : U.heap[a]? = some (T.heap[a]'ha) := z
          rw [z, Array.getElem?_eq_getElem ha]
        have hgrow : T.heap.size ≤ U.heap.size := by
          have z : sp.heap.size ≤ U.heap.size := b4.2.1
          rw [ehp] at z
          exact z
        have hB2 : (T.setVm s.vm).sameButNew ({ U with vm := s.vm } : State) [] 1 6 := by
          have z := b4.setVm s.vm
          obtain ⟨q1, q2, q3, q4, q5, q6⟩ := z
          rw [← hsp] at q1 q2 q3 q4 q5 q6
          refine ⟨?_, q2, q3, q4, q5, q6⟩
          refine q1.trans ?_
          have ef : ((T.setFrames (.invoking m (([.ref 1, .int i0] : List Value).map (iv ad)).toArray :: below)).setVm s.vm).setFrames (({ U with vm := sp.vm } : State).setVm s.vm).frames = (T.setVm s.vm).setFrames (({ U with vm := s.vm } : State)).frames := State.setFrames_setFrames (T.setVm s.vm) _ _
          rw [hsp] at ef ⊢
          rw [ef]
          rfl
        refine ⟨U, a1, .threw sp.heap.size, b1, b2, Or.inr ⟨sp.heap.size, ce, locs' ++ [], rfl, State.WarmedH.trans hwm (by rw [← hsp] at b3; exact b3), XT.same.trans hB2, fun y hy => by
          rw [List.append_nil] at hy
          exact hr.2.2.1.2.2 y hy, b5, by rw [evp, hwm.alike.findClass] at b6; exact b6, b7⟩, ?_, ?_⟩
        · exact hr.1.kept (fun k y hy => by
            rw [← hT]
            exact hold y.1 (by rw [hT]; exact (hr.1 k y hy).lt))
        · refine ⟨Nat.le_trans hr.2.2.1.1 (by rw [← hT]; exact hgrow), fun a h1 h2 => ?_⟩
          rw [hold a (by rw [hT]; exact Nat.lt_of_lt_of_le h1 hr.2.2.1.1), hT]
          exact hr.2.2.1.2.1 a h1 h2
    obtain ⟨t, a1, o, b1, b2, b3⟩ := key s₁ hh0 (Stand.of_body B)
    exact ⟨t, o, a1, b1, b2, b3⟩
end LED
end
section
noncomputable def ilL_led : List (Nat × Instr × Nat) := [(0, .aload_n 2, 1), (1, .iconst 0, 1), (2, .aload_n 0, 1), (3, .iload_n 1, 1), (4, .invokevirtual 7, 3), (7, .i2l, 1), (8, .lastore, 1), (9, .goto 6, 3), (12, .astore_n 3, 1), (13, .iconst 1, 1), (14, .ireturn, 1), (15, .iconst 0, 1), (16, .ireturn, 1)]
theorem idL_led : ∀ x ∈ ilL_led, decode cL_led x.1 = .ok x.2 := sq_ok (B := 0) List.drop_zero (by decide +kernel : sqI cL_led 0 cL_led.data.toList ilL_led = true)
theorem mlL_7 : Cond.methodLink RL 7 yX6_led ∈ wB := wT5 89 rfl (by decide +kernel)
theorem clL_13 : Cond.classLink RL 13 NSE ∈ wB := wT5 88 rfl (by decide +kernel)
theorem imX6_led : Cond.instanceMethod yX6_led ∈ wB := wT5 90 rfl (by decide +kernel)
theorem seX6_led : Cond.selects RX6 yX6_led yX6_led ∈ wB := wT5 91 rfl (by decide +kernel)
theorem coX6_led : Cond.code yX6_led cX6_led 4 (some .int) ∈ wB := wT5 92 rfl (by decide +kernel)
theorem inX6 : Cond.initialized RX6 ∈ wB := wT1 1 rfl (by decide +kernel)
/-- the law's own led: its words -/
noncomputable def wzL : List Cond := .codeWith yL_led cL_led 4 (some .int) [(0, 9, 12, 13)] :: wB
theorem cwL_led : Cond.codeWith yL_led cL_led 4 (some .int) [(0, 9, 12, 13)] ∈ wB := wT5 87 rfl (by decide +kernel)
section CATCH
variable {p : Program} {l : Launch} {e : Env} {R : Room} {s : State} {m : MethodId} {args : Array Value} {below : List Frame} {meth : Method} {c : Code} {T : State} {locs : List Loc} {cells slots : Nat}
/-- a NoSuchElementException comes to the law's own handler -/
theorem ct_catch (Xs : Stand p l e R s m args below meth c T locs cells slots) (hown : s.vm.findClass RL = some m.cls) (hcl : (Cond.classLink RL 13 NSE).before args s = true) (hcast : (Cond.castable NSE NSE).before args s = true) (htab : c.exceptionTable.toList.map (fun h => (h.startPc, h.endPc, h.handlerPc, h.catchType)) = [(0, 9, 12, 13)]) {x : Addr} {ce : Cell} (hce : T.heap[x]? = some ce) (hvm : ce.vm = .none) (hcls : s.vm.findClass NSE = some ce.cls) {g : JFrame} (hg : g.method = m) (hpc : g.pc < 9) :
    ∃ vm', Stand p l e R s m args below meth c (T.setVm vm') locs cells slots ∧ ∀ target, Steps p.tables e below ((T.setVm vm').setTop { g with pc := 12, stack := [.ref x] }) target → Steps p.tables e below ((T.setTop g).pushFrame (.throwing x)) target := by
  have hpl : e.platform.magicAccessors = ({} : Platform).magicAccessors := by rw [Xs.admits.platform]
  obtain ⟨c0, hf0, hlk⟩ := Cond.classLink_spec hown hcl e.platform hpl
  cases hcls.symm.trans hf0
  obtain ⟨hgv, hwarm, -⟩ := State.classEntry (e := e) Xs.warmed hlk
  have hal : T.vm.Alike (T.vm.noted m.cls 13 (.cls ce.cls)) := (Vm.Alike.refl T.vm).noted _ _ _
  have hsz : (T.vm.noted m.cls 13 (.cls ce.cls)).classes.size ≤ T.vm.classes.size := hal.size_le
  generalize T.vm.noted m.cls 13 (.cls ce.cls) = vm' at hgv hwarm hsz
  refine ⟨vm', Xs.noted hwarm, fun target hrest => ?_⟩
  obtain ⟨x0, hx0, hx1⟩ : ∃ x0, c.exceptionTable.toList = [x0] ∧ (x0.startPc = 0 ∧ x0.endPc = 9 ∧ x0.handlerPc = 12 ∧ x0.catchType = 13) := by
    cases hl : c.exceptionTable.toList with
    | nil => rw [hl] at htab; cases htab
    | cons y t =>
      rw [hl] at htab
      cases t with
      | nil => simp only [List.map_cons, List.map_nil, List.cons.injEq, Prod.mk.injEq, and_true] at htab; exact ⟨y, rfl, htab.1, htab.2.1, htab.2.2.1, htab.2.2.2⟩
      | cons z t => simp at htab
  subst hg
  have hm : ((T.setTop g).pushFrame (.throwing x)).vm.method? g.method = some meth := by rw [Stand.throwing_vm]; exact Xs.method'
  have hcell : ((T.setTop g).pushFrame (.throwing x)).heap[x]? = some ce := by rw [Stand.throwing_heap]; exact hce
  obtain ⟨ho1, ho2⟩ := hgv.op (op := VmOp.resolveClass g.method.cls 13) rfl
  obtain ⟨cA, cB, r1, r2, hasg⟩ := Cond.castable_spec hcast
  cases r1.symm.trans hcls
  cases r2.symm.trans hcls
  obtain ⟨k1, hk1⟩ := Vm.classAt_of_findClass hcls
  obtain ⟨k2, hk2, -⟩ := hwarm.alike.2.2 _ _ hk1
  have has2 : vm'.assignable ce.cls ce.cls = true := by rw [hwarm.alike.assignable]; exact hasg
  have hfind : ∀ (Q : Handler → Pre) (E : CtlPost) (dd : Bool) (acts : List Action), wp (findHandler g x) Q E e dd acts ((T.setTop g).pushFrame (.throwing x)) ↔ Q (.found 12) dd acts (((T.setTop g).pushFrame (.throwing x)).setVm vm') := by
    intro Q E dd acts
    rw [W.findHandler_eq hm Xs.code, hx0]
    have hv : ((T.setTop g).pushFrame (.throwing x)).vm = T.vm := Stand.throwing_vm T g x
    have hob : ∀ k, ce.vm ≠ .statics k := fun k z => by rw [hvm] at z; cases z
    have hla := VmOp.lands_eq (op := VmOp.resolveClass g.method.cls 13) (e := e) (s := (T.setTop g).pushFrame (.throwing x)) (vm' := vm') (by rw [hv]; exact ho2) (by rw [hv]; exact hsz)
    rw [← hv] at ho1 ho2
    simp [findHandler.go, hx1.1, hx1.2.1, hx1.2.2.1, hx1.2.2.2, hpc, ho1, ho2, hla, hcell, hob, hk2, has2, VmOp.dirties, VmOp.acts]
  have h : At T g.method c below := Xs.here
  obtain ⟨hgo, hw⟩ := h.throwing x
  refine Steps.head hgo hw ?_
  have hst : (stepThrowing e ((T.setTop g).pushFrame (.throwing x)) x (.java g :: T.frames.tail)).Is ((((T.setTop g).pushFrame (.throwing x)).setVm vm').setFrames (.java { g with pc := 12, stack := [.ref x] } :: T.frames.tail)) [] := by
    simp only [stepThrowing, searchFrame, vmDo]
    generalize hr : Sem.go _ e false [] ((T.setTop g).pushFrame (.throwing x)) = res
    obtain ⟨as, rfl, ha⟩ := Sem.eq_ok_of hr (a := Handler.found 12) (s' := ((T.setTop g).pushFrame (.throwing x)).setVm vm') (acts' := []) (by simp [hfind _ _ _ _])
    exact ⟨rfl, ha⟩
  rw [stepThread_throwing (frames_entered h.top _), hst.1]
  obtain ⟨g₀, hg0⟩ := Option.isSome_iff_exists.mp h.top
  obtain ⟨r, hr⟩ := State.topJava?_eq_some.mp hg0
  have hr' : (T.setVm vm').frames = .java g₀ :: r := hr
  rw [State.setTop_of_frames _ hr'] at hrest
  have e1 : ∀ (u : State) (F G : List Frame), ((u.setFrames F).setVm vm').setFrames G = (u.setVm vm').setFrames G := fun u F G => by
    show ((u.setVm vm').setFrames F).setFrames G = _
    rw [State.setFrames_setFrames]
  rw [hr, List.tail_cons, State.pushFrame, e1, State.setTop_of_frames _ hr, e1]
  exact hrest
end CATCH
end
section
/-! the law's led: it catches the throw of the class's led -/
section LLED
variable {l : Launch} {X : Nat × (Nat → Int32)} {d : Nat} {M : Mm} {i0 : Int32} {kr : KR}
noncomputable def uLl : Md := (yL_led, cL_led, 4, some .int)
/-- a cell more has been made, of six slots at the most -/
noncomputable def gw (M : Mm) : Mm := ((mN M, mC M + 1, mS M + 6, M.1.2.2.2), M.2)
theorem wl_gw {g : Nat → ClassId} {ad : Nat → Nat} {M : Mm} : wl g ad (gw M) = wl g ad M := rfl
theorem lled_tail {na : Bool} {b : Nat × Nat} {v : Int32} (h10 : kk M 167 10 = true) (hlen : 0 < (mK M 167).2) (h : ∀ w : Int64, kr (some (.int 0)) (wL M 167 0 w)) : Wf l X uLl d na b 7 [] [.int v, .int 0, .ref 167] M kr := by
  refine OK.go (ok_i2l (idL_led (7, .i2l, 1) (List.mem_of_getElem? (i := 5) rfl))) ?_
  show Wf l X uLl d na b 8 [] [.long v.toInt64, .int 0, .ref 167] M kr
  refine OK.go (ok_lastore (idL_led (8, .lastore, 1) (List.mem_of_getElem? (i := 6) rfl))) ?_
  simp only [oLas, h10, cond_true]
  refine ⟨0, ⟨nI_0.symm, by decide, hlen⟩, ?_⟩
  show Wf l X uLl d na b 9 [] [] (wL M 167 0 v.toInt64) kr
  refine OK.go (ok_goto (t := 15) (by decide) (idL_led (9, .goto 6, 3) (List.mem_of_getElem? (i := 7) rfl))) ?_
  show Wf l X uLl d na b 15 [] [] (wL M 167 0 v.toInt64) kr
  refine OK.go (ok_iconst (v := 0) (by decide) (idL_led (15, .iconst 0, 1) (List.mem_of_getElem? (i := 11) rfl))) ?_
  show Wf l X uLl d na b 16 [] [.int 0] (wL M 167 0 v.toInt64) kr
  exact OK.go (ok_ir rfl (idL_led (16, .ireturn, 1) (List.mem_of_getElem? (i := 12) rfl))) (h _)
set_option maxHeartbeats 4000000 in
set_option maxRecDepth 20000 in
theorem ledL (hl0 : l.stackTraces = false) (hI : Iv Pt8 M) (he0 : eO 1 M) (h0 : ∀ w : Int64, kr (some (.int 0)) (gw (wL M 167 0 w))) (h1 : kr (some (.int 1)) (gw M)) (D : va_G) (g : Nat → ClassId) (ad : Nat → Nat) (A : Nat → Prop) : Met l yL_led wzL (rz (d + 10) 1 6) (pz D g ad X A [.ref 1, .int i0, .ref 167] M) (qz D g ad A false M kr) 1 6 A := by
  refine va_MetW (cc := cL_led) (maxL := 4) (ret := some .int) (hh := [(0, 9, 12, 13)]) (by decide) rfl ?_
  intro p e s m args below meth c s₁ B hml hv
  obtain ⟨rfl, hP, hD, hA, hk, hn, hs⟩ := hv
  have hx := B.exec
  have hb := B.bytes
  have hlocks := B.notSynchronized
  have hts0 := atoms_spec (ws := wzL) B.pre
  have hts : ∀ w ∈ wB, w.before (([.ref 1, .int i0, .ref 167] : List Value).map (iv ad)).toArray s = true := fun w hw => hts0 w (List.mem_cons_of_mem _ hw)
  have hown : s.vm.findClass RL = some m.cls := findClass_of_methodNamed B.named
  have htab : c.exceptionTable.toList.map (fun h => (h.startPc, h.endPc, h.handlerPc, h.catchType)) = [(0, 9, 12, 13)] := by
    obtain ⟨m9, meth9, c9, hn9, g1, g2, g3, g4, g5, -⟩ := Cond.codeWith_spec (hts0 _ List.mem_cons_self)
    cases B.named.symm.trans hn9
    cases B.method.symm.trans g1
    cases (Stand.of_body B).code.symm.trans g2
    exact g5
  have hK := hs.1
  have k1 : kk M 1 6 = true := kk_ok hI rfl
  have k167 : kk M 167 10 = true := kk_ok hI rfl
  have hlen : 0 < (mK M 167).2 := by rw [hI.2.1 167 (by decide)]; decide
  obtain ⟨a0, a1, a2⟩ := kk_of k1
  have hfx : fx X uLl p s m (([.ref 1, .int i0, .ref 167] : List Value).map (iv ad)).toArray meth c D g ad A := ⟨hx, hb, hml, B.returns, hlocks, hown, (name_of_methodNamed B.named B.method).1, hts, hA, hs⟩
  have hl := lv_entry ([.ref (ad 1), .int i0, .ref (ad 167)]) (n := 4) (Nat.le_of_ble_eq_true rfl)
  show W p l e (headSpec wzL (rz (d + 10) 1 6)).room s m (([.ref 1, .int i0, .ref 167] : List Value).map (iv ad)).toArray below meth c s.heap [] 0 0 (MQ below (qz D g ad A false M kr) (([.ref 1, .int i0, .ref 167] : List Value).map (iv ad)).toArray s 1 6 A) (entryFrame m ([.ref (ad 1), .int i0, .ref (ad 167)] : List Value).toArray 4)
  rw [lg_entry_eq]
  generalize (lg_sl ([.ref (ad 1), .int i0, .ref (ad 167)]) ++ List.replicate (4 - (lg_sl ([.ref (ad 1), .int i0, .ref (ad 167)])).length) Slot.unset).toArray = ls at hl ⊢
  have hl : lv_has ls 4 [(0, .ref (ad 1)), (1, .int i0), (2, .ref (ad 167))] := hl
  refine lv_aload_n hx hb (idL_led (0, .aload_n 2, 1) (List.mem_of_getElem? (i := 0) rfl)) rfl (lv_at hl 2 rfl) ?_
  refine lv_iconst (v := 0) hx hb (idL_led (1, .iconst 0, 1) (List.mem_of_getElem? (i := 1) rfl)) (by decide) ?_
  refine lv_aload_n hx hb (idL_led (2, .aload_n 0, 1) (List.mem_of_getElem? (i := 2) rfl)) rfl (lv_at hl 0 rfl) ?_
  refine lv_iload_n hx hb (idL_led (3, .iload_n 1, 1) (List.mem_of_getElem? (i := 3) rfl)) rfl (lv_at hl 1 rfl) ?_
  intro T hT XT
  -- the call
  have he1 := wl_at (g := g) (ad := ad) a0 a1
  rw [en_o (c := 6) a2 (by decide)] at he1
  obtain ⟨cellB, hcB, hoB, hclB⟩ := va_recv hK hP (show vwCl[6]? = some (RX6, TX6, 14) from rfl) he1
  obtain ⟨mk', methM, hnamed, hmethM, hstM, habM⟩ := Cond.instanceMethod_spec (hts _ imX6_led)
  obtain ⟨methM', cM, hmethM', hcM, -, hlM, -, -, -, hsigM⟩ := Cond.code_spec hnamed (hts _ coX6_led)
  cases hmethM.symm.trans hmethM'
  obtain ⟨c2, r2, m2, q1, q2, q3, q4, kP, hkP, hkPi⟩ := Cond.selects_spec (hts _ seX6_led)
  cases hclB.symm.trans q1
  cases (State.methodFound?_of_named hnamed (by decide)).symm.trans q2
  cases hnamed.symm.trans q3
  have hselP : selectMethod e.platform s.vm cellB.cls mk' = .method mk' := by rw [Launch.admits_selectMethod XT.admits]; exact q4
  have hsg : ∀ sig, parseMethodDescriptor yX6_led.desc = some sig → [Value.int i0].length = sig.parameters.length := fun sig hsig => by
    have hd : (parseMethodDescriptor yX6_led.desc).map (fun d => d.parameters.length) = some 1 := by decide +kernel
    rw [hsig] at hd
    exact (Option.some.inj hd).symm
  have hd4 : decode c.code 4 = .ok (.invokevirtual 7, 3) := by rw [hb]; exact (idL_led (4, .invokevirtual 7, 3) (List.mem_of_getElem? (i := 4) rfl))
  obtain ⟨vm₁, X₁, hstep₁⟩ := XT.invokevirtual hx hown (hts _ mlL_7) hnamed hmethM hstM hkP hkPi (by decide) (a := ad 1) (cell := cellB) (by rw [hT]; exact hcB) (fun z hz => by rw [hz] at hoB; cases hoB) hselP hmethM habM hkP hkPi (g := F0 m 4 ls [.int i0, .ref (ad 1), .int 0, .ref (ad 167)]) rfl (argsL := [.int i0]) (rest := [.int 0, .ref (ad 167)]) (hsg _ hsigM) rfl hd4
  have hw1 : s.WarmedH (T.setVm vm₁).vm := X₁.warmed
  have hpre : (headSpec (wz uX6_led) (rz (d + 9) 1 6)).pre.before (([.ref 1, .int i0] : List Value).map (iv ad)).toArray (T.setVm vm₁) = true := atoms_intro fun w hw => by
    rcases List.mem_cons.mp hw with rfl | hw
    · exact word_at hw1 (good_of_word (List.mem_filter.mp coX6_led).2) (hts _ coX6_led)
    · exact word_at hw1 (good_of_word (List.mem_filter.mp hw).2) (hts _ hw)
  have hn1 : (T.setVm vm₁).methodNamed? yX6_led = some mk' := X₁.named hnamed
  obtain ⟨kY, hkY, -⟩ := className_of_methodNamed hn1
  have hcode1 : (Cond.code yX6_led cX6_led 4 (some .int)).before (([.ref 1, .int i0] : List Value).map (iv ad)).toArray (T.setVm vm₁) = true := word_at hw1 (good_of_word (List.mem_filter.mp coX6_led).2) (hts _ coX6_led)
  have hini1 : (Cond.initialized RX6).before (([.ref 1, .int i0] : List Value).map (iv ad)).toArray (T.setVm vm₁) = true := word_at hw1 (good_of_word (List.mem_filter.mp inX6).2) (hts _ inX6)
  obtain ⟨methY, cY, hmY, hcY, -, hlY, -, -, -, -⟩ := Cond.code_spec hn1 hcode1
  have hinitY : kY.init = .initialized := Cond.initialized_spec (findClass_of_methodNamed hn1) hkY hini1
  have hAt : At (T.setVm vm₁) m c below := X₁.here
  have hr8 : 2 * (F0 m 4 ls [.int 0, .ref (ad 167)]).monitorRoom + (([.int 0, .ref (ad 167)] : List Value).map fun v => v.category).sum ≤ 8 := lv_room (Nat.le_of_ble_eq_true rfl)
  have happ : (headSpec (wz uX6_led) (rz (d + 9) 1 6)).appliesLoose yX6_led e.platform ((T.setVm vm₁).calling (F0 m 4 ls [.int 0, .ref (ad 167)]) mk' (([.ref 1, .int i0] : List Value).map (iv ad)).toArray) = true :=
    Spec.appliesLoose_calling (g := F0 m 4 ls [.int 0, .ref (ad 167)]) hAt hd4 hn1 hkY hinitY
      (X₁.room_calling (g := F0 m 4 ls [.int 0, .ref (ad 167)]) (R' := (headSpec (wz uX6_led) (rz (d + 9) 1 6)).room) (hl.1.trans hml.symm) hmY hcY (by show d + 9 + 1 ≤ d + 10; omega) (by rw [hlY]; show 2 * (F0 m 4 ls [.int 0, .ref (ad 167)]).monitorRoom + (([.int 0, .ref (ad 167)] : List Value).map fun v => v.category).sum + (4 + 11) + 64 * (d + 9) ≤ 64 * (d + 10); omega) (Nat.le_refl _) (Nat.le_refl _)) hpre
  obtain ⟨mid, hmid⟩ := hAt.above
  have hfr : ((T.setVm vm₁).setTop (F0 m 4 ls [.int 0, .ref (ad 167)])).frames = (.java (F0 m 4 ls [.int 0, .ref (ad 167)]) :: mid) ++ below := by rw [State.frames_setTop' _ hAt.top, hmid]; rfl
  have hpz := pz_pre (av := [.ref 1, .int i0]) (X := X) hP hD hA hk hn hs
  obtain ⟨o, s₂, hsteps, -, hend, hq⟩ := Steps.callFree (led6 (X := X) (i0 := i0) (d := d) hl0 hI he0 D g ad A) p XT.admits XT.cas XT.clock (acts := []) hfr happ (hpz.1 _ _ (F0 m 4 ls [.int 0, .ref (ad 167)]) mk' (hpz.2 (T.setVm vm₁) hT hw1)) trivial
  obtain ⟨hq, hP2, hF2⟩ := hq
  have hF3 : s.heap.size ≤ s₂.heap.size ∧ ∀ q : Nat, q < s.heap.size → ¬ A q → s₂.heap[q]? = s.heap[q]? := by
    have z : T.heap.size ≤ s₂.heap.size ∧ ∀ q : Nat, q < T.heap.size → ¬ A q → s₂.heap[q]? = T.heap[q]? := hF2
    rw [hT] at z
    exact z
  rcases hq with ⟨v, L, rfl, hW2, hsame, hL⟩ | ⟨x, ce, L, rfl, hW2, hsame, hL, hce, hcls, hvm⟩
  · have hend : Ended s₂ (.java (F0 m 4 ls [.int 0, .ref (ad 167)]) :: below) (.returned (some (.int v))) := by
      have z := hend
      rw [State.frames_setTop' _ hAt.top, X₁.tail] at z
      exact z
    obtain ⟨T', X', hWT, hsT, hs2⟩ := X₁.outOf (g := F0 m 4 ls [.int 0, .ref (ad 167)]) rfl hd4 hend hW2 hsame
    have hheap : s₂.heap = T'.heap := by rw [hs2]; rfl
    rw [hheap] at hP2 hF3
    have hS' : va_S A s.heap T'.heap ([] ++ L) := ⟨hF3.1, hF3.2, fun y hy => hL y hy⟩
    have hw7 : W p l e (headSpec wzL (rz (d + 10) 1 6)).room s m (([.ref 1, .int i0, .ref 167] : List Value).map (iv ad)).toArray below meth c T'.heap ([] ++ L) (mC M - mC M) (mS M - mS M) (MQ below (qz D g ad A false M kr) (([.ref 1, .int i0, .ref 167] : List Value).map (iv ad)).toArray s 1 6 A) (F0 m 7 ls (([.int v, .int 0, .ref 167] : List Value).map (iv ad))) := by
      refine lled_tail (l := l) (X := X) (d := d + 10) (na := true) (b := (mC M, mS M)) (kr := fun r M' => r = some (.int 0) ∧ ∃ w : Int64, M' = wL M 167 0 w) k167 hlen (fun w => ⟨rfl, w, rfl⟩) p e (headSpec wzL (rz (d + 10) 1 6)).room s m _ below meth c _ D g ad A (mN M) M.1 (mC M) (mS M) ad T'.heap ([] ++ L) ls hfx (Nat.le_refl (d + 10)) (Nat.le_refl (64 * (d + 10))) (Nat.le_add_left _ _) (Nat.le_add_left _ _) (Nat.le_refl _) (Nat.le_refl _) (Nat.le_refl _) (Nat.le_refl _) ⟨hP2, hD, hS', hk, Nat.le_refl _, hn, fun _ _ => rfl, fun _ => ⟨rfl, rfl⟩⟩ ⟨hl.1, hl.2.1, fun y hy => absurd hy List.not_mem_nil⟩ (fun pc' r M' ad' H' locs' la' hkr hr g5 g6 g7 g8 ht => ?_)
      obtain ⟨rfl, w, rfl⟩ := hkr
      obtain ⟨r1, r2, r3, r4, r5, r6, r7, r8⟩ := hr
      obtain ⟨rfl, -⟩ := r8 rfl
      rcases ht with ⟨v', ty, e0, e1, e2, e3⟩ | ⟨v', e0, -⟩ | ⟨e0, -⟩
      · have w3 : mC (wL M 167 0 w) = mC M := rfl
        have w4 : mS (wL M 167 0 w) = mS M := rfl
        refine W.widen (k := 1) (n := 6) (by omega) (by omega) ?_
        cases e0
        refine W.zret (ty := ty) hx hb (B.returns.trans e1) e2 (fun t e1 _ => ?_) r3.2.2 e3 hlocks
        exact ⟨some (.int 0), gw (wL M 167 0 w), ad', rfl, h0 w, fun z => (by cases z), fun _ _ => rfl, Nat.le_refl _, hn, r4, by rw [e1, wl_gw]; exact r1, r2, r3.F e1⟩
      · cases e0
      · cases e0
    rw [Nat.sub_self, Nat.sub_self] at hw7
    obtain ⟨t2, b1, b2⟩ := hw7 T' rfl X'
    refine ⟨t2, hstep₁ t2 (fun acts => ?_), b2⟩
    rw [doInvoke_state]
    rw [hs2] at hsteps
    have ei : ([.int v, .int 0, .ref 167] : List Value).map (iv ad) = [.int v, .int 0, .ref (ad 167)] := rfl
    rw [ei] at b1
    exact hsteps.trans b1
  · have hend : Ended s₂ (.java (F0 m 4 ls [.int 0, .ref (ad 167)]) :: below) (.threw x) := by
      have z := hend
      rw [State.frames_setTop' _ hAt.top, X₁.tail] at z
      exact z
    obtain ⟨T', X', hWT, hsT, hs2⟩ := X₁.outOfThrown (g := F0 m 4 ls [.int 0, .ref (ad 167)]) rfl hend hW2 hsame
    have hheap : T'.heap = s₂.heap := by rw [hs2, Stand.throwing_heap]
    have hfx2 : s.vm.findClass NSE = some ce.cls := by
      have z : (T.setVm vm₁).vm.findClass NSE = some ce.cls := hcls
      rw [hw1.alike.findClass] at z
      exact z
    obtain ⟨vm', X'', hcatch⟩ := ct_catch X' hown (hts _ clL_13) (va_Nw.use rfl hs.2.2.1.2.2.2.1) htab (by rw [hheap]; exact hce) hvm hfx2 (g := F0 m 4 ls [.int 0, .ref (ad 167)]) rfl (show 4 < 9 by decide)
    rw [← hheap] at hP2 hF3
    have hS' : va_S A s.heap T'.heap ([] ++ L) := ⟨hF3.1, hF3.2, fun y hy => hL y hy⟩
    have hend12 : W p l e (headSpec wzL (rz (d + 10) 1 6)).room s m (([.ref 1, .int i0, .ref 167] : List Value).map (iv ad)).toArray below meth c T'.heap ([] ++ L) (0 + 1) (0 + 6) (MQ below (qz D g ad A false M kr) (([.ref 1, .int i0, .ref 167] : List Value).map (iv ad)).toArray s 1 6 A) (F0 m 12 ls [.ref x]) := by
      refine lv_astore_n (lv' := [(3, .ref x), (0, .ref (ad 1)), (1, .int i0), (2, .ref (ad 167))]) hx hb (idL_led (12, .astore_n 3, 1) (List.mem_of_getElem? (i := 8) rfl)) rfl hl (by decide) rfl (fun ls hl => ?_)
      refine lv_iconst (v := 1) hx hb (idL_led (13, .iconst 1, 1) (List.mem_of_getElem? (i := 9) rfl)) (by decide) ?_
      refine W.zret (ty := .int) hx hb B.returns rfl (fun t e1 _ => ?_) hS'.2.2 (idL_led (14, .ireturn, 1) (List.mem_of_getElem? (i := 10) rfl)) hlocks
      exact ⟨some (.int 1), gw M, ad, rfl, h1, fun z => (by cases z), fun _ _ => rfl, Nat.le_refl _, hn, hk, by rw [e1, wl_gw]; exact hP2, hD, hS'.F e1⟩
    obtain ⟨t2, b1, b2⟩ := hend12 (T'.setVm vm') rfl X''
    refine ⟨t2, hstep₁ t2 (fun acts => ?_), b2⟩
    rw [doInvoke_state]
    rw [hs2] at hsteps
    exact hsteps.trans (hcatch t2 b1)
end LLED
end
section
noncomputable def uL : Md := (yL_law, cL_law, 7, some .boolean)
theorem mlL_15 : Cond.methodLink RL 15 yX6_init ∈ wB := wT1 22 rfl (by decide +kernel)
theorem mlL_18 : Cond.methodLink RL 18 yX7_init ∈ wB := wT5 156 rfl (by decide +kernel)
theorem mlL_19 : Cond.methodLink RL 19 yX6_feed ∈ wB := wT2 118 rfl (by decide +kernel)
theorem mlL_23 : Cond.methodLink RL 23 yX7_feed ∈ wB := wT6 53 rfl (by decide +kernel)
theorem mlL_24 : Cond.methodLink RL 24 yX6_close ∈ wB := wT2 126 rfl (by decide +kernel)
theorem mlL_27 : Cond.methodLink RL 27 yX7_close ∈ wB := wT6 57 rfl (by decide +kernel)
theorem mlL_28 : Cond.methodLink RL 28 yX6_fault ∈ wB := wT3 99 rfl (by decide +kernel)
theorem mlL_32 : Cond.methodLink RL 32 yX7_fault ∈ wB := wT6 207 rfl (by decide +kernel)
theorem mlL_33 : Cond.methodLink RL 33 yX6_where ∈ wB := wT3 103 rfl (by decide +kernel)
theorem mlL_36 : Cond.methodLink RL 36 yX7_where ∈ wB := wT6 211 rfl (by decide +kernel)
theorem mlL_37 : Cond.methodLink RL 37 yX6_face ∈ wB := wT3 107 rfl (by decide +kernel)
theorem mlL_41 : Cond.methodLink RL 41 yX7_face ∈ wB := wT6 215 rfl (by decide +kernel)
theorem mlL_42 : Cond.methodLink RL 42 yX6_canon ∈ wB := wT3 123 rfl (by decide +kernel)
theorem mlL_45 : Cond.methodLink RL 45 yX7_canon ∈ wB := wT6 227 rfl (by decide +kernel)
theorem mlL_46 : Cond.methodLink RL 46 yX6_cell ∈ wB := wT3 131 rfl (by decide +kernel)
theorem mlL_49 : Cond.methodLink RL 49 yX7_cell ∈ wB := wT6 235 rfl (by decide +kernel)
theorem mlL_50 : Cond.methodLink RL 50 yX6_burden ∈ wB := wT3 151 rfl (by decide +kernel)
theorem mlL_53 : Cond.methodLink RL 53 yX7_burden ∈ wB := wT7 23 rfl (by decide +kernel)
theorem mlL_54 : Cond.methodLink RL 54 yX6_bears ∈ wB := wT3 159 rfl (by decide +kernel)
theorem mlL_57 : Cond.methodLink RL 57 yX7_bears ∈ wB := wT7 27 rfl (by decide +kernel)
theorem mlL_58 : Cond.methodLink RL 58 yX6_holds ∈ wB := wT3 192 rfl (by decide +kernel)
theorem mlL_61 : Cond.methodLink RL 61 yX7_holds ∈ wB := wT7 55 rfl (by decide +kernel)
theorem mlL_62 : Cond.methodLink RL 62 yX6_drops ∈ wB := wT3 196 rfl (by decide +kernel)
theorem mlL_65 : Cond.methodLink RL 65 yX7_drops ∈ wB := wT7 59 rfl (by decide +kernel)
theorem mlL_66 : Cond.methodLink RL 66 yX6_dropsIn ∈ wB := wT3 200 rfl (by decide +kernel)
theorem mlL_69 : Cond.methodLink RL 69 yX7_dropsIn ∈ wB := wT7 63 rfl (by decide +kernel)
theorem mlL_70 : Cond.methodLink RL 70 yX6_fallsIn ∈ wB := wT3 208 rfl (by decide +kernel)
theorem mlL_73 : Cond.methodLink RL 73 yX7_fallsIn ∈ wB := wT7 67 rfl (by decide +kernel)
theorem mlL_74 : Cond.methodLink RL 74 yX6_wet ∈ wB := wT3 213 rfl (by decide +kernel)
theorem mlL_77 : Cond.methodLink RL 77 yX7_wet ∈ wB := wT7 71 rfl (by decide +kernel)
theorem mlL_78 : Cond.methodLink RL 78 yX6_wetDays ∈ wB := wT3 225 rfl (by decide +kernel)
theorem mlL_81 : Cond.methodLink RL 81 yX7_wetDays ∈ wB := wT7 75 rfl (by decide +kernel)
theorem mlL_82 : Cond.methodLink RL 82 yX6_wettest ∈ wB := wT3 233 rfl (by decide +kernel)
theorem mlL_85 : Cond.methodLink RL 85 yX7_wettest ∈ wB := wT7 83 rfl (by decide +kernel)
theorem mlL_86 : Cond.methodLink RL 86 yX6_sunny ∈ wB := wT3 237 rfl (by decide +kernel)
theorem mlL_89 : Cond.methodLink RL 89 yX7_sunny ∈ wB := wT7 87 rfl (by decide +kernel)
theorem mlL_90 : Cond.methodLink RL 90 yX6_heaviest ∈ wB := wT4 1 rfl (by decide +kernel)
theorem mlL_93 : Cond.methodLink RL 93 yX7_heaviest ∈ wB := wT7 91 rfl (by decide +kernel)
theorem mlL_94 : Cond.methodLink RL 94 yX6_fallen ∈ wB := wT4 8 rfl (by decide +kernel)
theorem mlL_97 : Cond.methodLink RL 97 yX7_fallen ∈ wB := wT7 95 rfl (by decide +kernel)
theorem mlL_98 : Cond.methodLink RL 98 yX6_dropsIf ∈ wB := wT4 12 rfl (by decide +kernel)
theorem mlL_102 : Cond.methodLink RL 102 yX7_dropsIf ∈ wB := wT7 103 rfl (by decide +kernel)
theorem mlL_103 : Cond.methodLink RL 103 yX6_faceFor ∈ wB := wT4 28 rfl (by decide +kernel)
theorem mlL_106 : Cond.methodLink RL 106 yX7_faceFor ∈ wB := wT7 130 rfl (by decide +kernel)
theorem mlL_107 : Cond.methodLink RL 107 yX6_match ∈ wB := wT4 32 rfl (by decide +kernel)
theorem mlL_110 : Cond.methodLink RL 110 yX7_match ∈ wB := wT7 138 rfl (by decide +kernel)
theorem mlL_111 : Cond.methodLink RL 111 yX6_matchDrops ∈ wB := wT4 66 rfl (by decide +kernel)
theorem mlL_114 : Cond.methodLink RL 114 yX7_matchDrops ∈ wB := wT7 150 rfl (by decide +kernel)
theorem mlL_115 : Cond.methodLink RL 115 yX6_matchAt ∈ wB := wT4 70 rfl (by decide +kernel)
theorem mlL_118 : Cond.methodLink RL 118 yX7_matchAt ∈ wB := wT7 154 rfl (by decide +kernel)
theorem mlL_119 : Cond.methodLink RL 119 yX6_steps ∈ wB := wT4 74 rfl (by decide +kernel)
theorem mlL_122 : Cond.methodLink RL 122 yX7_steps ∈ wB := wT7 158 rfl (by decide +kernel)
theorem mlL_123 : Cond.methodLink RL 123 yX6_wets ∈ wB := wT4 83 rfl (by decide +kernel)
theorem mlL_126 : Cond.methodLink RL 126 yX7_wets ∈ wB := wT7 175 rfl (by decide +kernel)
theorem mlL_127 : Cond.methodLink RL 127 yX6_way ∈ wB := wT4 121 rfl (by decide +kernel)
theorem mlL_130 : Cond.methodLink RL 130 yX7_way ∈ wB := wT7 187 rfl (by decide +kernel)
theorem mlL_131 : Cond.methodLink RL 131 yX6_wayAt ∈ wB := wT4 125 rfl (by decide +kernel)
theorem mlL_134 : Cond.methodLink RL 134 yX7_wayAt ∈ wB := wT7 191 rfl (by decide +kernel)
theorem mlL_135 : Cond.methodLink RL 135 yX6_dryDay ∈ wB := wT4 137 rfl (by decide +kernel)
theorem mlL_138 : Cond.methodLink RL 138 yX7_dryDay ∈ wB := wT7 195 rfl (by decide +kernel)
theorem mlL_139 : Cond.methodLink RL 139 yX6_gate ∈ wB := wT4 141 rfl (by decide +kernel)
theorem mlL_142 : Cond.methodLink RL 142 yX7_gate ∈ wB := wT7 199 rfl (by decide +kernel)
theorem mlL_143 : Cond.methodLink RL 143 yX6_fits ∈ wB := wT4 149 rfl (by decide +kernel)
theorem mlL_146 : Cond.methodLink RL 146 yX7_fits ∈ wB := wT7 207 rfl (by decide +kernel)
theorem mlL_147 : Cond.methodLink RL 147 yX6_fitAt ∈ wB := wT4 172 rfl (by decide +kernel)
theorem mlL_150 : Cond.methodLink RL 150 yX7_fitAt ∈ wB := wT7 219 rfl (by decide +kernel)
theorem mlL_151 : Cond.methodLink RL 151 yX6_could ∈ wB := wT4 176 rfl (by decide +kernel)
theorem mlL_154 : Cond.methodLink RL 154 yX7_could ∈ wB := wT7 223 rfl (by decide +kernel)
theorem mlL_155 : Cond.methodLink RL 155 yX6_surely ∈ wB := wT4 183 rfl (by decide +kernel)
theorem mlL_158 : Cond.methodLink RL 158 yX7_surely ∈ wB := wT7 227 rfl (by decide +kernel)
theorem mlL_159 : Cond.methodLink RL 159 yX6_ask ∈ wB := wT4 187 rfl (by decide +kernel)
theorem mlL_162 : Cond.methodLink RL 162 yX7_ask ∈ wB := wT7 231 rfl (by decide +kernel)
theorem mlL_163 : Cond.methodLink RL 163 yX6_askLeaves ∈ wB := wT4 198 rfl (by decide +kernel)
theorem mlL_166 : Cond.methodLink RL 166 yX7_askLeaves ∈ wB := wT8 3 rfl (by decide +kernel)
theorem mlL_167 : Cond.methodLink RL 167 yX6_judge ∈ wB := wT4 202 rfl (by decide +kernel)
theorem mlL_170 : Cond.methodLink RL 170 yX7_judge ∈ wB := wT8 7 rfl (by decide +kernel)
theorem mlL_171 : Cond.methodLink RL 171 yX6_sulks ∈ wB := wT4 206 rfl (by decide +kernel)
theorem mlL_175 : Cond.methodLink RL 175 yX7_sulks ∈ wB := wT8 11 rfl (by decide +kernel)
theorem mlL_176 : Cond.methodLink RL 176 yX6_rests ∈ wB := wT4 217 rfl (by decide +kernel)
theorem mlL_179 : Cond.methodLink RL 179 yX7_rests ∈ wB := wT8 21 rfl (by decide +kernel)
theorem mlL_180 : Cond.methodLink RL 180 yX6_rest ∈ wB := wT4 224 rfl (by decide +kernel)
theorem mlL_183 : Cond.methodLink RL 183 yX7_rest ∈ wB := wT8 29 rfl (by decide +kernel)
theorem mlL_184 : Cond.methodLink RL 184 yX6_odds ∈ wB := wT4 228 rfl (by decide +kernel)
theorem mlL_188 : Cond.methodLink RL 188 yX7_odds ∈ wB := wT8 33 rfl (by decide +kernel)
theorem mlL_189 : Cond.methodLink RL 189 yX6_mean ∈ wB := wT5 8 rfl (by decide +kernel)
theorem mlL_192 : Cond.methodLink RL 192 yX7_mean ∈ wB := wT8 44 rfl (by decide +kernel)
theorem mlL_193 : Cond.methodLink RL 193 yX6_borne ∈ wB := wT5 12 rfl (by decide +kernel)
theorem mlL_196 : Cond.methodLink RL 196 yX7_borne ∈ wB := wT8 48 rfl (by decide +kernel)
theorem mlL_197 : Cond.methodLink RL 197 yX6_firstWet ∈ wB := wT5 27 rfl (by decide +kernel)
theorem mlL_200 : Cond.methodLink RL 200 yX7_firstWet ∈ wB := wT8 58 rfl (by decide +kernel)
theorem mlL_201 : Cond.methodLink RL 201 yX6_day ∈ wB := wT5 35 rfl (by decide +kernel)
theorem mlL_204 : Cond.methodLink RL 204 yX7_day ∈ wB := wT8 62 rfl (by decide +kernel)
theorem mlL_205 : Cond.methodLink RL 205 yX6_give ∈ wB := wT5 48 rfl (by decide +kernel)
theorem mlL_208 : Cond.methodLink RL 208 yX7_give ∈ wB := wT8 70 rfl (by decide +kernel)
theorem mlL_209 : Cond.methodLink RL 209 yX6_mend ∈ wB := wT5 52 rfl (by decide +kernel)
theorem mlL_213 : Cond.methodLink RL 213 yX7_mend ∈ wB := wT8 74 rfl (by decide +kernel)
theorem mlL_214 : Cond.methodLink RL 214 yX6_vex ∈ wB := wT5 56 rfl (by decide +kernel)
theorem mlL_217 : Cond.methodLink RL 217 yX7_vex ∈ wB := wT8 82 rfl (by decide +kernel)
theorem mlL_218 : Cond.methodLink RL 218 yX6_undo ∈ wB := wT5 60 rfl (by decide +kernel)
theorem mlL_222 : Cond.methodLink RL 222 yX7_undo ∈ wB := wT8 86 rfl (by decide +kernel)
theorem mlL_223 : Cond.methodLink RL 223 yX6_image ∈ wB := wT5 64 rfl (by decide +kernel)
theorem mlL_226 : Cond.methodLink RL 226 yX7_image ∈ wB := wT8 90 rfl (by decide +kernel)
theorem mlL_227 : Cond.methodLink RL 227 yX6_back ∈ wB := wT5 68 rfl (by decide +kernel)
theorem mlL_230 : Cond.methodLink RL 230 yX7_back ∈ wB := wT8 94 rfl (by decide +kernel)
theorem mlL_236 : Cond.methodLink RL 236 yX7_led ∈ wB := wT8 98 rfl (by decide +kernel)
theorem mlL_237 : Cond.methodLink RL 237 yX6_size ∈ wB := wT5 72 rfl (by decide +kernel)
theorem mlL_240 : Cond.methodLink RL 240 yX7_size ∈ wB := wT8 102 rfl (by decide +kernel)
theorem mlL_241 : Cond.methodLink RL 241 yX6_trouble ∈ wB := wT5 81 rfl (by decide +kernel)
theorem mlL_244 : Cond.methodLink RL 244 yX7_trouble ∈ wB := wT8 106 rfl (by decide +kernel)
theorem cw_X6_ask : cV uX6_ask 0 := ⟨⟨wT4 190 rfl (by decide +kernel), wT1 1 rfl (by decide +kernel), by decide +kernel, by decide⟩, wT4 188 rfl (by decide +kernel), wT4 189 rfl (by decide +kernel)⟩
theorem cw_X6_askLeaves : cV uX6_askLeaves 0 := ⟨⟨wT4 201 rfl (by decide +kernel), wT1 1 rfl (by decide +kernel), by decide +kernel, by decide⟩, wT4 199 rfl (by decide +kernel), wT4 200 rfl (by decide +kernel)⟩
theorem cw_X6_back : cV uX6_back 1 := ⟨⟨wT5 71 rfl (by decide +kernel), wT1 1 rfl (by decide +kernel), by decide +kernel, by decide⟩, wT5 69 rfl (by decide +kernel), wT5 70 rfl (by decide +kernel)⟩
theorem cw_X6_bears : cV uX6_bears 2 := ⟨⟨wT3 162 rfl (by decide +kernel), wT1 1 rfl (by decide +kernel), by decide +kernel, by decide⟩, wT3 160 rfl (by decide +kernel), wT3 161 rfl (by decide +kernel)⟩
theorem cw_X6_borne : cV uX6_borne 3 := ⟨⟨wT5 15 rfl (by decide +kernel), wT1 1 rfl (by decide +kernel), by decide +kernel, by decide⟩, wT5 13 rfl (by decide +kernel), wT5 14 rfl (by decide +kernel)⟩
theorem cw_X6_burden : cV uX6_burden 0 := ⟨⟨wT3 154 rfl (by decide +kernel), wT1 1 rfl (by decide +kernel), by decide +kernel, by decide⟩, wT3 152 rfl (by decide +kernel), wT3 153 rfl (by decide +kernel)⟩
theorem cw_X6_canon : cV uX6_canon 2 := ⟨⟨wT3 126 rfl (by decide +kernel), wT1 1 rfl (by decide +kernel), by decide +kernel, by decide⟩, wT3 124 rfl (by decide +kernel), wT3 125 rfl (by decide +kernel)⟩
theorem cw_X6_cell : cV uX6_cell 2 := ⟨⟨wT3 134 rfl (by decide +kernel), wT1 1 rfl (by decide +kernel), by decide +kernel, by decide⟩, wT3 132 rfl (by decide +kernel), wT3 133 rfl (by decide +kernel)⟩
theorem cw_X6_close : cV uX6_close 1 := ⟨⟨wT2 129 rfl (by decide +kernel), wT1 1 rfl (by decide +kernel), by decide +kernel, by decide⟩, wT2 127 rfl (by decide +kernel), wT2 128 rfl (by decide +kernel)⟩
theorem cw_X6_could : cV uX6_could 0 := ⟨⟨wT4 179 rfl (by decide +kernel), wT1 1 rfl (by decide +kernel), by decide +kernel, by decide⟩, wT4 177 rfl (by decide +kernel), wT4 178 rfl (by decide +kernel)⟩
theorem cw_X6_day : cV uX6_day 0 := ⟨⟨wT5 38 rfl (by decide +kernel), wT1 1 rfl (by decide +kernel), by decide +kernel, by decide⟩, wT5 36 rfl (by decide +kernel), wT5 37 rfl (by decide +kernel)⟩
theorem cw_X6_drops : cV uX6_drops 2 := ⟨⟨wT3 199 rfl (by decide +kernel), wT1 1 rfl (by decide +kernel), by decide +kernel, by decide⟩, wT3 197 rfl (by decide +kernel), wT3 198 rfl (by decide +kernel)⟩
theorem cw_X6_dropsIf : cV uX6_dropsIf 3 := ⟨⟨wT4 15 rfl (by decide +kernel), wT1 1 rfl (by decide +kernel), by decide +kernel, by decide⟩, wT4 13 rfl (by decide +kernel), wT4 14 rfl (by decide +kernel)⟩
theorem cw_X6_dropsIn : cV uX6_dropsIn 1 := ⟨⟨wT3 203 rfl (by decide +kernel), wT1 1 rfl (by decide +kernel), by decide +kernel, by decide⟩, wT3 201 rfl (by decide +kernel), wT3 202 rfl (by decide +kernel)⟩
theorem cw_X6_dryDay : cV uX6_dryDay 1 := ⟨⟨wT4 140 rfl (by decide +kernel), wT1 1 rfl (by decide +kernel), by decide +kernel, by decide⟩, wT4 138 rfl (by decide +kernel), wT4 139 rfl (by decide +kernel)⟩
theorem cw_X6_face : cV uX6_face 2 := ⟨⟨wT3 110 rfl (by decide +kernel), wT1 1 rfl (by decide +kernel), by decide +kernel, by decide⟩, wT3 108 rfl (by decide +kernel), wT3 109 rfl (by decide +kernel)⟩
theorem cw_X6_faceFor : cV uX6_faceFor 2 := ⟨⟨wT4 31 rfl (by decide +kernel), wT1 1 rfl (by decide +kernel), by decide +kernel, by decide⟩, wT4 29 rfl (by decide +kernel), wT4 30 rfl (by decide +kernel)⟩
theorem cw_X6_fallen : cV uX6_fallen 1 := ⟨⟨wT4 11 rfl (by decide +kernel), wT1 1 rfl (by decide +kernel), by decide +kernel, by decide⟩, wT4 9 rfl (by decide +kernel), wT4 10 rfl (by decide +kernel)⟩
theorem cw_X6_fallsIn : cV uX6_fallsIn 1 := ⟨⟨wT3 211 rfl (by decide +kernel), wT1 1 rfl (by decide +kernel), by decide +kernel, by decide⟩, wT3 209 rfl (by decide +kernel), wT3 210 rfl (by decide +kernel)⟩
theorem cw_X6_fault : cV uX6_fault 0 := ⟨⟨wT3 102 rfl (by decide +kernel), wT1 1 rfl (by decide +kernel), by decide +kernel, by decide⟩, wT3 100 rfl (by decide +kernel), wT3 101 rfl (by decide +kernel)⟩
theorem cw_X6_feed : cV uX6_feed 5 := ⟨⟨wT2 121 rfl (by decide +kernel), wT1 1 rfl (by decide +kernel), by decide +kernel, by decide⟩, wT2 119 rfl (by decide +kernel), wT2 120 rfl (by decide +kernel)⟩
theorem cw_X6_firstWet : cV uX6_firstWet 2 := ⟨⟨wT5 30 rfl (by decide +kernel), wT1 1 rfl (by decide +kernel), by decide +kernel, by decide⟩, wT5 28 rfl (by decide +kernel), wT5 29 rfl (by decide +kernel)⟩
theorem cw_X6_fitAt : cV uX6_fitAt 1 := ⟨⟨wT4 175 rfl (by decide +kernel), wT1 1 rfl (by decide +kernel), by decide +kernel, by decide⟩, wT4 173 rfl (by decide +kernel), wT4 174 rfl (by decide +kernel)⟩
theorem cw_X6_fits : cV uX6_fits 0 := ⟨⟨wT4 152 rfl (by decide +kernel), wT1 1 rfl (by decide +kernel), by decide +kernel, by decide⟩, wT4 150 rfl (by decide +kernel), wT4 151 rfl (by decide +kernel)⟩
theorem cw_X6_gate : cV uX6_gate 0 := ⟨⟨wT4 144 rfl (by decide +kernel), wT1 1 rfl (by decide +kernel), by decide +kernel, by decide⟩, wT4 142 rfl (by decide +kernel), wT4 143 rfl (by decide +kernel)⟩
theorem cw_X6_give : cV uX6_give 2 := ⟨⟨wT5 51 rfl (by decide +kernel), wT1 1 rfl (by decide +kernel), by decide +kernel, by decide⟩, wT5 49 rfl (by decide +kernel), wT5 50 rfl (by decide +kernel)⟩
theorem cw_X6_heaviest : cV uX6_heaviest 0 := ⟨⟨wT4 4 rfl (by decide +kernel), wT1 1 rfl (by decide +kernel), by decide +kernel, by decide⟩, wT4 2 rfl (by decide +kernel), wT4 3 rfl (by decide +kernel)⟩
theorem cw_X6_holds : cV uX6_holds 2 := ⟨⟨wT3 195 rfl (by decide +kernel), wT1 1 rfl (by decide +kernel), by decide +kernel, by decide⟩, wT3 193 rfl (by decide +kernel), wT3 194 rfl (by decide +kernel)⟩
theorem cw_X6_image : cV uX6_image 0 := ⟨⟨wT5 67 rfl (by decide +kernel), wT1 1 rfl (by decide +kernel), by decide +kernel, by decide⟩, wT5 65 rfl (by decide +kernel), wT5 66 rfl (by decide +kernel)⟩
theorem cw_X6_judge : cV uX6_judge 0 := ⟨⟨wT4 205 rfl (by decide +kernel), wT1 1 rfl (by decide +kernel), by decide +kernel, by decide⟩, wT4 203 rfl (by decide +kernel), wT4 204 rfl (by decide +kernel)⟩
theorem cw_X6_match : cV uX6_match 1 := ⟨⟨wT4 35 rfl (by decide +kernel), wT1 1 rfl (by decide +kernel), by decide +kernel, by decide⟩, wT4 33 rfl (by decide +kernel), wT4 34 rfl (by decide +kernel)⟩
theorem cw_X6_matchAt : cV uX6_matchAt 2 := ⟨⟨wT4 73 rfl (by decide +kernel), wT1 1 rfl (by decide +kernel), by decide +kernel, by decide⟩, wT4 71 rfl (by decide +kernel), wT4 72 rfl (by decide +kernel)⟩
theorem cw_X6_matchDrops : cV uX6_matchDrops 1 := ⟨⟨wT4 69 rfl (by decide +kernel), wT1 1 rfl (by decide +kernel), by decide +kernel, by decide⟩, wT4 67 rfl (by decide +kernel), wT4 68 rfl (by decide +kernel)⟩
theorem cw_X6_mean : cV uX6_mean 3 := ⟨⟨wT5 11 rfl (by decide +kernel), wT1 1 rfl (by decide +kernel), by decide +kernel, by decide⟩, wT5 9 rfl (by decide +kernel), wT5 10 rfl (by decide +kernel)⟩
theorem cw_X6_mend : cV uX6_mend 1 := ⟨⟨wT5 55 rfl (by decide +kernel), wT1 1 rfl (by decide +kernel), by decide +kernel, by decide⟩, wT5 53 rfl (by decide +kernel), wT5 54 rfl (by decide +kernel)⟩
theorem cw_X6_odds : cV uX6_odds 3 := ⟨⟨wT4 231 rfl (by decide +kernel), wT1 1 rfl (by decide +kernel), by decide +kernel, by decide⟩, wT4 229 rfl (by decide +kernel), wT4 230 rfl (by decide +kernel)⟩
theorem cw_X6_rest : cV uX6_rest 1 := ⟨⟨wT4 227 rfl (by decide +kernel), wT1 1 rfl (by decide +kernel), by decide +kernel, by decide⟩, wT4 225 rfl (by decide +kernel), wT4 226 rfl (by decide +kernel)⟩
theorem cw_X6_rests : cV uX6_rests 1 := ⟨⟨wT4 220 rfl (by decide +kernel), wT1 1 rfl (by decide +kernel), by decide +kernel, by decide⟩, wT4 218 rfl (by decide +kernel), wT4 219 rfl (by decide +kernel)⟩
theorem cw_X6_size : cV uX6_size 1 := ⟨⟨wT5 75 rfl (by decide +kernel), wT1 1 rfl (by decide +kernel), by decide +kernel, by decide⟩, wT5 73 rfl (by decide +kernel), wT5 74 rfl (by decide +kernel)⟩
theorem cw_X6_steps : cV uX6_steps 2 := ⟨⟨wT4 77 rfl (by decide +kernel), wT1 1 rfl (by decide +kernel), by decide +kernel, by decide⟩, wT4 75 rfl (by decide +kernel), wT4 76 rfl (by decide +kernel)⟩
theorem cw_X6_sulks : cV uX6_sulks 4 := ⟨⟨wT4 209 rfl (by decide +kernel), wT1 1 rfl (by decide +kernel), by decide +kernel, by decide⟩, wT4 207 rfl (by decide +kernel), wT4 208 rfl (by decide +kernel)⟩
theorem cw_X6_sunny : cV uX6_sunny 0 := ⟨⟨wT4 0 rfl (by decide +kernel), wT1 1 rfl (by decide +kernel), by decide +kernel, by decide⟩, wT3 238 rfl (by decide +kernel), wT3 239 rfl (by decide +kernel)⟩
theorem cw_X6_surely : cV uX6_surely 0 := ⟨⟨wT4 186 rfl (by decide +kernel), wT1 1 rfl (by decide +kernel), by decide +kernel, by decide⟩, wT4 184 rfl (by decide +kernel), wT4 185 rfl (by decide +kernel)⟩
theorem cw_X6_trouble : cV uX6_trouble 0 := ⟨⟨wT5 84 rfl (by decide +kernel), wT1 1 rfl (by decide +kernel), by decide +kernel, by decide⟩, wT5 82 rfl (by decide +kernel), wT5 83 rfl (by decide +kernel)⟩
theorem cw_X6_undo : cV uX6_undo 0 := ⟨⟨wT5 63 rfl (by decide +kernel), wT1 1 rfl (by decide +kernel), by decide +kernel, by decide⟩, wT5 61 rfl (by decide +kernel), wT5 62 rfl (by decide +kernel)⟩
theorem cw_X6_vex : cV uX6_vex 2 := ⟨⟨wT5 59 rfl (by decide +kernel), wT1 1 rfl (by decide +kernel), by decide +kernel, by decide⟩, wT5 57 rfl (by decide +kernel), wT5 58 rfl (by decide +kernel)⟩
theorem cw_X6_way : cV uX6_way 2 := ⟨⟨wT4 124 rfl (by decide +kernel), wT1 1 rfl (by decide +kernel), by decide +kernel, by decide⟩, wT4 122 rfl (by decide +kernel), wT4 123 rfl (by decide +kernel)⟩
theorem cw_X6_wayAt : cV uX6_wayAt 3 := ⟨⟨wT4 128 rfl (by decide +kernel), wT1 1 rfl (by decide +kernel), by decide +kernel, by decide⟩, wT4 126 rfl (by decide +kernel), wT4 127 rfl (by decide +kernel)⟩
theorem cw_X6_wet : cV uX6_wet 1 := ⟨⟨wT3 216 rfl (by decide +kernel), wT1 1 rfl (by decide +kernel), by decide +kernel, by decide⟩, wT3 214 rfl (by decide +kernel), wT3 215 rfl (by decide +kernel)⟩
theorem cw_X6_wetDays : cV uX6_wetDays 2 := ⟨⟨wT3 228 rfl (by decide +kernel), wT1 1 rfl (by decide +kernel), by decide +kernel, by decide⟩, wT3 226 rfl (by decide +kernel), wT3 227 rfl (by decide +kernel)⟩
theorem cw_X6_wets : cV uX6_wets 2 := ⟨⟨wT4 86 rfl (by decide +kernel), wT1 1 rfl (by decide +kernel), by decide +kernel, by decide⟩, wT4 84 rfl (by decide +kernel), wT4 85 rfl (by decide +kernel)⟩
theorem cw_X6_wettest : cV uX6_wettest 0 := ⟨⟨wT3 236 rfl (by decide +kernel), wT1 1 rfl (by decide +kernel), by decide +kernel, by decide⟩, wT3 234 rfl (by decide +kernel), wT3 235 rfl (by decide +kernel)⟩
theorem cw_X6_where : cV uX6_where 0 := ⟨⟨wT3 106 rfl (by decide +kernel), wT1 1 rfl (by decide +kernel), by decide +kernel, by decide⟩, wT3 104 rfl (by decide +kernel), wT3 105 rfl (by decide +kernel)⟩
theorem cw_X7_ask : cV uX7_ask 0 := ⟨⟨wT7 234 rfl (by decide +kernel), wT1 8 rfl (by decide +kernel), by decide +kernel, by decide⟩, wT7 232 rfl (by decide +kernel), wT7 233 rfl (by decide +kernel)⟩
theorem cw_X7_askLeaves : cV uX7_askLeaves 0 := ⟨⟨wT8 6 rfl (by decide +kernel), wT1 8 rfl (by decide +kernel), by decide +kernel, by decide⟩, wT8 4 rfl (by decide +kernel), wT8 5 rfl (by decide +kernel)⟩
theorem cw_X7_back : cV uX7_back 1 := ⟨⟨wT8 97 rfl (by decide +kernel), wT1 8 rfl (by decide +kernel), by decide +kernel, by decide⟩, wT8 95 rfl (by decide +kernel), wT8 96 rfl (by decide +kernel)⟩
theorem cw_X7_bears : cV uX7_bears 2 := ⟨⟨wT7 30 rfl (by decide +kernel), wT1 8 rfl (by decide +kernel), by decide +kernel, by decide⟩, wT7 28 rfl (by decide +kernel), wT7 29 rfl (by decide +kernel)⟩
theorem cw_X7_borne : cV uX7_borne 3 := ⟨⟨wT8 51 rfl (by decide +kernel), wT1 8 rfl (by decide +kernel), by decide +kernel, by decide⟩, wT8 49 rfl (by decide +kernel), wT8 50 rfl (by decide +kernel)⟩
theorem cw_X7_burden : cV uX7_burden 0 := ⟨⟨wT7 26 rfl (by decide +kernel), wT1 8 rfl (by decide +kernel), by decide +kernel, by decide⟩, wT7 24 rfl (by decide +kernel), wT7 25 rfl (by decide +kernel)⟩
theorem cw_X7_canon : cV uX7_canon 2 := ⟨⟨wT6 230 rfl (by decide +kernel), wT1 8 rfl (by decide +kernel), by decide +kernel, by decide⟩, wT6 228 rfl (by decide +kernel), wT6 229 rfl (by decide +kernel)⟩
theorem cw_X7_cell : cV uX7_cell 2 := ⟨⟨wT6 238 rfl (by decide +kernel), wT1 8 rfl (by decide +kernel), by decide +kernel, by decide⟩, wT6 236 rfl (by decide +kernel), wT6 237 rfl (by decide +kernel)⟩
theorem cw_X7_close : cV uX7_close 1 := ⟨⟨wT6 60 rfl (by decide +kernel), wT1 8 rfl (by decide +kernel), by decide +kernel, by decide⟩, wT6 58 rfl (by decide +kernel), wT6 59 rfl (by decide +kernel)⟩
theorem cw_X7_could : cV uX7_could 0 := ⟨⟨wT7 226 rfl (by decide +kernel), wT1 8 rfl (by decide +kernel), by decide +kernel, by decide⟩, wT7 224 rfl (by decide +kernel), wT7 225 rfl (by decide +kernel)⟩
theorem cw_X7_day : cV uX7_day 0 := ⟨⟨wT8 65 rfl (by decide +kernel), wT1 8 rfl (by decide +kernel), by decide +kernel, by decide⟩, wT8 63 rfl (by decide +kernel), wT8 64 rfl (by decide +kernel)⟩
theorem cw_X7_drops : cV uX7_drops 2 := ⟨⟨wT7 62 rfl (by decide +kernel), wT1 8 rfl (by decide +kernel), by decide +kernel, by decide⟩, wT7 60 rfl (by decide +kernel), wT7 61 rfl (by decide +kernel)⟩
theorem cw_X7_dropsIf : cV uX7_dropsIf 3 := ⟨⟨wT7 106 rfl (by decide +kernel), wT1 8 rfl (by decide +kernel), by decide +kernel, by decide⟩, wT7 104 rfl (by decide +kernel), wT7 105 rfl (by decide +kernel)⟩
theorem cw_X7_dropsIn : cV uX7_dropsIn 1 := ⟨⟨wT7 66 rfl (by decide +kernel), wT1 8 rfl (by decide +kernel), by decide +kernel, by decide⟩, wT7 64 rfl (by decide +kernel), wT7 65 rfl (by decide +kernel)⟩
theorem cw_X7_dryDay : cV uX7_dryDay 1 := ⟨⟨wT7 198 rfl (by decide +kernel), wT1 8 rfl (by decide +kernel), by decide +kernel, by decide⟩, wT7 196 rfl (by decide +kernel), wT7 197 rfl (by decide +kernel)⟩
theorem cw_X7_face : cV uX7_face 2 := ⟨⟨wT6 218 rfl (by decide +kernel), wT1 8 rfl (by decide +kernel), by decide +kernel, by decide⟩, wT6 216 rfl (by decide +kernel), wT6 217 rfl (by decide +kernel)⟩
theorem cw_X7_faceFor : cV uX7_faceFor 2 := ⟨⟨wT7 133 rfl (by decide +kernel), wT1 8 rfl (by decide +kernel), by decide +kernel, by decide⟩, wT7 131 rfl (by decide +kernel), wT7 132 rfl (by decide +kernel)⟩
theorem cw_X7_fallen : cV uX7_fallen 1 := ⟨⟨wT7 98 rfl (by decide +kernel), wT1 8 rfl (by decide +kernel), by decide +kernel, by decide⟩, wT7 96 rfl (by decide +kernel), wT7 97 rfl (by decide +kernel)⟩
theorem cw_X7_fallsIn : cV uX7_fallsIn 1 := ⟨⟨wT7 70 rfl (by decide +kernel), wT1 8 rfl (by decide +kernel), by decide +kernel, by decide⟩, wT7 68 rfl (by decide +kernel), wT7 69 rfl (by decide +kernel)⟩
theorem cw_X7_fault : cV uX7_fault 0 := ⟨⟨wT6 210 rfl (by decide +kernel), wT1 8 rfl (by decide +kernel), by decide +kernel, by decide⟩, wT6 208 rfl (by decide +kernel), wT6 209 rfl (by decide +kernel)⟩
theorem cw_X7_feed : cV uX7_feed 5 := ⟨⟨wT6 56 rfl (by decide +kernel), wT1 8 rfl (by decide +kernel), by decide +kernel, by decide⟩, wT6 54 rfl (by decide +kernel), wT6 55 rfl (by decide +kernel)⟩
theorem cw_X7_firstWet : cV uX7_firstWet 2 := ⟨⟨wT8 61 rfl (by decide +kernel), wT1 8 rfl (by decide +kernel), by decide +kernel, by decide⟩, wT8 59 rfl (by decide +kernel), wT8 60 rfl (by decide +kernel)⟩
theorem cw_X7_fitAt : cV uX7_fitAt 1 := ⟨⟨wT7 222 rfl (by decide +kernel), wT1 8 rfl (by decide +kernel), by decide +kernel, by decide⟩, wT7 220 rfl (by decide +kernel), wT7 221 rfl (by decide +kernel)⟩
theorem cw_X7_fits : cV uX7_fits 0 := ⟨⟨wT7 210 rfl (by decide +kernel), wT1 8 rfl (by decide +kernel), by decide +kernel, by decide⟩, wT7 208 rfl (by decide +kernel), wT7 209 rfl (by decide +kernel)⟩
theorem cw_X7_gate : cV uX7_gate 0 := ⟨⟨wT7 202 rfl (by decide +kernel), wT1 8 rfl (by decide +kernel), by decide +kernel, by decide⟩, wT7 200 rfl (by decide +kernel), wT7 201 rfl (by decide +kernel)⟩
theorem cw_X7_give : cV uX7_give 2 := ⟨⟨wT8 73 rfl (by decide +kernel), wT1 8 rfl (by decide +kernel), by decide +kernel, by decide⟩, wT8 71 rfl (by decide +kernel), wT8 72 rfl (by decide +kernel)⟩
theorem cw_X7_heaviest : cV uX7_heaviest 0 := ⟨⟨wT7 94 rfl (by decide +kernel), wT1 8 rfl (by decide +kernel), by decide +kernel, by decide⟩, wT7 92 rfl (by decide +kernel), wT7 93 rfl (by decide +kernel)⟩
theorem cw_X7_holds : cV uX7_holds 2 := ⟨⟨wT7 58 rfl (by decide +kernel), wT1 8 rfl (by decide +kernel), by decide +kernel, by decide⟩, wT7 56 rfl (by decide +kernel), wT7 57 rfl (by decide +kernel)⟩
theorem cw_X7_image : cV uX7_image 0 := ⟨⟨wT8 93 rfl (by decide +kernel), wT1 8 rfl (by decide +kernel), by decide +kernel, by decide⟩, wT8 91 rfl (by decide +kernel), wT8 92 rfl (by decide +kernel)⟩
theorem cw_X7_judge : cV uX7_judge 0 := ⟨⟨wT8 10 rfl (by decide +kernel), wT1 8 rfl (by decide +kernel), by decide +kernel, by decide⟩, wT8 8 rfl (by decide +kernel), wT8 9 rfl (by decide +kernel)⟩
theorem cw_X7_led : cV uX7_led 1 := ⟨⟨wT8 101 rfl (by decide +kernel), wT1 8 rfl (by decide +kernel), by decide +kernel, by decide⟩, wT8 99 rfl (by decide +kernel), wT8 100 rfl (by decide +kernel)⟩
theorem cw_X7_match : cV uX7_match 1 := ⟨⟨wT7 141 rfl (by decide +kernel), wT1 8 rfl (by decide +kernel), by decide +kernel, by decide⟩, wT7 139 rfl (by decide +kernel), wT7 140 rfl (by decide +kernel)⟩
theorem cw_X7_matchAt : cV uX7_matchAt 2 := ⟨⟨wT7 157 rfl (by decide +kernel), wT1 8 rfl (by decide +kernel), by decide +kernel, by decide⟩, wT7 155 rfl (by decide +kernel), wT7 156 rfl (by decide +kernel)⟩
theorem cw_X7_matchDrops : cV uX7_matchDrops 1 := ⟨⟨wT7 153 rfl (by decide +kernel), wT1 8 rfl (by decide +kernel), by decide +kernel, by decide⟩, wT7 151 rfl (by decide +kernel), wT7 152 rfl (by decide +kernel)⟩
theorem cw_X7_mean : cV uX7_mean 3 := ⟨⟨wT8 47 rfl (by decide +kernel), wT1 8 rfl (by decide +kernel), by decide +kernel, by decide⟩, wT8 45 rfl (by decide +kernel), wT8 46 rfl (by decide +kernel)⟩
theorem cw_X7_mend : cV uX7_mend 1 := ⟨⟨wT8 77 rfl (by decide +kernel), wT1 8 rfl (by decide +kernel), by decide +kernel, by decide⟩, wT8 75 rfl (by decide +kernel), wT8 76 rfl (by decide +kernel)⟩
theorem cw_X7_odds : cV uX7_odds 3 := ⟨⟨wT8 36 rfl (by decide +kernel), wT1 8 rfl (by decide +kernel), by decide +kernel, by decide⟩, wT8 34 rfl (by decide +kernel), wT8 35 rfl (by decide +kernel)⟩
theorem cw_X7_rest : cV uX7_rest 1 := ⟨⟨wT8 32 rfl (by decide +kernel), wT1 8 rfl (by decide +kernel), by decide +kernel, by decide⟩, wT8 30 rfl (by decide +kernel), wT8 31 rfl (by decide +kernel)⟩
theorem cw_X7_rests : cV uX7_rests 1 := ⟨⟨wT8 24 rfl (by decide +kernel), wT1 8 rfl (by decide +kernel), by decide +kernel, by decide⟩, wT8 22 rfl (by decide +kernel), wT8 23 rfl (by decide +kernel)⟩
theorem cw_X7_size : cV uX7_size 1 := ⟨⟨wT8 105 rfl (by decide +kernel), wT1 8 rfl (by decide +kernel), by decide +kernel, by decide⟩, wT8 103 rfl (by decide +kernel), wT8 104 rfl (by decide +kernel)⟩
theorem cw_X7_steps : cV uX7_steps 2 := ⟨⟨wT7 161 rfl (by decide +kernel), wT1 8 rfl (by decide +kernel), by decide +kernel, by decide⟩, wT7 159 rfl (by decide +kernel), wT7 160 rfl (by decide +kernel)⟩
theorem cw_X7_sulks : cV uX7_sulks 4 := ⟨⟨wT8 14 rfl (by decide +kernel), wT1 8 rfl (by decide +kernel), by decide +kernel, by decide⟩, wT8 12 rfl (by decide +kernel), wT8 13 rfl (by decide +kernel)⟩
theorem cw_X7_sunny : cV uX7_sunny 0 := ⟨⟨wT7 90 rfl (by decide +kernel), wT1 8 rfl (by decide +kernel), by decide +kernel, by decide⟩, wT7 88 rfl (by decide +kernel), wT7 89 rfl (by decide +kernel)⟩
theorem cw_X7_surely : cV uX7_surely 0 := ⟨⟨wT7 230 rfl (by decide +kernel), wT1 8 rfl (by decide +kernel), by decide +kernel, by decide⟩, wT7 228 rfl (by decide +kernel), wT7 229 rfl (by decide +kernel)⟩
theorem cw_X7_trouble : cV uX7_trouble 0 := ⟨⟨wT8 109 rfl (by decide +kernel), wT1 8 rfl (by decide +kernel), by decide +kernel, by decide⟩, wT8 107 rfl (by decide +kernel), wT8 108 rfl (by decide +kernel)⟩
theorem cw_X7_undo : cV uX7_undo 0 := ⟨⟨wT8 89 rfl (by decide +kernel), wT1 8 rfl (by decide +kernel), by decide +kernel, by decide⟩, wT8 87 rfl (by decide +kernel), wT8 88 rfl (by decide +kernel)⟩
theorem cw_X7_vex : cV uX7_vex 2 := ⟨⟨wT8 85 rfl (by decide +kernel), wT1 8 rfl (by decide +kernel), by decide +kernel, by decide⟩, wT8 83 rfl (by decide +kernel), wT8 84 rfl (by decide +kernel)⟩
theorem cw_X7_way : cV uX7_way 2 := ⟨⟨wT7 190 rfl (by decide +kernel), wT1 8 rfl (by decide +kernel), by decide +kernel, by decide⟩, wT7 188 rfl (by decide +kernel), wT7 189 rfl (by decide +kernel)⟩
theorem cw_X7_wayAt : cV uX7_wayAt 3 := ⟨⟨wT7 194 rfl (by decide +kernel), wT1 8 rfl (by decide +kernel), by decide +kernel, by decide⟩, wT7 192 rfl (by decide +kernel), wT7 193 rfl (by decide +kernel)⟩
theorem cw_X7_wet : cV uX7_wet 1 := ⟨⟨wT7 74 rfl (by decide +kernel), wT1 8 rfl (by decide +kernel), by decide +kernel, by decide⟩, wT7 72 rfl (by decide +kernel), wT7 73 rfl (by decide +kernel)⟩
theorem cw_X7_wetDays : cV uX7_wetDays 2 := ⟨⟨wT7 78 rfl (by decide +kernel), wT1 8 rfl (by decide +kernel), by decide +kernel, by decide⟩, wT7 76 rfl (by decide +kernel), wT7 77 rfl (by decide +kernel)⟩
theorem cw_X7_wets : cV uX7_wets 2 := ⟨⟨wT7 178 rfl (by decide +kernel), wT1 8 rfl (by decide +kernel), by decide +kernel, by decide⟩, wT7 176 rfl (by decide +kernel), wT7 177 rfl (by decide +kernel)⟩
theorem cw_X7_wettest : cV uX7_wettest 0 := ⟨⟨wT7 86 rfl (by decide +kernel), wT1 8 rfl (by decide +kernel), by decide +kernel, by decide⟩, wT7 84 rfl (by decide +kernel), wT7 85 rfl (by decide +kernel)⟩
theorem cw_X7_where : cV uX7_where 0 := ⟨⟨wT6 214 rfl (by decide +kernel), wT1 8 rfl (by decide +kernel), by decide +kernel, by decide⟩, wT6 212 rfl (by decide +kernel), wT6 213 rfl (by decide +kernel)⟩
theorem clL_8 : Cond.classLink RL 8 RX6 ∈ wB := wT1 20 rfl (by decide +kernel)
theorem clL_16 : Cond.classLink RL 16 RX7 ∈ wB := wT5 154 rfl (by decide +kernel)
theorem mlL_231 : Cond.methodLink RL 231 yL_led ∈ wB := wT5 85 rfl (by decide +kernel)
theorem stL_led : Cond.static yL_led ∈ wB := wT5 86 rfl (by decide +kernel)
theorem inL : Cond.initialized RL ∈ wB := wT1 0 rfl (by decide +kernel)
section OCL
variable {l : Launch} {X : Nat × (Nat → Int32)} {q : Md} {d : Nat} {b : Nat × Nat} {pc : Nat}
/-- the law's led, as a contract over memories -/
noncomputable def EvL (l : Launch) (X : Nat × (Nat → Int32)) (d mc ms : Nat) (av : List Value) (M : Mm) (kr : KR) : Prop := ∀ (D : va_G) (g : Nat → ClassId) (ad : Nat → Nat) (A : Nat → Prop), Met l yL_led wzL (rz d mc ms) (pz D g ad X A av M) (qz D g ad A false M kr) mc ms A
noncomputable def rj (b : Nat × Nat) (M : Mm) (ls : Ls) (rest : List Value) (mc ms : Nat) : Bool := Nat.ble (cs rest) 8 && (ls.all (fun x => rk (mN M) x.2) && (rest.all (rk (mN M)) && (Nat.ble (mC M + mc) b.1 && Nat.ble (mS M + ms) b.2)))
theorem rj_of {b : Nat × Nat} {M : Mm} {ls : Ls} {rest : List Value} {mc ms : Nat} (h : rj b M ls rest mc ms = true) : cs rest ≤ 8 ∧ ls.all (fun x => rk (mN M) x.2) = true ∧ rest.all (rk (mN M)) = true ∧ mC M + mc ≤ b.1 ∧ mS M + ms ≤ b.2 := by
  obtain ⟨h1, h⟩ := Bool.and_eq_true_iff.mp h
  obtain ⟨h2, h⟩ := Bool.and_eq_true_iff.mp h
  obtain ⟨h3, h⟩ := Bool.and_eq_true_iff.mp h
  obtain ⟨h4, h⟩ := Bool.and_eq_true_iff.mp h
  exact ⟨Nat.le_of_ble_eq_true h1, h2, h3, Nat.le_of_ble_eq_true h4, Nat.le_of_ble_eq_true h⟩
noncomputable def oCl (l : Launch) (X : Nat × (Nat → Int32)) (d : Nat) (b : Nat × Nat) (pc : Nat) : OP := fun kn _ ls st M => match st with
  | .ref c :: .int i :: .ref a :: rest => cond (rj b M ls rest 1 6) (EvL l X d 1 6 [.ref a, .int i, .ref c] M (fun r M' => (mC M' = mC M + 1 ∧ mS M' = mS M + 6) ∧ kn (pc + 3) ls (r.toList ++ rest) M')) False
  | _ => False
theorem wB_goodL : GoodIn wB wzL := by
  intro w hw
  rcases List.mem_cons.mp hw with e | hw
  · rw [e]; exact ⟨cwL_led, good_of_word (List.mem_filter.mp cwL_led).2⟩
  · exact ⟨hw, good_of_word (List.mem_filter.mp hw).2⟩
theorem ok_cl (hd : decode uL.2.1 pc = .ok (.invokestatic 231, 3)) : OK l X uL (d + 1) false b pc (oCl l X d b pc) := by
  intro kn kr ls st M hk h
  simp only [oCl] at h
  split at h
  · rename_i c0 i0 a0 rest
    obtain ⟨h0, h⟩ := condT h
    obtain ⟨i1, i2, i3, i4, i5⟩ := rj_of h0
    refine Wf.callA (rest := rest) (kr' := fun r M' => (mC M' = mC M + 1 ∧ mS M' = mS M + 6) ∧ kn (pc + 3) ls (r.toList ++ rest) M') i2 i3 i4 i5 (fun r M' z => z.1) (fun r M' z => hk _ _ _ _ z.2) (fun p e R s m args below meth c' H locs cells slots D g ad A la hx hb hml hla hown hts g1 g2 g3 hK hN hP hp => ?_)
    refine ⟨(([.ref a0, .int i0, .ref c0] : List Value).map (iv ad)).toArray, ?_⟩
    have hBk : Back l R p e below s args yL_led 3 8 (PreOf R 1 6 (pz D g ad X A [.ref a0, .int i0, .ref c0] M)) (PostOf (qz D g ad A false M (fun r M' => (mC M' = mC M + 1 ∧ mS M' = mS M + 6) ∧ kn (pc + 3) ls (r.toList ++ rest) M')) 1 6 A) :=
      va_backW (bytes := cL_led) (maxL := 4) (ret := some .int) (hh := [(0, 9, 12, 13)]) (h D g ad A) (hp _).1 rfl rfl (by show d + 1 ≤ R.frames; exact g1) (by show 8 + (4 + 11) + 64 * d ≤ R.locals; omega) (pay_in hts wB_goodL) List.mem_cons_self (fun a' U hW => word_at hW (good_of_word (List.mem_filter.mp inL).2) (hts _ inL))
    intro T hT XT
    obtain ⟨mk', methM, cM, hnamed, hmethM, hcM, -, -, -, -, -, hsigM⟩ := Cond.codeWith_spec (hts _ cwL_led)
    have hstatic : methM.isStatic = true := Cond.static_spec hnamed hmethM (hts _ stL_led)
    obtain ⟨kP, hkP, -⟩ := className_of_methodNamed hnamed
    have hinitP : kP.init = .initialized := Cond.initialized_spec (findClass_of_methodNamed hnamed) hkP (hts _ inL)
    have hsg : ∀ sig, parseMethodDescriptor yL_led.desc = some sig → (([.ref a0, .int i0, .ref c0] : List Value).map (iv ad)).length = sig.parameters.length := fun sig hsig => by
      have hd : (parseMethodDescriptor yL_led.desc).map (fun d => d.parameters.length) = some 3 := by decide +kernel
      rw [hsig] at hd
      exact (Option.some.inj hd).symm
    have hd' : decode c'.code pc = .ok (.invokestatic 231, 3) := by rw [hb]; exact hd
    obtain ⟨vm₁, X₁, hstep₁⟩ := XT.invokestatic hx hown (hts _ mlL_231) hnamed hmethM hstatic hkP hinitP (by decide) (g := F0 m pc la ((Value.ref c0 :: .int i0 :: .ref a0 :: rest).map (iv ad))) rfl (argsL := ([.ref a0, .int i0, .ref c0] : List Value).map (iv ad)) (rest := rest.map (iv ad)) (hsg _ hsigM) rfl hd'
    obtain ⟨v, ⟨U', l2, c2, s2⟩, X', ⟨g', mk2, t, L, e1, e2, hq, h1, hL, h2, h3⟩, hsteps⟩ := hBk m meth c' ⟨T.setVm vm₁, locs, cells, slots⟩ (F0 m pc la (rest.map (iv ad))) (.invokestatic 231) mk' (([.ref a0, .int i0, .ref c0] : List Value).map (iv ad)).toArray X₁ rfl (hla.trans hml.symm) hd' (lv_room (by rw [cs_of]; exact i1)) (X₁.named hnamed) ⟨g3.1, g3.2, (hp _).2 (T.setVm vm₁) hT X₁.warmed⟩
    dsimp only [Pt.U, Pt.locs, Pt.cells, Pt.slots] at X' e1 e2 h1 h2 h3 hsteps
    subst h1; subst h2; subst h3
    exact ⟨v, (T.setVm vm₁).calling g' mk2 (([.ref a0, .int i0, .ref c0] : List Value).map (iv ad)).toArray, t, U', L, hT, X', hL, e1, e2, hq, fun target hh => hstep₁ _ fun acts => by rw [doInvoke_state]; exact hsteps.trans hh⟩
  · exact h.elim
end OCL
section POP2
variable {l : Launch} {X : Nat × (Nat → Int32)} {q : Md} {d : Nat} {na : Bool} {b : Nat × Nat} {tb : List (Nat × OP)} {kr : KR} {pc : Nat} {ls : Ls} {st : List Value} {M : Mm}
noncomputable def oPop2 (pc : Nat) : OP := fun kn _ ls st M => match st with
  | .long _ :: st => kn (pc + 1) ls st M
  | _ => False
theorem ok_pop2 (hd : decode q.2.1 pc = .ok (.pop2, 1)) : OK l X q d na b pc (oPop2 pc) := by
  intro kn kr ls st M hk h
  simp only [oPop2] at h
  split at h
  · exact Wf.pure (fun _ _ _ _ _ _ _ _ _ _ _ _ _ _ ad la hx hb hown hts hl k => lv_pop2_2 hx hb hd rfl (k la hl)) (hk _ _ _ _ h)
  · exact h.elim
theorem Wf.sPop2 (ht : ∀ x ∈ tb, OK l X q d na b x.1 x.2) {v : Int64} (ho : lo tb pc = oPop2 pc) (k : Wf l X q d na b (pc + 1) ls st M kr) : Wf l X q d na b pc ls (.long v :: st) M kr := Wf.stp1 ht ho k
theorem Wf.sScd (ht : ∀ x ∈ tb, OK l X q d na b x.1 x.2) {i : Int32} (ho : lo tb pc = oScd X pc) (hi : vp_in i X.1) (k : Wf l X q d na b (pc + 1) ls (.int (X.2 i.toNatClampNeg) :: st) M kr) : Wf l X q d na b pc ls (.int i :: .ref 4999 :: st) M kr := Wf.stp1 ht ho ⟨hi, k⟩
theorem Wf.sScl (ht : ∀ x ∈ tb, OK l X q d na b x.1 x.2) (ho : lo tb pc = oScl X pc) (k : Wf l X q d na b (pc + 1) ls (.int (Int32.ofNat X.1) :: st) M kr) : Wf l X q d na b pc ls (.ref 4999 :: st) M kr := Wf.stp1 ht ho k
theorem Wf.sTs (ht : ∀ x ∈ tb, OK l X q d na b x.1 x.2) {lw : Int} {ts : List Nat} {df : Nat} {x : Int32} (ho : lo tb pc = oTs lw ts df) (k1 : ∀ (k t : Nat), ts[k]? = some t → x.toInt = lw + (k : Int) → Wf l X q d na b t ls st M kr) (k2 : Wf l X q d na b df ls st M kr) : Wf l X q d na b pc ls (.int x :: st) M kr := Wf.stp1 ht ho ⟨k1, fun _ => k2⟩
theorem Wf.sCl (ht : ∀ x ∈ tb, OK l X q d na b x.1 x.2) {d' a c : Nat} {i : Int32} (ho : lo tb pc = oCl l X d' b pc) (hr : rj b M ls st 1 6 = true) (k : EvL l X d' 1 6 [.ref a, .int i, .ref c] M (fun r M' => (mC M' = mC M + 1 ∧ mS M' = mS M + 6) ∧ Wf l X q d na b (pc + 3) ls (r.toList ++ st) M' kr)) : Wf l X q d na b pc ls (.ref c :: .int i :: .ref a :: st) M kr := Wf.stp1 ht ho (by simp only [oCl, hr, cond_true]; exact k)
end POP2
end
section
noncomputable def ilL_P : List (Nat × Instr × Nat) := [(0, .new 8, 3), (3, .dup, 1), (4, .invokespecial 15, 3), (7, .astore_n 1, 1), (8, .new 16, 3), (11, .dup, 1), (12, .invokespecial 18, 3), (15, .astore_n 2, 1), (16, .iconst 1, 1), (17, .newarray .long, 2), (19, .astore_n 3, 1), (20, .iconst 0, 1), (21, .istore 4, 2)]
theorem idL_P : ∀ x ∈ ilL_P, decode cL_law x.1 = .ok x.2 := sq_ok (B := 0) List.drop_zero (by decide +kernel : sqI cL_law 0 cL_law.data.toList ilL_P = true)
noncomputable def tbL_P (l : Launch) (X : Nat × (Nat → Int32)) (d : Nat) (b : Nat × Nat) : List (Nat × OP) := [(0, oNew b 0 6 14), (3, oDup 3), (4, oCi l X d b 4 uX6_init 6 148 1873), (7, oAs 7 1 1), (8, oNew b 8 7 44), (11, oDup 11), (12, oCi l X d b 12 uX7_init 7 16 1932), (15, oAs 15 1 2), (16, oIc 16 1 1), (17, oNa b 17 10 1 1), (19, oAs 19 1 3), (20, oIc 20 1 0), (21, oIs 21 2 4)]
set_option maxRecDepth 20000 in
theorem tkL_P {l : Launch} {X : Nat × (Nat → Int32)} {d : Nat} {b : Nat × Nat} : ∀ x ∈ tbL_P l X d b, OK l X uL (d + 1) false b x.1 x.2 :=
  List.forall_mem_cons.mpr ⟨ok_new (c := 6) tyX6 tyX6_ok rfl inB6 (by decide) df_6 clL_8 nwi_6 nwj_6 (idL_P (0, .new 8, 3) (List.mem_of_getElem? (i := 0) rfl)), List.forall_mem_cons.mpr ⟨ok_dup (idL_P (3, .dup, 1) (List.mem_of_getElem? (i := 1) rfl)), List.forall_mem_cons.mpr ⟨ok_ci ci_X6 mlL_15 (idL_P (4, .invokespecial 15, 3) (List.mem_of_getElem? (i := 2) rfl)), List.forall_mem_cons.mpr ⟨ok_astore_n (i := 1) (k := 1) rfl (by decide) (idL_P (7, .astore_n 1, 1) (List.mem_of_getElem? (i := 3) rfl)), List.forall_mem_cons.mpr ⟨ok_new (c := 7) tyX7 tyX7_ok rfl inB7 (by decide) df_7 clL_16 nwi_7 nwj_7 (idL_P (8, .new 16, 3) (List.mem_of_getElem? (i := 4) rfl)), List.forall_mem_cons.mpr ⟨ok_dup (idL_P (11, .dup, 1) (List.mem_of_getElem? (i := 5) rfl)), List.forall_mem_cons.mpr ⟨ok_ci ci_X7 mlL_18 (idL_P (12, .invokespecial 18, 3) (List.mem_of_getElem? (i := 6) rfl)), List.forall_mem_cons.mpr ⟨ok_astore_n (i := 2) (k := 2) rfl (by decide) (idL_P (15, .astore_n 2, 1) (List.mem_of_getElem? (i := 7) rfl)), List.forall_mem_cons.mpr ⟨ok_iconst (n := 1) (v := 1) (by decide) (idL_P (16, .iconst 1, 1) (List.mem_of_getElem? (i := 8) rfl)), List.forall_mem_cons.mpr ⟨ok_na (k := 10) (n := 1) (v0 := 1) rfl (Or.inr (Or.inr ⟨rfl, rfl, rfl⟩)) ⟨by decide, by decide, by decide⟩ ar_long (idL_P (17, .newarray .long, 2) (List.mem_of_getElem? (i := 9) rfl)), List.forall_mem_cons.mpr ⟨ok_astore_n (i := 3) (k := 3) rfl (by decide) (idL_P (19, .astore_n 3, 1) (List.mem_of_getElem? (i := 10) rfl)), List.forall_mem_cons.mpr ⟨ok_iconst (n := 0) (v := 0) (by decide) (idL_P (20, .iconst 0, 1) (List.mem_of_getElem? (i := 11) rfl)), List.forall_mem_cons.mpr ⟨ok_istore (i := 4) (by decide) (idL_P (21, .istore 4, 2) (List.mem_of_getElem? (i := 12) rfl)), fun _ h => absurd h List.not_mem_nil⟩⟩⟩⟩⟩⟩⟩⟩⟩⟩⟩⟩⟩
noncomputable def ilL_H : List (Nat × Instr × Nat) := [(23, .iload 4, 2), (25, .aload_n 0, 1), (26, .arraylength, 1), (27, .bipush 6, 2), (29, .isub, 1), (30, .if_icmp .gt 1861, 3), (33, .aload_n 0, 1), (34, .iload 4, 2), (36, .iaload, 1), (37, .bipush 63, 2), (39, .iand, 1), (40, .tableswitch 1845 0 53 #[232, 305, 330, 343, 356, 393, 430, 467, 480, 517, 554, 591, 616, 641, 666, 703, 716, 729, 742, 767, 816, 853, 878, 903, 940, 977, 1014, 1051, 1100, 1125, 1138, 1151, 1176, 1189, 1202, 1215, 1228, 1241, 1350, 1375, 1400, 1465, 1530, 1579, 1616, 1629, 1666, 1691, 1728, 1741, 1754, 1779, 1807, 1832], 232)]
theorem idL_H : ∀ x ∈ ilL_H, decode cL_law x.1 = .ok x.2 := sq_ok (B := 23) rfl (by decide +kernel : sqI cL_law 23 (cL_law.data.toList.drop 23) ilL_H = true)
noncomputable def tbL_H (l : Launch) (X : Nat × (Nat → Int32)) (d : Nat) (b : Nat × Nat) : List (Nat × OP) := [(23, oIl 23 2 4), (25, oAl 25 1 0), (26, oScl X 26), (27, oIc 27 2 6), (29, o2 29 (fun x y => x - y)), (30, oCm 30 1891 (fun x y => y < x) (fun x y => ¬ y < x)), (33, oAl 33 1 0), (34, oIl 34 2 4), (36, oScd X 36), (37, oIc 37 2 63), (39, o2 39 (fun x y => x &&& y)), (40, oTs 0 [272, 345, 370, 383, 396, 433, 470, 507, 520, 557, 594, 631, 656, 681, 706, 743, 756, 769, 782, 807, 856, 893, 918, 943, 980, 1017, 1054, 1091, 1140, 1165, 1178, 1191, 1216, 1229, 1242, 1255, 1268, 1281, 1390, 1415, 1440, 1505, 1570, 1619, 1656, 1669, 1706, 1731, 1768, 1781, 1794, 1819, 1847, 1872] 1885)]
set_option maxRecDepth 20000 in
theorem tkL_H {l : Launch} {X : Nat × (Nat → Int32)} {d : Nat} {b : Nat × Nat} : ∀ x ∈ tbL_H l X d b, OK l X uL (d + 1) false b x.1 x.2 :=
  List.forall_mem_cons.mpr ⟨ok_iload (i := 4) (idL_H (23, .iload 4, 2) (List.mem_of_getElem? (i := 0) rfl)), List.forall_mem_cons.mpr ⟨ok_aload_n (i := 0) (k := 0) rfl (idL_H (25, .aload_n 0, 1) (List.mem_of_getElem? (i := 1) rfl)), List.forall_mem_cons.mpr ⟨ok_scl (idL_H (26, .arraylength, 1) (List.mem_of_getElem? (i := 2) rfl)), List.forall_mem_cons.mpr ⟨ok_bipush (n := 6) (v := 6) (by decide) (idL_H (27, .bipush 6, 2) (List.mem_of_getElem? (i := 3) rfl)), List.forall_mem_cons.mpr ⟨ok_isub (idL_H (29, .isub, 1) (List.mem_of_getElem? (i := 4) rfl)), List.forall_mem_cons.mpr ⟨ok_icmpgt (t := 1891) (by decide) (idL_H (30, .if_icmp .gt 1861, 3) (List.mem_of_getElem? (i := 5) rfl)), List.forall_mem_cons.mpr ⟨ok_aload_n (i := 0) (k := 0) rfl (idL_H (33, .aload_n 0, 1) (List.mem_of_getElem? (i := 6) rfl)), List.forall_mem_cons.mpr ⟨ok_iload (i := 4) (idL_H (34, .iload 4, 2) (List.mem_of_getElem? (i := 7) rfl)), List.forall_mem_cons.mpr ⟨ok_scd (idL_H (36, .iaload, 1) (List.mem_of_getElem? (i := 8) rfl)), List.forall_mem_cons.mpr ⟨ok_bipush (n := 63) (v := 63) (by decide) (idL_H (37, .bipush 63, 2) (List.mem_of_getElem? (i := 9) rfl)), List.forall_mem_cons.mpr ⟨ok_iand (idL_H (39, .iand, 1) (List.mem_of_getElem? (i := 10) rfl)), List.forall_mem_cons.mpr ⟨ok_ts (by decide) (by decide) (by decide) (idL_H (40, .tableswitch 1845 0 53 #[232, 305, 330, 343, 356, 393, 430, 467, 480, 517, 554, 591, 616, 641, 666, 703, 716, 729, 742, 767, 816, 853, 878, 903, 940, 977, 1014, 1051, 1100, 1125, 1138, 1151, 1176, 1189, 1202, 1215, 1228, 1241, 1350, 1375, 1400, 1465, 1530, 1579, 1616, 1629, 1666, 1691, 1728, 1741, 1754, 1779, 1807, 1832], 232) (List.mem_of_getElem? (i := 11) rfl)), fun _ h => absurd h List.not_mem_nil⟩⟩⟩⟩⟩⟩⟩⟩⟩⟩⟩⟩
noncomputable def ilL_0 : List (Nat × Instr × Nat) := [(272, .aload_n 1, 1), (273, .aload_n 0, 1), (274, .iload 4, 2), (276, .iconst 1, 1), (277, .iadd, 1), (278, .iaload, 1), (279, .aload_n 0, 1), (280, .iload 4, 2), (282, .iconst 2, 1), (283, .iadd, 1), (284, .iaload, 1), (285, .aload_n 0, 1), (286, .iload 4, 2), (288, .iconst 3, 1), (289, .iadd, 1), (290, .iaload, 1), (291, .aload_n 0, 1), (292, .iload 4, 2), (294, .iconst 4, 1), (295, .iadd, 1), (296, .iaload, 1), (297, .aload_n 0, 1), (298, .iload 4, 2), (300, .iconst 5, 1), (301, .iadd, 1), (302, .iaload, 1), (303, .invokevirtual 19, 3), (306, .pop, 1), (307, .aload_n 2, 1), (308, .aload_n 0, 1), (309, .iload 4, 2), (311, .iconst 1, 1), (312, .iadd, 1), (313, .iaload, 1), (314, .aload_n 0, 1), (315, .iload 4, 2), (317, .iconst 2, 1), (318, .iadd, 1), (319, .iaload, 1), (320, .aload_n 0, 1), (321, .iload 4, 2), (323, .iconst 3, 1), (324, .iadd, 1), (325, .iaload, 1), (326, .aload_n 0, 1), (327, .iload 4, 2), (329, .iconst 4, 1), (330, .iadd, 1), (331, .iaload, 1), (332, .aload_n 0, 1), (333, .iload 4, 2), (335, .iconst 5, 1), (336, .iadd, 1), (337, .iaload, 1), (338, .invokevirtual 23, 3), (341, .pop, 1), (342, .goto 1543, 3)]
theorem idL_0 : ∀ x ∈ ilL_0, decode cL_law x.1 = .ok x.2 := sq_ok (B := 272) rfl (by decide +kernel : sqI cL_law 272 (cL_law.data.toList.drop 272) ilL_0 = true)
noncomputable def tbL_0 (l : Launch) (X : Nat × (Nat → Int32)) (d : Nat) (b : Nat × Nat) : List (Nat × OP) := [(272, oAl 272 1 1), (273, oAl 273 1 0), (274, oIl 274 2 4), (276, oIc 276 1 1), (277, o2 277 (fun x y => x + y)), (278, oScd X 278), (279, oAl 279 1 0), (280, oIl 280 2 4), (282, oIc 282 1 2), (283, o2 283 (fun x y => x + y)), (284, oScd X 284), (285, oAl 285 1 0), (286, oIl 286 2 4), (288, oIc 288 1 3), (289, o2 289 (fun x y => x + y)), (290, oScd X 290), (291, oAl 291 1 0), (292, oIl 292 2 4), (294, oIc 294 1 4), (295, o2 295 (fun x y => x + y)), (296, oScd X 296), (297, oAl 297 1 0), (298, oIl 298 2 4), (300, oIc 300 1 5), (301, o2 301 (fun x y => x + y)), (302, oScd X 302), (303, oCv l X d 303 uX6_feed 6 5), (306, oPop 306), (307, oAl 307 1 2), (308, oAl 308 1 0), (309, oIl 309 2 4), (311, oIc 311 1 1), (312, o2 312 (fun x y => x + y)), (313, oScd X 313), (314, oAl 314 1 0), (315, oIl 315 2 4), (317, oIc 317 1 2), (318, o2 318 (fun x y => x + y)), (319, oScd X 319), (320, oAl 320 1 0), (321, oIl 321 2 4), (323, oIc 323 1 3), (324, o2 324 (fun x y => x + y)), (325, oScd X 325), (326, oAl 326 1 0), (327, oIl 327 2 4), (329, oIc 329 1 4), (330, o2 330 (fun x y => x + y)), (331, oScd X 331), (332, oAl 332 1 0), (333, oIl 333 2 4), (335, oIc 335 1 5), (336, o2 336 (fun x y => x + y)), (337, oScd X 337), (338, oCv l X d 338 uX7_feed 7 5), (341, oPop 341), (342, oGo 1885)]
set_option maxRecDepth 20000 in
theorem tkL_0 {l : Launch} {X : Nat × (Nat → Int32)} {d : Nat} {b : Nat × Nat} : ∀ x ∈ tbL_0 l X d b, OK l X uL (d + 1) false b x.1 x.2 :=
  List.forall_mem_cons.mpr ⟨ok_aload_n (i := 1) (k := 1) rfl (idL_0 (272, .aload_n 1, 1) (List.mem_of_getElem? (i := 0) rfl)), List.forall_mem_cons.mpr ⟨ok_aload_n (i := 0) (k := 0) rfl (idL_0 (273, .aload_n 0, 1) (List.mem_of_getElem? (i := 1) rfl)), List.forall_mem_cons.mpr ⟨ok_iload (i := 4) (idL_0 (274, .iload 4, 2) (List.mem_of_getElem? (i := 2) rfl)), List.forall_mem_cons.mpr ⟨ok_iconst (n := 1) (v := 1) (by decide) (idL_0 (276, .iconst 1, 1) (List.mem_of_getElem? (i := 3) rfl)), List.forall_mem_cons.mpr ⟨ok_iadd (idL_0 (277, .iadd, 1) (List.mem_of_getElem? (i := 4) rfl)), List.forall_mem_cons.mpr ⟨ok_scd (idL_0 (278, .iaload, 1) (List.mem_of_getElem? (i := 5) rfl)), List.forall_mem_cons.mpr ⟨ok_aload_n (i := 0) (k := 0) rfl (idL_0 (279, .aload_n 0, 1) (List.mem_of_getElem? (i := 6) rfl)), List.forall_mem_cons.mpr ⟨ok_iload (i := 4) (idL_0 (280, .iload 4, 2) (List.mem_of_getElem? (i := 7) rfl)), List.forall_mem_cons.mpr ⟨ok_iconst (n := 2) (v := 2) (by decide) (idL_0 (282, .iconst 2, 1) (List.mem_of_getElem? (i := 8) rfl)), List.forall_mem_cons.mpr ⟨ok_iadd (idL_0 (283, .iadd, 1) (List.mem_of_getElem? (i := 9) rfl)), List.forall_mem_cons.mpr ⟨ok_scd (idL_0 (284, .iaload, 1) (List.mem_of_getElem? (i := 10) rfl)), List.forall_mem_cons.mpr ⟨ok_aload_n (i := 0) (k := 0) rfl (idL_0 (285, .aload_n 0, 1) (List.mem_of_getElem? (i := 11) rfl)), List.forall_mem_cons.mpr ⟨ok_iload (i := 4) (idL_0 (286, .iload 4, 2) (List.mem_of_getElem? (i := 12) rfl)), List.forall_mem_cons.mpr ⟨ok_iconst (n := 3) (v := 3) (by decide) (idL_0 (288, .iconst 3, 1) (List.mem_of_getElem? (i := 13) rfl)), List.forall_mem_cons.mpr ⟨ok_iadd (idL_0 (289, .iadd, 1) (List.mem_of_getElem? (i := 14) rfl)), List.forall_mem_cons.mpr ⟨ok_scd (idL_0 (290, .iaload, 1) (List.mem_of_getElem? (i := 15) rfl)), List.forall_mem_cons.mpr ⟨ok_aload_n (i := 0) (k := 0) rfl (idL_0 (291, .aload_n 0, 1) (List.mem_of_getElem? (i := 16) rfl)), List.forall_mem_cons.mpr ⟨ok_iload (i := 4) (idL_0 (292, .iload 4, 2) (List.mem_of_getElem? (i := 17) rfl)), List.forall_mem_cons.mpr ⟨ok_iconst (n := 4) (v := 4) (by decide) (idL_0 (294, .iconst 4, 1) (List.mem_of_getElem? (i := 18) rfl)), List.forall_mem_cons.mpr ⟨ok_iadd (idL_0 (295, .iadd, 1) (List.mem_of_getElem? (i := 19) rfl)), List.forall_mem_cons.mpr ⟨ok_scd (idL_0 (296, .iaload, 1) (List.mem_of_getElem? (i := 20) rfl)), List.forall_mem_cons.mpr ⟨ok_aload_n (i := 0) (k := 0) rfl (idL_0 (297, .aload_n 0, 1) (List.mem_of_getElem? (i := 21) rfl)), List.forall_mem_cons.mpr ⟨ok_iload (i := 4) (idL_0 (298, .iload 4, 2) (List.mem_of_getElem? (i := 22) rfl)), List.forall_mem_cons.mpr ⟨ok_iconst (n := 5) (v := 5) (by decide) (idL_0 (300, .iconst 5, 1) (List.mem_of_getElem? (i := 23) rfl)), List.forall_mem_cons.mpr ⟨ok_iadd (idL_0 (301, .iadd, 1) (List.mem_of_getElem? (i := 24) rfl)), List.forall_mem_cons.mpr ⟨ok_scd (idL_0 (302, .iaload, 1) (List.mem_of_getElem? (i := 25) rfl)), List.forall_mem_cons.mpr ⟨ok_cv (c := 6) (T := TX6) (N := 14) cw_X6_feed rfl (by decide) mlL_19 (idL_0 (303, .invokevirtual 19, 3) (List.mem_of_getElem? (i := 26) rfl)), List.forall_mem_cons.mpr ⟨ok_pop (idL_0 (306, .pop, 1) (List.mem_of_getElem? (i := 27) rfl)), List.forall_mem_cons.mpr ⟨ok_aload_n (i := 2) (k := 2) rfl (idL_0 (307, .aload_n 2, 1) (List.mem_of_getElem? (i := 28) rfl)), List.forall_mem_cons.mpr ⟨ok_aload_n (i := 0) (k := 0) rfl (idL_0 (308, .aload_n 0, 1) (List.mem_of_getElem? (i := 29) rfl)), List.forall_mem_cons.mpr ⟨ok_iload (i := 4) (idL_0 (309, .iload 4, 2) (List.mem_of_getElem? (i := 30) rfl)), List.forall_mem_cons.mpr ⟨ok_iconst (n := 1) (v := 1) (by decide) (idL_0 (311, .iconst 1, 1) (List.mem_of_getElem? (i := 31) rfl)), List.forall_mem_cons.mpr ⟨ok_iadd (idL_0 (312, .iadd, 1) (List.mem_of_getElem? (i := 32) rfl)), List.forall_mem_cons.mpr ⟨ok_scd (idL_0 (313, .iaload, 1) (List.mem_of_getElem? (i := 33) rfl)), List.forall_mem_cons.mpr ⟨ok_aload_n (i := 0) (k := 0) rfl (idL_0 (314, .aload_n 0, 1) (List.mem_of_getElem? (i := 34) rfl)), List.forall_mem_cons.mpr ⟨ok_iload (i := 4) (idL_0 (315, .iload 4, 2) (List.mem_of_getElem? (i := 35) rfl)), List.forall_mem_cons.mpr ⟨ok_iconst (n := 2) (v := 2) (by decide) (idL_0 (317, .iconst 2, 1) (List.mem_of_getElem? (i := 36) rfl)), List.forall_mem_cons.mpr ⟨ok_iadd (idL_0 (318, .iadd, 1) (List.mem_of_getElem? (i := 37) rfl)), List.forall_mem_cons.mpr ⟨ok_scd (idL_0 (319, .iaload, 1) (List.mem_of_getElem? (i := 38) rfl)), List.forall_mem_cons.mpr ⟨ok_aload_n (i := 0) (k := 0) rfl (idL_0 (320, .aload_n 0, 1) (List.mem_of_getElem? (i := 39) rfl)), List.forall_mem_cons.mpr ⟨ok_iload (i := 4) (idL_0 (321, .iload 4, 2) (List.mem_of_getElem? (i := 40) rfl)), List.forall_mem_cons.mpr ⟨ok_iconst (n := 3) (v := 3) (by decide) (idL_0 (323, .iconst 3, 1) (List.mem_of_getElem? (i := 41) rfl)), List.forall_mem_cons.mpr ⟨ok_iadd (idL_0 (324, .iadd, 1) (List.mem_of_getElem? (i := 42) rfl)), List.forall_mem_cons.mpr ⟨ok_scd (idL_0 (325, .iaload, 1) (List.mem_of_getElem? (i := 43) rfl)), List.forall_mem_cons.mpr ⟨ok_aload_n (i := 0) (k := 0) rfl (idL_0 (326, .aload_n 0, 1) (List.mem_of_getElem? (i := 44) rfl)), List.forall_mem_cons.mpr ⟨ok_iload (i := 4) (idL_0 (327, .iload 4, 2) (List.mem_of_getElem? (i := 45) rfl)), List.forall_mem_cons.mpr ⟨ok_iconst (n := 4) (v := 4) (by decide) (idL_0 (329, .iconst 4, 1) (List.mem_of_getElem? (i := 46) rfl)), List.forall_mem_cons.mpr ⟨ok_iadd (idL_0 (330, .iadd, 1) (List.mem_of_getElem? (i := 47) rfl)), List.forall_mem_cons.mpr ⟨ok_scd (idL_0 (331, .iaload, 1) (List.mem_of_getElem? (i := 48) rfl)), List.forall_mem_cons.mpr ⟨ok_aload_n (i := 0) (k := 0) rfl (idL_0 (332, .aload_n 0, 1) (List.mem_of_getElem? (i := 49) rfl)), List.forall_mem_cons.mpr ⟨ok_iload (i := 4) (idL_0 (333, .iload 4, 2) (List.mem_of_getElem? (i := 50) rfl)), List.forall_mem_cons.mpr ⟨ok_iconst (n := 5) (v := 5) (by decide) (idL_0 (335, .iconst 5, 1) (List.mem_of_getElem? (i := 51) rfl)), List.forall_mem_cons.mpr ⟨ok_iadd (idL_0 (336, .iadd, 1) (List.mem_of_getElem? (i := 52) rfl)), List.forall_mem_cons.mpr ⟨ok_scd (idL_0 (337, .iaload, 1) (List.mem_of_getElem? (i := 53) rfl)), List.forall_mem_cons.mpr ⟨ok_cv (c := 7) (T := TX7) (N := 44) cw_X7_feed rfl (by decide) mlL_23 (idL_0 (338, .invokevirtual 23, 3) (List.mem_of_getElem? (i := 54) rfl)), List.forall_mem_cons.mpr ⟨ok_pop (idL_0 (341, .pop, 1) (List.mem_of_getElem? (i := 55) rfl)), List.forall_mem_cons.mpr ⟨ok_goto (t := 1885) (by decide) (idL_0 (342, .goto 1543, 3) (List.mem_of_getElem? (i := 56) rfl)), fun _ h => absurd h List.not_mem_nil⟩⟩⟩⟩⟩⟩⟩⟩⟩⟩⟩⟩⟩⟩⟩⟩⟩⟩⟩⟩⟩⟩⟩⟩⟩⟩⟩⟩⟩⟩⟩⟩⟩⟩⟩⟩⟩⟩⟩⟩⟩⟩⟩⟩⟩⟩⟩⟩⟩⟩⟩⟩⟩⟩⟩⟩⟩
noncomputable def ilL_1 : List (Nat × Instr × Nat) := [(345, .aload_n 1, 1), (346, .aload_n 0, 1), (347, .iload 4, 2), (349, .iconst 1, 1), (350, .iadd, 1), (351, .iaload, 1), (352, .invokevirtual 24, 3), (355, .pop, 1), (356, .aload_n 2, 1), (357, .aload_n 0, 1), (358, .iload 4, 2), (360, .iconst 1, 1), (361, .iadd, 1), (362, .iaload, 1), (363, .invokevirtual 27, 3), (366, .pop, 1), (367, .goto 1518, 3)]
theorem idL_1 : ∀ x ∈ ilL_1, decode cL_law x.1 = .ok x.2 := sq_ok (B := 345) rfl (by decide +kernel : sqI cL_law 345 (cL_law.data.toList.drop 345) ilL_1 = true)
noncomputable def tbL_1 (l : Launch) (X : Nat × (Nat → Int32)) (d : Nat) (b : Nat × Nat) : List (Nat × OP) := [(345, oAl 345 1 1), (346, oAl 346 1 0), (347, oIl 347 2 4), (349, oIc 349 1 1), (350, o2 350 (fun x y => x + y)), (351, oScd X 351), (352, oCv l X d 352 uX6_close 6 1), (355, oPop 355), (356, oAl 356 1 2), (357, oAl 357 1 0), (358, oIl 358 2 4), (360, oIc 360 1 1), (361, o2 361 (fun x y => x + y)), (362, oScd X 362), (363, oCv l X d 363 uX7_close 7 1), (366, oPop 366), (367, oGo 1885)]
set_option maxRecDepth 20000 in
theorem tkL_1 {l : Launch} {X : Nat × (Nat → Int32)} {d : Nat} {b : Nat × Nat} : ∀ x ∈ tbL_1 l X d b, OK l X uL (d + 1) false b x.1 x.2 :=
  List.forall_mem_cons.mpr ⟨ok_aload_n (i := 1) (k := 1) rfl (idL_1 (345, .aload_n 1, 1) (List.mem_of_getElem? (i := 0) rfl)), List.forall_mem_cons.mpr ⟨ok_aload_n (i := 0) (k := 0) rfl (idL_1 (346, .aload_n 0, 1) (List.mem_of_getElem? (i := 1) rfl)), List.forall_mem_cons.mpr ⟨ok_iload (i := 4) (idL_1 (347, .iload 4, 2) (List.mem_of_getElem? (i := 2) rfl)), List.forall_mem_cons.mpr ⟨ok_iconst (n := 1) (v := 1) (by decide) (idL_1 (349, .iconst 1, 1) (List.mem_of_getElem? (i := 3) rfl)), List.forall_mem_cons.mpr ⟨ok_iadd (idL_1 (350, .iadd, 1) (List.mem_of_getElem? (i := 4) rfl)), List.forall_mem_cons.mpr ⟨ok_scd (idL_1 (351, .iaload, 1) (List.mem_of_getElem? (i := 5) rfl)), List.forall_mem_cons.mpr ⟨ok_cv (c := 6) (T := TX6) (N := 14) cw_X6_close rfl (by decide) mlL_24 (idL_1 (352, .invokevirtual 24, 3) (List.mem_of_getElem? (i := 6) rfl)), List.forall_mem_cons.mpr ⟨ok_pop (idL_1 (355, .pop, 1) (List.mem_of_getElem? (i := 7) rfl)), List.forall_mem_cons.mpr ⟨ok_aload_n (i := 2) (k := 2) rfl (idL_1 (356, .aload_n 2, 1) (List.mem_of_getElem? (i := 8) rfl)), List.forall_mem_cons.mpr ⟨ok_aload_n (i := 0) (k := 0) rfl (idL_1 (357, .aload_n 0, 1) (List.mem_of_getElem? (i := 9) rfl)), List.forall_mem_cons.mpr ⟨ok_iload (i := 4) (idL_1 (358, .iload 4, 2) (List.mem_of_getElem? (i := 10) rfl)), List.forall_mem_cons.mpr ⟨ok_iconst (n := 1) (v := 1) (by decide) (idL_1 (360, .iconst 1, 1) (List.mem_of_getElem? (i := 11) rfl)), List.forall_mem_cons.mpr ⟨ok_iadd (idL_1 (361, .iadd, 1) (List.mem_of_getElem? (i := 12) rfl)), List.forall_mem_cons.mpr ⟨ok_scd (idL_1 (362, .iaload, 1) (List.mem_of_getElem? (i := 13) rfl)), List.forall_mem_cons.mpr ⟨ok_cv (c := 7) (T := TX7) (N := 44) cw_X7_close rfl (by decide) mlL_27 (idL_1 (363, .invokevirtual 27, 3) (List.mem_of_getElem? (i := 14) rfl)), List.forall_mem_cons.mpr ⟨ok_pop (idL_1 (366, .pop, 1) (List.mem_of_getElem? (i := 15) rfl)), List.forall_mem_cons.mpr ⟨ok_goto (t := 1885) (by decide) (idL_1 (367, .goto 1518, 3) (List.mem_of_getElem? (i := 16) rfl)), fun _ h => absurd h List.not_mem_nil⟩⟩⟩⟩⟩⟩⟩⟩⟩⟩⟩⟩⟩⟩⟩⟩⟩
noncomputable def ilL_2 : List (Nat × Instr × Nat) := [(370, .aload_n 1, 1), (371, .invokevirtual 28, 3), (374, .pop, 1), (375, .aload_n 2, 1), (376, .invokevirtual 32, 3), (379, .pop, 1), (380, .goto 1505, 3)]
theorem idL_2 : ∀ x ∈ ilL_2, decode cL_law x.1 = .ok x.2 := sq_ok (B := 370) rfl (by decide +kernel : sqI cL_law 370 (cL_law.data.toList.drop 370) ilL_2 = true)
noncomputable def tbL_2 (l : Launch) (X : Nat × (Nat → Int32)) (d : Nat) (b : Nat × Nat) : List (Nat × OP) := [(370, oAl 370 1 1), (371, oCv l X d 371 uX6_fault 6 0), (374, oPop 374), (375, oAl 375 1 2), (376, oCv l X d 376 uX7_fault 7 0), (379, oPop 379), (380, oGo 1885)]
set_option maxRecDepth 20000 in
theorem tkL_2 {l : Launch} {X : Nat × (Nat → Int32)} {d : Nat} {b : Nat × Nat} : ∀ x ∈ tbL_2 l X d b, OK l X uL (d + 1) false b x.1 x.2 :=
  List.forall_mem_cons.mpr ⟨ok_aload_n (i := 1) (k := 1) rfl (idL_2 (370, .aload_n 1, 1) (List.mem_of_getElem? (i := 0) rfl)), List.forall_mem_cons.mpr ⟨ok_cv (c := 6) (T := TX6) (N := 14) cw_X6_fault rfl (by decide) mlL_28 (idL_2 (371, .invokevirtual 28, 3) (List.mem_of_getElem? (i := 1) rfl)), List.forall_mem_cons.mpr ⟨ok_pop (idL_2 (374, .pop, 1) (List.mem_of_getElem? (i := 2) rfl)), List.forall_mem_cons.mpr ⟨ok_aload_n (i := 2) (k := 2) rfl (idL_2 (375, .aload_n 2, 1) (List.mem_of_getElem? (i := 3) rfl)), List.forall_mem_cons.mpr ⟨ok_cv (c := 7) (T := TX7) (N := 44) cw_X7_fault rfl (by decide) mlL_32 (idL_2 (376, .invokevirtual 32, 3) (List.mem_of_getElem? (i := 4) rfl)), List.forall_mem_cons.mpr ⟨ok_pop (idL_2 (379, .pop, 1) (List.mem_of_getElem? (i := 5) rfl)), List.forall_mem_cons.mpr ⟨ok_goto (t := 1885) (by decide) (idL_2 (380, .goto 1505, 3) (List.mem_of_getElem? (i := 6) rfl)), fun _ h => absurd h List.not_mem_nil⟩⟩⟩⟩⟩⟩⟩
noncomputable def ilL_3 : List (Nat × Instr × Nat) := [(383, .aload_n 1, 1), (384, .invokevirtual 33, 3), (387, .pop, 1), (388, .aload_n 2, 1), (389, .invokevirtual 36, 3), (392, .pop, 1), (393, .goto 1492, 3)]
theorem idL_3 : ∀ x ∈ ilL_3, decode cL_law x.1 = .ok x.2 := sq_ok (B := 383) rfl (by decide +kernel : sqI cL_law 383 (cL_law.data.toList.drop 383) ilL_3 = true)
noncomputable def tbL_3 (l : Launch) (X : Nat × (Nat → Int32)) (d : Nat) (b : Nat × Nat) : List (Nat × OP) := [(383, oAl 383 1 1), (384, oCv l X d 384 uX6_where 6 0), (387, oPop 387), (388, oAl 388 1 2), (389, oCv l X d 389 uX7_where 7 0), (392, oPop 392), (393, oGo 1885)]
set_option maxRecDepth 20000 in
theorem tkL_3 {l : Launch} {X : Nat × (Nat → Int32)} {d : Nat} {b : Nat × Nat} : ∀ x ∈ tbL_3 l X d b, OK l X uL (d + 1) false b x.1 x.2 :=
  List.forall_mem_cons.mpr ⟨ok_aload_n (i := 1) (k := 1) rfl (idL_3 (383, .aload_n 1, 1) (List.mem_of_getElem? (i := 0) rfl)), List.forall_mem_cons.mpr ⟨ok_cv (c := 6) (T := TX6) (N := 14) cw_X6_where rfl (by decide) mlL_33 (idL_3 (384, .invokevirtual 33, 3) (List.mem_of_getElem? (i := 1) rfl)), List.forall_mem_cons.mpr ⟨ok_pop (idL_3 (387, .pop, 1) (List.mem_of_getElem? (i := 2) rfl)), List.forall_mem_cons.mpr ⟨ok_aload_n (i := 2) (k := 2) rfl (idL_3 (388, .aload_n 2, 1) (List.mem_of_getElem? (i := 3) rfl)), List.forall_mem_cons.mpr ⟨ok_cv (c := 7) (T := TX7) (N := 44) cw_X7_where rfl (by decide) mlL_36 (idL_3 (389, .invokevirtual 36, 3) (List.mem_of_getElem? (i := 4) rfl)), List.forall_mem_cons.mpr ⟨ok_pop (idL_3 (392, .pop, 1) (List.mem_of_getElem? (i := 5) rfl)), List.forall_mem_cons.mpr ⟨ok_goto (t := 1885) (by decide) (idL_3 (393, .goto 1492, 3) (List.mem_of_getElem? (i := 6) rfl)), fun _ h => absurd h List.not_mem_nil⟩⟩⟩⟩⟩⟩⟩
noncomputable def ilL_4 : List (Nat × Instr × Nat) := [(396, .aload_n 1, 1), (397, .aload_n 0, 1), (398, .iload 4, 2), (400, .iconst 1, 1), (401, .iadd, 1), (402, .iaload, 1), (403, .aload_n 0, 1), (404, .iload 4, 2), (406, .iconst 2, 1), (407, .iadd, 1), (408, .iaload, 1), (409, .invokevirtual 37, 3), (412, .pop, 1), (413, .aload_n 2, 1), (414, .aload_n 0, 1), (415, .iload 4, 2), (417, .iconst 1, 1), (418, .iadd, 1), (419, .iaload, 1), (420, .aload_n 0, 1), (421, .iload 4, 2), (423, .iconst 2, 1), (424, .iadd, 1), (425, .iaload, 1), (426, .invokevirtual 41, 3), (429, .pop, 1), (430, .goto 1455, 3)]
theorem idL_4 : ∀ x ∈ ilL_4, decode cL_law x.1 = .ok x.2 := sq_ok (B := 396) rfl (by decide +kernel : sqI cL_law 396 (cL_law.data.toList.drop 396) ilL_4 = true)
noncomputable def tbL_4 (l : Launch) (X : Nat × (Nat → Int32)) (d : Nat) (b : Nat × Nat) : List (Nat × OP) := [(396, oAl 396 1 1), (397, oAl 397 1 0), (398, oIl 398 2 4), (400, oIc 400 1 1), (401, o2 401 (fun x y => x + y)), (402, oScd X 402), (403, oAl 403 1 0), (404, oIl 404 2 4), (406, oIc 406 1 2), (407, o2 407 (fun x y => x + y)), (408, oScd X 408), (409, oCv l X d 409 uX6_face 6 2), (412, oPop 412), (413, oAl 413 1 2), (414, oAl 414 1 0), (415, oIl 415 2 4), (417, oIc 417 1 1), (418, o2 418 (fun x y => x + y)), (419, oScd X 419), (420, oAl 420 1 0), (421, oIl 421 2 4), (423, oIc 423 1 2), (424, o2 424 (fun x y => x + y)), (425, oScd X 425), (426, oCv l X d 426 uX7_face 7 2), (429, oPop 429), (430, oGo 1885)]
set_option maxRecDepth 20000 in
theorem tkL_4 {l : Launch} {X : Nat × (Nat → Int32)} {d : Nat} {b : Nat × Nat} : ∀ x ∈ tbL_4 l X d b, OK l X uL (d + 1) false b x.1 x.2 :=
  List.forall_mem_cons.mpr ⟨ok_aload_n (i := 1) (k := 1) rfl (idL_4 (396, .aload_n 1, 1) (List.mem_of_getElem? (i := 0) rfl)), List.forall_mem_cons.mpr ⟨ok_aload_n (i := 0) (k := 0) rfl (idL_4 (397, .aload_n 0, 1) (List.mem_of_getElem? (i := 1) rfl)), List.forall_mem_cons.mpr ⟨ok_iload (i := 4) (idL_4 (398, .iload 4, 2) (List.mem_of_getElem? (i := 2) rfl)), List.forall_mem_cons.mpr ⟨ok_iconst (n := 1) (v := 1) (by decide) (idL_4 (400, .iconst 1, 1) (List.mem_of_getElem? (i := 3) rfl)), List.forall_mem_cons.mpr ⟨ok_iadd (idL_4 (401, .iadd, 1) (List.mem_of_getElem? (i := 4) rfl)), List.forall_mem_cons.mpr ⟨ok_scd (idL_4 (402, .iaload, 1) (List.mem_of_getElem? (i := 5) rfl)), List.forall_mem_cons.mpr ⟨ok_aload_n (i := 0) (k := 0) rfl (idL_4 (403, .aload_n 0, 1) (List.mem_of_getElem? (i := 6) rfl)), List.forall_mem_cons.mpr ⟨ok_iload (i := 4) (idL_4 (404, .iload 4, 2) (List.mem_of_getElem? (i := 7) rfl)), List.forall_mem_cons.mpr ⟨ok_iconst (n := 2) (v := 2) (by decide) (idL_4 (406, .iconst 2, 1) (List.mem_of_getElem? (i := 8) rfl)), List.forall_mem_cons.mpr ⟨ok_iadd (idL_4 (407, .iadd, 1) (List.mem_of_getElem? (i := 9) rfl)), List.forall_mem_cons.mpr ⟨ok_scd (idL_4 (408, .iaload, 1) (List.mem_of_getElem? (i := 10) rfl)), List.forall_mem_cons.mpr ⟨ok_cv (c := 6) (T := TX6) (N := 14) cw_X6_face rfl (by decide) mlL_37 (idL_4 (409, .invokevirtual 37, 3) (List.mem_of_getElem? (i := 11) rfl)), List.forall_mem_cons.mpr ⟨ok_pop (idL_4 (412, .pop, 1) (List.mem_of_getElem? (i := 12) rfl)), List.forall_mem_cons.mpr ⟨ok_aload_n (i := 2) (k := 2) rfl (idL_4 (413, .aload_n 2, 1) (List.mem_of_getElem? (i := 13) rfl)), List.forall_mem_cons.mpr ⟨ok_aload_n (i := 0) (k := 0) rfl (idL_4 (414, .aload_n 0, 1) (List.mem_of_getElem? (i := 14) rfl)), List.forall_mem_cons.mpr ⟨ok_iload (i := 4) (idL_4 (415, .iload 4, 2) (List.mem_of_getElem? (i := 15) rfl)), List.forall_mem_cons.mpr ⟨ok_iconst (n := 1) (v := 1) (by decide) (idL_4 (417, .iconst 1, 1) (List.mem_of_getElem? (i := 16) rfl)), List.forall_mem_cons.mpr ⟨ok_iadd (idL_4 (418, .iadd, 1) (List.mem_of_getElem? (i := 17) rfl)), List.forall_mem_cons.mpr ⟨ok_scd (idL_4 (419, .iaload, 1) (List.mem_of_getElem? (i := 18) rfl)), List.forall_mem_cons.mpr ⟨ok_aload_n (i := 0) (k := 0) rfl (idL_4 (420, .aload_n 0, 1) (List.mem_of_getElem? (i := 19) rfl)), List.forall_mem_cons.mpr ⟨ok_iload (i := 4) (idL_4 (421, .iload 4, 2) (List.mem_of_getElem? (i := 20) rfl)), List.forall_mem_cons.mpr ⟨ok_iconst (n := 2) (v := 2) (by decide) (idL_4 (423, .iconst 2, 1) (List.mem_of_getElem? (i := 21) rfl)), List.forall_mem_cons.mpr ⟨ok_iadd (idL_4 (424, .iadd, 1) (List.mem_of_getElem? (i := 22) rfl)), List.forall_mem_cons.mpr ⟨ok_scd (idL_4 (425, .iaload, 1) (List.mem_of_getElem? (i := 23) rfl)), List.forall_mem_cons.mpr ⟨ok_cv (c := 7) (T := TX7) (N := 44) cw_X7_face rfl (by decide) mlL_41 (idL_4 (426, .invokevirtual 41, 3) (List.mem_of_getElem? (i := 24) rfl)), List.forall_mem_cons.mpr ⟨ok_pop (idL_4 (429, .pop, 1) (List.mem_of_getElem? (i := 25) rfl)), List.forall_mem_cons.mpr ⟨ok_goto (t := 1885) (by decide) (idL_4 (430, .goto 1455, 3) (List.mem_of_getElem? (i := 26) rfl)), fun _ h => absurd h List.not_mem_nil⟩⟩⟩⟩⟩⟩⟩⟩⟩⟩⟩⟩⟩⟩⟩⟩⟩⟩⟩⟩⟩⟩⟩⟩⟩⟩⟩
noncomputable def ilL_5 : List (Nat × Instr × Nat) := [(433, .aload_n 1, 1), (434, .aload_n 0, 1), (435, .iload 4, 2), (437, .iconst 1, 1), (438, .iadd, 1), (439, .iaload, 1), (440, .aload_n 0, 1), (441, .iload 4, 2), (443, .iconst 2, 1), (444, .iadd, 1), (445, .iaload, 1), (446, .invokevirtual 42, 3), (449, .pop, 1), (450, .aload_n 2, 1), (451, .aload_n 0, 1), (452, .iload 4, 2), (454, .iconst 1, 1), (455, .iadd, 1), (456, .iaload, 1), (457, .aload_n 0, 1), (458, .iload 4, 2), (460, .iconst 2, 1), (461, .iadd, 1), (462, .iaload, 1), (463, .invokevirtual 45, 3), (466, .pop, 1), (467, .goto 1418, 3)]
theorem idL_5 : ∀ x ∈ ilL_5, decode cL_law x.1 = .ok x.2 := sq_ok (B := 433) rfl (by decide +kernel : sqI cL_law 433 (cL_law.data.toList.drop 433) ilL_5 = true)
noncomputable def tbL_5 (l : Launch) (X : Nat × (Nat → Int32)) (d : Nat) (b : Nat × Nat) : List (Nat × OP) := [(433, oAl 433 1 1), (434, oAl 434 1 0), (435, oIl 435 2 4), (437, oIc 437 1 1), (438, o2 438 (fun x y => x + y)), (439, oScd X 439), (440, oAl 440 1 0), (441, oIl 441 2 4), (443, oIc 443 1 2), (444, o2 444 (fun x y => x + y)), (445, oScd X 445), (446, oCv l X d 446 uX6_canon 6 2), (449, oPop 449), (450, oAl 450 1 2), (451, oAl 451 1 0), (452, oIl 452 2 4), (454, oIc 454 1 1), (455, o2 455 (fun x y => x + y)), (456, oScd X 456), (457, oAl 457 1 0), (458, oIl 458 2 4), (460, oIc 460 1 2), (461, o2 461 (fun x y => x + y)), (462, oScd X 462), (463, oCv l X d 463 uX7_canon 7 2), (466, oPop 466), (467, oGo 1885)]
set_option maxRecDepth 20000 in
theorem tkL_5 {l : Launch} {X : Nat × (Nat → Int32)} {d : Nat} {b : Nat × Nat} : ∀ x ∈ tbL_5 l X d b, OK l X uL (d + 1) false b x.1 x.2 :=
  List.forall_mem_cons.mpr ⟨ok_aload_n (i := 1) (k := 1) rfl (idL_5 (433, .aload_n 1, 1) (List.mem_of_getElem? (i := 0) rfl)), List.forall_mem_cons.mpr ⟨ok_aload_n (i := 0) (k := 0) rfl (idL_5 (434, .aload_n 0, 1) (List.mem_of_getElem? (i := 1) rfl)), List.forall_mem_cons.mpr ⟨ok_iload (i := 4) (idL_5 (435, .iload 4, 2) (List.mem_of_getElem? (i := 2) rfl)), List.forall_mem_cons.mpr ⟨ok_iconst (n := 1) (v := 1) (by decide) (idL_5 (437, .iconst 1, 1) (List.mem_of_getElem? (i := 3) rfl)), List.forall_mem_cons.mpr ⟨ok_iadd (idL_5 (438, .iadd, 1) (List.mem_of_getElem? (i := 4) rfl)), List.forall_mem_cons.mpr ⟨ok_scd (idL_5 (439, .iaload, 1) (List.mem_of_getElem? (i := 5) rfl)), List.forall_mem_cons.mpr ⟨ok_aload_n (i := 0) (k := 0) rfl (idL_5 (440, .aload_n 0, 1) (List.mem_of_getElem? (i := 6) rfl)), List.forall_mem_cons.mpr ⟨ok_iload (i := 4) (idL_5 (441, .iload 4, 2) (List.mem_of_getElem? (i := 7) rfl)), List.forall_mem_cons.mpr ⟨ok_iconst (n := 2) (v := 2) (by decide) (idL_5 (443, .iconst 2, 1) (List.mem_of_getElem? (i := 8) rfl)), List.forall_mem_cons.mpr ⟨ok_iadd (idL_5 (444, .iadd, 1) (List.mem_of_getElem? (i := 9) rfl)), List.forall_mem_cons.mpr ⟨ok_scd (idL_5 (445, .iaload, 1) (List.mem_of_getElem? (i := 10) rfl)), List.forall_mem_cons.mpr ⟨ok_cv (c := 6) (T := TX6) (N := 14) cw_X6_canon rfl (by decide) mlL_42 (idL_5 (446, .invokevirtual 42, 3) (List.mem_of_getElem? (i := 11) rfl)), List.forall_mem_cons.mpr ⟨ok_pop (idL_5 (449, .pop, 1) (List.mem_of_getElem? (i := 12) rfl)), List.forall_mem_cons.mpr ⟨ok_aload_n (i := 2) (k := 2) rfl (idL_5 (450, .aload_n 2, 1) (List.mem_of_getElem? (i := 13) rfl)), List.forall_mem_cons.mpr ⟨ok_aload_n (i := 0) (k := 0) rfl (idL_5 (451, .aload_n 0, 1) (List.mem_of_getElem? (i := 14) rfl)), List.forall_mem_cons.mpr ⟨ok_iload (i := 4) (idL_5 (452, .iload 4, 2) (List.mem_of_getElem? (i := 15) rfl)), List.forall_mem_cons.mpr ⟨ok_iconst (n := 1) (v := 1) (by decide) (idL_5 (454, .iconst 1, 1) (List.mem_of_getElem? (i := 16) rfl)), List.forall_mem_cons.mpr ⟨ok_iadd (idL_5 (455, .iadd, 1) (List.mem_of_getElem? (i := 17) rfl)), List.forall_mem_cons.mpr ⟨ok_scd (idL_5 (456, .iaload, 1) (List.mem_of_getElem? (i := 18) rfl)), List.forall_mem_cons.mpr ⟨ok_aload_n (i := 0) (k := 0) rfl (idL_5 (457, .aload_n 0, 1) (List.mem_of_getElem? (i := 19) rfl)), List.forall_mem_cons.mpr ⟨ok_iload (i := 4) (idL_5 (458, .iload 4, 2) (List.mem_of_getElem? (i := 20) rfl)), List.forall_mem_cons.mpr ⟨ok_iconst (n := 2) (v := 2) (by decide) (idL_5 (460, .iconst 2, 1) (List.mem_of_getElem? (i := 21) rfl)), List.forall_mem_cons.mpr ⟨ok_iadd (idL_5 (461, .iadd, 1) (List.mem_of_getElem? (i := 22) rfl)), List.forall_mem_cons.mpr ⟨ok_scd (idL_5 (462, .iaload, 1) (List.mem_of_getElem? (i := 23) rfl)), List.forall_mem_cons.mpr ⟨ok_cv (c := 7) (T := TX7) (N := 44) cw_X7_canon rfl (by decide) mlL_45 (idL_5 (463, .invokevirtual 45, 3) (List.mem_of_getElem? (i := 24) rfl)), List.forall_mem_cons.mpr ⟨ok_pop (idL_5 (466, .pop, 1) (List.mem_of_getElem? (i := 25) rfl)), List.forall_mem_cons.mpr ⟨ok_goto (t := 1885) (by decide) (idL_5 (467, .goto 1418, 3) (List.mem_of_getElem? (i := 26) rfl)), fun _ h => absurd h List.not_mem_nil⟩⟩⟩⟩⟩⟩⟩⟩⟩⟩⟩⟩⟩⟩⟩⟩⟩⟩⟩⟩⟩⟩⟩⟩⟩⟩⟩
noncomputable def ilL_6 : List (Nat × Instr × Nat) := [(470, .aload_n 1, 1), (471, .aload_n 0, 1), (472, .iload 4, 2), (474, .iconst 1, 1), (475, .iadd, 1), (476, .iaload, 1), (477, .aload_n 0, 1), (478, .iload 4, 2), (480, .iconst 2, 1), (481, .iadd, 1), (482, .iaload, 1), (483, .invokevirtual 46, 3), (486, .pop, 1), (487, .aload_n 2, 1), (488, .aload_n 0, 1), (489, .iload 4, 2), (491, .iconst 1, 1), (492, .iadd, 1), (493, .iaload, 1), (494, .aload_n 0, 1), (495, .iload 4, 2), (497, .iconst 2, 1), (498, .iadd, 1), (499, .iaload, 1), (500, .invokevirtual 49, 3), (503, .pop, 1), (504, .goto 1381, 3)]
theorem idL_6 : ∀ x ∈ ilL_6, decode cL_law x.1 = .ok x.2 := sq_ok (B := 470) rfl (by decide +kernel : sqI cL_law 470 (cL_law.data.toList.drop 470) ilL_6 = true)
noncomputable def tbL_6 (l : Launch) (X : Nat × (Nat → Int32)) (d : Nat) (b : Nat × Nat) : List (Nat × OP) := [(470, oAl 470 1 1), (471, oAl 471 1 0), (472, oIl 472 2 4), (474, oIc 474 1 1), (475, o2 475 (fun x y => x + y)), (476, oScd X 476), (477, oAl 477 1 0), (478, oIl 478 2 4), (480, oIc 480 1 2), (481, o2 481 (fun x y => x + y)), (482, oScd X 482), (483, oCv l X d 483 uX6_cell 6 2), (486, oPop 486), (487, oAl 487 1 2), (488, oAl 488 1 0), (489, oIl 489 2 4), (491, oIc 491 1 1), (492, o2 492 (fun x y => x + y)), (493, oScd X 493), (494, oAl 494 1 0), (495, oIl 495 2 4), (497, oIc 497 1 2), (498, o2 498 (fun x y => x + y)), (499, oScd X 499), (500, oCv l X d 500 uX7_cell 7 2), (503, oPop 503), (504, oGo 1885)]
set_option maxRecDepth 20000 in
theorem tkL_6 {l : Launch} {X : Nat × (Nat → Int32)} {d : Nat} {b : Nat × Nat} : ∀ x ∈ tbL_6 l X d b, OK l X uL (d + 1) false b x.1 x.2 :=
  List.forall_mem_cons.mpr ⟨ok_aload_n (i := 1) (k := 1) rfl (idL_6 (470, .aload_n 1, 1) (List.mem_of_getElem? (i := 0) rfl)), List.forall_mem_cons.mpr ⟨ok_aload_n (i := 0) (k := 0) rfl (idL_6 (471, .aload_n 0, 1) (List.mem_of_getElem? (i := 1) rfl)), List.forall_mem_cons.mpr ⟨ok_iload (i := 4) (idL_6 (472, .iload 4, 2) (List.mem_of_getElem? (i := 2) rfl)), List.forall_mem_cons.mpr ⟨ok_iconst (n := 1) (v := 1) (by decide) (idL_6 (474, .iconst 1, 1) (List.mem_of_getElem? (i := 3) rfl)), List.forall_mem_cons.mpr ⟨ok_iadd (idL_6 (475, .iadd, 1) (List.mem_of_getElem? (i := 4) rfl)), List.forall_mem_cons.mpr ⟨ok_scd (idL_6 (476, .iaload, 1) (List.mem_of_getElem? (i := 5) rfl)), List.forall_mem_cons.mpr ⟨ok_aload_n (i := 0) (k := 0) rfl (idL_6 (477, .aload_n 0, 1) (List.mem_of_getElem? (i := 6) rfl)), List.forall_mem_cons.mpr ⟨ok_iload (i := 4) (idL_6 (478, .iload 4, 2) (List.mem_of_getElem? (i := 7) rfl)), List.forall_mem_cons.mpr ⟨ok_iconst (n := 2) (v := 2) (by decide) (idL_6 (480, .iconst 2, 1) (List.mem_of_getElem? (i := 8) rfl)), List.forall_mem_cons.mpr ⟨ok_iadd (idL_6 (481, .iadd, 1) (List.mem_of_getElem? (i := 9) rfl)), List.forall_mem_cons.mpr ⟨ok_scd (idL_6 (482, .iaload, 1) (List.mem_of_getElem? (i := 10) rfl)), List.forall_mem_cons.mpr ⟨ok_cv (c := 6) (T := TX6) (N := 14) cw_X6_cell rfl (by decide) mlL_46 (idL_6 (483, .invokevirtual 46, 3) (List.mem_of_getElem? (i := 11) rfl)), List.forall_mem_cons.mpr ⟨ok_pop (idL_6 (486, .pop, 1) (List.mem_of_getElem? (i := 12) rfl)), List.forall_mem_cons.mpr ⟨ok_aload_n (i := 2) (k := 2) rfl (idL_6 (487, .aload_n 2, 1) (List.mem_of_getElem? (i := 13) rfl)), List.forall_mem_cons.mpr ⟨ok_aload_n (i := 0) (k := 0) rfl (idL_6 (488, .aload_n 0, 1) (List.mem_of_getElem? (i := 14) rfl)), List.forall_mem_cons.mpr ⟨ok_iload (i := 4) (idL_6 (489, .iload 4, 2) (List.mem_of_getElem? (i := 15) rfl)), List.forall_mem_cons.mpr ⟨ok_iconst (n := 1) (v := 1) (by decide) (idL_6 (491, .iconst 1, 1) (List.mem_of_getElem? (i := 16) rfl)), List.forall_mem_cons.mpr ⟨ok_iadd (idL_6 (492, .iadd, 1) (List.mem_of_getElem? (i := 17) rfl)), List.forall_mem_cons.mpr ⟨ok_scd (idL_6 (493, .iaload, 1) (List.mem_of_getElem? (i := 18) rfl)), List.forall_mem_cons.mpr ⟨ok_aload_n (i := 0) (k := 0) rfl (idL_6 (494, .aload_n 0, 1) (List.mem_of_getElem? (i := 19) rfl)), List.forall_mem_cons.mpr ⟨ok_iload (i := 4) (idL_6 (495, .iload 4, 2) (List.mem_of_getElem? (i := 20) rfl)), List.forall_mem_cons.mpr ⟨ok_iconst (n := 2) (v := 2) (by decide) (idL_6 (497, .iconst 2, 1) (List.mem_of_getElem? (i := 21) rfl)), List.forall_mem_cons.mpr ⟨ok_iadd (idL_6 (498, .iadd, 1) (List.mem_of_getElem? (i := 22) rfl)), List.forall_mem_cons.mpr ⟨ok_scd (idL_6 (499, .iaload, 1) (List.mem_of_getElem? (i := 23) rfl)), List.forall_mem_cons.mpr ⟨ok_cv (c := 7) (T := TX7) (N := 44) cw_X7_cell rfl (by decide) mlL_49 (idL_6 (500, .invokevirtual 49, 3) (List.mem_of_getElem? (i := 24) rfl)), List.forall_mem_cons.mpr ⟨ok_pop (idL_6 (503, .pop, 1) (List.mem_of_getElem? (i := 25) rfl)), List.forall_mem_cons.mpr ⟨ok_goto (t := 1885) (by decide) (idL_6 (504, .goto 1381, 3) (List.mem_of_getElem? (i := 26) rfl)), fun _ h => absurd h List.not_mem_nil⟩⟩⟩⟩⟩⟩⟩⟩⟩⟩⟩⟩⟩⟩⟩⟩⟩⟩⟩⟩⟩⟩⟩⟩⟩⟩⟩
noncomputable def ilL_7 : List (Nat × Instr × Nat) := [(507, .aload_n 1, 1), (508, .invokevirtual 50, 3), (511, .pop, 1), (512, .aload_n 2, 1), (513, .invokevirtual 53, 3), (516, .pop, 1), (517, .goto 1368, 3)]
theorem idL_7 : ∀ x ∈ ilL_7, decode cL_law x.1 = .ok x.2 := sq_ok (B := 507) rfl (by decide +kernel : sqI cL_law 507 (cL_law.data.toList.drop 507) ilL_7 = true)
noncomputable def tbL_7 (l : Launch) (X : Nat × (Nat → Int32)) (d : Nat) (b : Nat × Nat) : List (Nat × OP) := [(507, oAl 507 1 1), (508, oCv l X d 508 uX6_burden 6 0), (511, oPop 511), (512, oAl 512 1 2), (513, oCv l X d 513 uX7_burden 7 0), (516, oPop 516), (517, oGo 1885)]
set_option maxRecDepth 20000 in
theorem tkL_7 {l : Launch} {X : Nat × (Nat → Int32)} {d : Nat} {b : Nat × Nat} : ∀ x ∈ tbL_7 l X d b, OK l X uL (d + 1) false b x.1 x.2 :=
  List.forall_mem_cons.mpr ⟨ok_aload_n (i := 1) (k := 1) rfl (idL_7 (507, .aload_n 1, 1) (List.mem_of_getElem? (i := 0) rfl)), List.forall_mem_cons.mpr ⟨ok_cv (c := 6) (T := TX6) (N := 14) cw_X6_burden rfl (by decide) mlL_50 (idL_7 (508, .invokevirtual 50, 3) (List.mem_of_getElem? (i := 1) rfl)), List.forall_mem_cons.mpr ⟨ok_pop (idL_7 (511, .pop, 1) (List.mem_of_getElem? (i := 2) rfl)), List.forall_mem_cons.mpr ⟨ok_aload_n (i := 2) (k := 2) rfl (idL_7 (512, .aload_n 2, 1) (List.mem_of_getElem? (i := 3) rfl)), List.forall_mem_cons.mpr ⟨ok_cv (c := 7) (T := TX7) (N := 44) cw_X7_burden rfl (by decide) mlL_53 (idL_7 (513, .invokevirtual 53, 3) (List.mem_of_getElem? (i := 4) rfl)), List.forall_mem_cons.mpr ⟨ok_pop (idL_7 (516, .pop, 1) (List.mem_of_getElem? (i := 5) rfl)), List.forall_mem_cons.mpr ⟨ok_goto (t := 1885) (by decide) (idL_7 (517, .goto 1368, 3) (List.mem_of_getElem? (i := 6) rfl)), fun _ h => absurd h List.not_mem_nil⟩⟩⟩⟩⟩⟩⟩
noncomputable def ilL_8 : List (Nat × Instr × Nat) := [(520, .aload_n 1, 1), (521, .aload_n 0, 1), (522, .iload 4, 2), (524, .iconst 1, 1), (525, .iadd, 1), (526, .iaload, 1), (527, .aload_n 0, 1), (528, .iload 4, 2), (530, .iconst 2, 1), (531, .iadd, 1), (532, .iaload, 1), (533, .invokevirtual 54, 3), (536, .pop, 1), (537, .aload_n 2, 1), (538, .aload_n 0, 1), (539, .iload 4, 2), (541, .iconst 1, 1), (542, .iadd, 1), (543, .iaload, 1), (544, .aload_n 0, 1), (545, .iload 4, 2), (547, .iconst 2, 1), (548, .iadd, 1), (549, .iaload, 1), (550, .invokevirtual 57, 3), (553, .pop, 1), (554, .goto 1331, 3)]
theorem idL_8 : ∀ x ∈ ilL_8, decode cL_law x.1 = .ok x.2 := sq_ok (B := 520) rfl (by decide +kernel : sqI cL_law 520 (cL_law.data.toList.drop 520) ilL_8 = true)
noncomputable def tbL_8 (l : Launch) (X : Nat × (Nat → Int32)) (d : Nat) (b : Nat × Nat) : List (Nat × OP) := [(520, oAl 520 1 1), (521, oAl 521 1 0), (522, oIl 522 2 4), (524, oIc 524 1 1), (525, o2 525 (fun x y => x + y)), (526, oScd X 526), (527, oAl 527 1 0), (528, oIl 528 2 4), (530, oIc 530 1 2), (531, o2 531 (fun x y => x + y)), (532, oScd X 532), (533, oCv l X d 533 uX6_bears 6 2), (536, oPop 536), (537, oAl 537 1 2), (538, oAl 538 1 0), (539, oIl 539 2 4), (541, oIc 541 1 1), (542, o2 542 (fun x y => x + y)), (543, oScd X 543), (544, oAl 544 1 0), (545, oIl 545 2 4), (547, oIc 547 1 2), (548, o2 548 (fun x y => x + y)), (549, oScd X 549), (550, oCv l X d 550 uX7_bears 7 2), (553, oPop 553), (554, oGo 1885)]
set_option maxRecDepth 20000 in
theorem tkL_8 {l : Launch} {X : Nat × (Nat → Int32)} {d : Nat} {b : Nat × Nat} : ∀ x ∈ tbL_8 l X d b, OK l X uL (d + 1) false b x.1 x.2 :=
  List.forall_mem_cons.mpr ⟨ok_aload_n (i := 1) (k := 1) rfl (idL_8 (520, .aload_n 1, 1) (List.mem_of_getElem? (i := 0) rfl)), List.forall_mem_cons.mpr ⟨ok_aload_n (i := 0) (k := 0) rfl (idL_8 (521, .aload_n 0, 1) (List.mem_of_getElem? (i := 1) rfl)), List.forall_mem_cons.mpr ⟨ok_iload (i := 4) (idL_8 (522, .iload 4, 2) (List.mem_of_getElem? (i := 2) rfl)), List.forall_mem_cons.mpr ⟨ok_iconst (n := 1) (v := 1) (by decide) (idL_8 (524, .iconst 1, 1) (List.mem_of_getElem? (i := 3) rfl)), List.forall_mem_cons.mpr ⟨ok_iadd (idL_8 (525, .iadd, 1) (List.mem_of_getElem? (i := 4) rfl)), List.forall_mem_cons.mpr ⟨ok_scd (idL_8 (526, .iaload, 1) (List.mem_of_getElem? (i := 5) rfl)), List.forall_mem_cons.mpr ⟨ok_aload_n (i := 0) (k := 0) rfl (idL_8 (527, .aload_n 0, 1) (List.mem_of_getElem? (i := 6) rfl)), List.forall_mem_cons.mpr ⟨ok_iload (i := 4) (idL_8 (528, .iload 4, 2) (List.mem_of_getElem? (i := 7) rfl)), List.forall_mem_cons.mpr ⟨ok_iconst (n := 2) (v := 2) (by decide) (idL_8 (530, .iconst 2, 1) (List.mem_of_getElem? (i := 8) rfl)), List.forall_mem_cons.mpr ⟨ok_iadd (idL_8 (531, .iadd, 1) (List.mem_of_getElem? (i := 9) rfl)), List.forall_mem_cons.mpr ⟨ok_scd (idL_8 (532, .iaload, 1) (List.mem_of_getElem? (i := 10) rfl)), List.forall_mem_cons.mpr ⟨ok_cv (c := 6) (T := TX6) (N := 14) cw_X6_bears rfl (by decide) mlL_54 (idL_8 (533, .invokevirtual 54, 3) (List.mem_of_getElem? (i := 11) rfl)), List.forall_mem_cons.mpr ⟨ok_pop (idL_8 (536, .pop, 1) (List.mem_of_getElem? (i := 12) rfl)), List.forall_mem_cons.mpr ⟨ok_aload_n (i := 2) (k := 2) rfl (idL_8 (537, .aload_n 2, 1) (List.mem_of_getElem? (i := 13) rfl)), List.forall_mem_cons.mpr ⟨ok_aload_n (i := 0) (k := 0) rfl (idL_8 (538, .aload_n 0, 1) (List.mem_of_getElem? (i := 14) rfl)), List.forall_mem_cons.mpr ⟨ok_iload (i := 4) (idL_8 (539, .iload 4, 2) (List.mem_of_getElem? (i := 15) rfl)), List.forall_mem_cons.mpr ⟨ok_iconst (n := 1) (v := 1) (by decide) (idL_8 (541, .iconst 1, 1) (List.mem_of_getElem? (i := 16) rfl)), List.forall_mem_cons.mpr ⟨ok_iadd (idL_8 (542, .iadd, 1) (List.mem_of_getElem? (i := 17) rfl)), List.forall_mem_cons.mpr ⟨ok_scd (idL_8 (543, .iaload, 1) (List.mem_of_getElem? (i := 18) rfl)), List.forall_mem_cons.mpr ⟨ok_aload_n (i := 0) (k := 0) rfl (idL_8 (544, .aload_n 0, 1) (List.mem_of_getElem? (i := 19) rfl)), List.forall_mem_cons.mpr ⟨ok_iload (i := 4) (idL_8 (545, .iload 4, 2) (List.mem_of_getElem? (i := 20) rfl)), List.forall_mem_cons.mpr ⟨ok_iconst (n := 2) (v := 2) (by decide) (idL_8 (547, .iconst 2, 1) (List.mem_of_getElem? (i := 21) rfl)), List.forall_mem_cons.mpr ⟨ok_iadd (idL_8 (548, .iadd, 1) (List.mem_of_getElem? (i := 22) rfl)), List.forall_mem_cons.mpr ⟨ok_scd (idL_8 (549, .iaload, 1) (List.mem_of_getElem? (i := 23) rfl)), List.forall_mem_cons.mpr ⟨ok_cv (c := 7) (T := TX7) (N := 44) cw_X7_bears rfl (by decide) mlL_57 (idL_8 (550, .invokevirtual 57, 3) (List.mem_of_getElem? (i := 24) rfl)), List.forall_mem_cons.mpr ⟨ok_pop (idL_8 (553, .pop, 1) (List.mem_of_getElem? (i := 25) rfl)), List.forall_mem_cons.mpr ⟨ok_goto (t := 1885) (by decide) (idL_8 (554, .goto 1331, 3) (List.mem_of_getElem? (i := 26) rfl)), fun _ h => absurd h List.not_mem_nil⟩⟩⟩⟩⟩⟩⟩⟩⟩⟩⟩⟩⟩⟩⟩⟩⟩⟩⟩⟩⟩⟩⟩⟩⟩⟩⟩
noncomputable def ilL_9 : List (Nat × Instr × Nat) := [(557, .aload_n 1, 1), (558, .aload_n 0, 1), (559, .iload 4, 2), (561, .iconst 1, 1), (562, .iadd, 1), (563, .iaload, 1), (564, .aload_n 0, 1), (565, .iload 4, 2), (567, .iconst 2, 1), (568, .iadd, 1), (569, .iaload, 1), (570, .invokevirtual 58, 3), (573, .pop, 1), (574, .aload_n 2, 1), (575, .aload_n 0, 1), (576, .iload 4, 2), (578, .iconst 1, 1), (579, .iadd, 1), (580, .iaload, 1), (581, .aload_n 0, 1), (582, .iload 4, 2), (584, .iconst 2, 1), (585, .iadd, 1), (586, .iaload, 1), (587, .invokevirtual 61, 3), (590, .pop, 1), (591, .goto 1294, 3)]
theorem idL_9 : ∀ x ∈ ilL_9, decode cL_law x.1 = .ok x.2 := sq_ok (B := 557) rfl (by decide +kernel : sqI cL_law 557 (cL_law.data.toList.drop 557) ilL_9 = true)
noncomputable def tbL_9 (l : Launch) (X : Nat × (Nat → Int32)) (d : Nat) (b : Nat × Nat) : List (Nat × OP) := [(557, oAl 557 1 1), (558, oAl 558 1 0), (559, oIl 559 2 4), (561, oIc 561 1 1), (562, o2 562 (fun x y => x + y)), (563, oScd X 563), (564, oAl 564 1 0), (565, oIl 565 2 4), (567, oIc 567 1 2), (568, o2 568 (fun x y => x + y)), (569, oScd X 569), (570, oCv l X d 570 uX6_holds 6 2), (573, oPop 573), (574, oAl 574 1 2), (575, oAl 575 1 0), (576, oIl 576 2 4), (578, oIc 578 1 1), (579, o2 579 (fun x y => x + y)), (580, oScd X 580), (581, oAl 581 1 0), (582, oIl 582 2 4), (584, oIc 584 1 2), (585, o2 585 (fun x y => x + y)), (586, oScd X 586), (587, oCv l X d 587 uX7_holds 7 2), (590, oPop 590), (591, oGo 1885)]
set_option maxRecDepth 20000 in
theorem tkL_9 {l : Launch} {X : Nat × (Nat → Int32)} {d : Nat} {b : Nat × Nat} : ∀ x ∈ tbL_9 l X d b, OK l X uL (d + 1) false b x.1 x.2 :=
  List.forall_mem_cons.mpr ⟨ok_aload_n (i := 1) (k := 1) rfl (idL_9 (557, .aload_n 1, 1) (List.mem_of_getElem? (i := 0) rfl)), List.forall_mem_cons.mpr ⟨ok_aload_n (i := 0) (k := 0) rfl (idL_9 (558, .aload_n 0, 1) (List.mem_of_getElem? (i := 1) rfl)), List.forall_mem_cons.mpr ⟨ok_iload (i := 4) (idL_9 (559, .iload 4, 2) (List.mem_of_getElem? (i := 2) rfl)), List.forall_mem_cons.mpr ⟨ok_iconst (n := 1) (v := 1) (by decide) (idL_9 (561, .iconst 1, 1) (List.mem_of_getElem? (i := 3) rfl)), List.forall_mem_cons.mpr ⟨ok_iadd (idL_9 (562, .iadd, 1) (List.mem_of_getElem? (i := 4) rfl)), List.forall_mem_cons.mpr ⟨ok_scd (idL_9 (563, .iaload, 1) (List.mem_of_getElem? (i := 5) rfl)), List.forall_mem_cons.mpr ⟨ok_aload_n (i := 0) (k := 0) rfl (idL_9 (564, .aload_n 0, 1) (List.mem_of_getElem? (i := 6) rfl)), List.forall_mem_cons.mpr ⟨ok_iload (i := 4) (idL_9 (565, .iload 4, 2) (List.mem_of_getElem? (i := 7) rfl)), List.forall_mem_cons.mpr ⟨ok_iconst (n := 2) (v := 2) (by decide) (idL_9 (567, .iconst 2, 1) (List.mem_of_getElem? (i := 8) rfl)), List.forall_mem_cons.mpr ⟨ok_iadd (idL_9 (568, .iadd, 1) (List.mem_of_getElem? (i := 9) rfl)), List.forall_mem_cons.mpr ⟨ok_scd (idL_9 (569, .iaload, 1) (List.mem_of_getElem? (i := 10) rfl)), List.forall_mem_cons.mpr ⟨ok_cv (c := 6) (T := TX6) (N := 14) cw_X6_holds rfl (by decide) mlL_58 (idL_9 (570, .invokevirtual 58, 3) (List.mem_of_getElem? (i := 11) rfl)), List.forall_mem_cons.mpr ⟨ok_pop (idL_9 (573, .pop, 1) (List.mem_of_getElem? (i := 12) rfl)), List.forall_mem_cons.mpr ⟨ok_aload_n (i := 2) (k := 2) rfl (idL_9 (574, .aload_n 2, 1) (List.mem_of_getElem? (i := 13) rfl)), List.forall_mem_cons.mpr ⟨ok_aload_n (i := 0) (k := 0) rfl (idL_9 (575, .aload_n 0, 1) (List.mem_of_getElem? (i := 14) rfl)), List.forall_mem_cons.mpr ⟨ok_iload (i := 4) (idL_9 (576, .iload 4, 2) (List.mem_of_getElem? (i := 15) rfl)), List.forall_mem_cons.mpr ⟨ok_iconst (n := 1) (v := 1) (by decide) (idL_9 (578, .iconst 1, 1) (List.mem_of_getElem? (i := 16) rfl)), List.forall_mem_cons.mpr ⟨ok_iadd (idL_9 (579, .iadd, 1) (List.mem_of_getElem? (i := 17) rfl)), List.forall_mem_cons.mpr ⟨ok_scd (idL_9 (580, .iaload, 1) (List.mem_of_getElem? (i := 18) rfl)), List.forall_mem_cons.mpr ⟨ok_aload_n (i := 0) (k := 0) rfl (idL_9 (581, .aload_n 0, 1) (List.mem_of_getElem? (i := 19) rfl)), List.forall_mem_cons.mpr ⟨ok_iload (i := 4) (idL_9 (582, .iload 4, 2) (List.mem_of_getElem? (i := 20) rfl)), List.forall_mem_cons.mpr ⟨ok_iconst (n := 2) (v := 2) (by decide) (idL_9 (584, .iconst 2, 1) (List.mem_of_getElem? (i := 21) rfl)), List.forall_mem_cons.mpr ⟨ok_iadd (idL_9 (585, .iadd, 1) (List.mem_of_getElem? (i := 22) rfl)), List.forall_mem_cons.mpr ⟨ok_scd (idL_9 (586, .iaload, 1) (List.mem_of_getElem? (i := 23) rfl)), List.forall_mem_cons.mpr ⟨ok_cv (c := 7) (T := TX7) (N := 44) cw_X7_holds rfl (by decide) mlL_61 (idL_9 (587, .invokevirtual 61, 3) (List.mem_of_getElem? (i := 24) rfl)), List.forall_mem_cons.mpr ⟨ok_pop (idL_9 (590, .pop, 1) (List.mem_of_getElem? (i := 25) rfl)), List.forall_mem_cons.mpr ⟨ok_goto (t := 1885) (by decide) (idL_9 (591, .goto 1294, 3) (List.mem_of_getElem? (i := 26) rfl)), fun _ h => absurd h List.not_mem_nil⟩⟩⟩⟩⟩⟩⟩⟩⟩⟩⟩⟩⟩⟩⟩⟩⟩⟩⟩⟩⟩⟩⟩⟩⟩⟩⟩
noncomputable def ilL_10 : List (Nat × Instr × Nat) := [(594, .aload_n 1, 1), (595, .aload_n 0, 1), (596, .iload 4, 2), (598, .iconst 1, 1), (599, .iadd, 1), (600, .iaload, 1), (601, .aload_n 0, 1), (602, .iload 4, 2), (604, .iconst 2, 1), (605, .iadd, 1), (606, .iaload, 1), (607, .invokevirtual 62, 3), (610, .pop, 1), (611, .aload_n 2, 1), (612, .aload_n 0, 1), (613, .iload 4, 2), (615, .iconst 1, 1), (616, .iadd, 1), (617, .iaload, 1), (618, .aload_n 0, 1), (619, .iload 4, 2), (621, .iconst 2, 1), (622, .iadd, 1), (623, .iaload, 1), (624, .invokevirtual 65, 3), (627, .pop, 1), (628, .goto 1257, 3)]
theorem idL_10 : ∀ x ∈ ilL_10, decode cL_law x.1 = .ok x.2 := sq_ok (B := 594) rfl (by decide +kernel : sqI cL_law 594 (cL_law.data.toList.drop 594) ilL_10 = true)
noncomputable def tbL_10 (l : Launch) (X : Nat × (Nat → Int32)) (d : Nat) (b : Nat × Nat) : List (Nat × OP) := [(594, oAl 594 1 1), (595, oAl 595 1 0), (596, oIl 596 2 4), (598, oIc 598 1 1), (599, o2 599 (fun x y => x + y)), (600, oScd X 600), (601, oAl 601 1 0), (602, oIl 602 2 4), (604, oIc 604 1 2), (605, o2 605 (fun x y => x + y)), (606, oScd X 606), (607, oCv l X d 607 uX6_drops 6 2), (610, oPop 610), (611, oAl 611 1 2), (612, oAl 612 1 0), (613, oIl 613 2 4), (615, oIc 615 1 1), (616, o2 616 (fun x y => x + y)), (617, oScd X 617), (618, oAl 618 1 0), (619, oIl 619 2 4), (621, oIc 621 1 2), (622, o2 622 (fun x y => x + y)), (623, oScd X 623), (624, oCv l X d 624 uX7_drops 7 2), (627, oPop 627), (628, oGo 1885)]
set_option maxRecDepth 20000 in
theorem tkL_10 {l : Launch} {X : Nat × (Nat → Int32)} {d : Nat} {b : Nat × Nat} : ∀ x ∈ tbL_10 l X d b, OK l X uL (d + 1) false b x.1 x.2 :=
  List.forall_mem_cons.mpr ⟨ok_aload_n (i := 1) (k := 1) rfl (idL_10 (594, .aload_n 1, 1) (List.mem_of_getElem? (i := 0) rfl)), List.forall_mem_cons.mpr ⟨ok_aload_n (i := 0) (k := 0) rfl (idL_10 (595, .aload_n 0, 1) (List.mem_of_getElem? (i := 1) rfl)), List.forall_mem_cons.mpr ⟨ok_iload (i := 4) (idL_10 (596, .iload 4, 2) (List.mem_of_getElem? (i := 2) rfl)), List.forall_mem_cons.mpr ⟨ok_iconst (n := 1) (v := 1) (by decide) (idL_10 (598, .iconst 1, 1) (List.mem_of_getElem? (i := 3) rfl)), List.forall_mem_cons.mpr ⟨ok_iadd (idL_10 (599, .iadd, 1) (List.mem_of_getElem? (i := 4) rfl)), List.forall_mem_cons.mpr ⟨ok_scd (idL_10 (600, .iaload, 1) (List.mem_of_getElem? (i := 5) rfl)), List.forall_mem_cons.mpr ⟨ok_aload_n (i := 0) (k := 0) rfl (idL_10 (601, .aload_n 0, 1) (List.mem_of_getElem? (i := 6) rfl)), List.forall_mem_cons.mpr ⟨ok_iload (i := 4) (idL_10 (602, .iload 4, 2) (List.mem_of_getElem? (i := 7) rfl)), List.forall_mem_cons.mpr ⟨ok_iconst (n := 2) (v := 2) (by decide) (idL_10 (604, .iconst 2, 1) (List.mem_of_getElem? (i := 8) rfl)), List.forall_mem_cons.mpr ⟨ok_iadd (idL_10 (605, .iadd, 1) (List.mem_of_getElem? (i := 9) rfl)), List.forall_mem_cons.mpr ⟨ok_scd (idL_10 (606, .iaload, 1) (List.mem_of_getElem? (i := 10) rfl)), List.forall_mem_cons.mpr ⟨ok_cv (c := 6) (T := TX6) (N := 14) cw_X6_drops rfl (by decide) mlL_62 (idL_10 (607, .invokevirtual 62, 3) (List.mem_of_getElem? (i := 11) rfl)), List.forall_mem_cons.mpr ⟨ok_pop (idL_10 (610, .pop, 1) (List.mem_of_getElem? (i := 12) rfl)), List.forall_mem_cons.mpr ⟨ok_aload_n (i := 2) (k := 2) rfl (idL_10 (611, .aload_n 2, 1) (List.mem_of_getElem? (i := 13) rfl)), List.forall_mem_cons.mpr ⟨ok_aload_n (i := 0) (k := 0) rfl (idL_10 (612, .aload_n 0, 1) (List.mem_of_getElem? (i := 14) rfl)), List.forall_mem_cons.mpr ⟨ok_iload (i := 4) (idL_10 (613, .iload 4, 2) (List.mem_of_getElem? (i := 15) rfl)), List.forall_mem_cons.mpr ⟨ok_iconst (n := 1) (v := 1) (by decide) (idL_10 (615, .iconst 1, 1) (List.mem_of_getElem? (i := 16) rfl)), List.forall_mem_cons.mpr ⟨ok_iadd (idL_10 (616, .iadd, 1) (List.mem_of_getElem? (i := 17) rfl)), List.forall_mem_cons.mpr ⟨ok_scd (idL_10 (617, .iaload, 1) (List.mem_of_getElem? (i := 18) rfl)), List.forall_mem_cons.mpr ⟨ok_aload_n (i := 0) (k := 0) rfl (idL_10 (618, .aload_n 0, 1) (List.mem_of_getElem? (i := 19) rfl)), List.forall_mem_cons.mpr ⟨ok_iload (i := 4) (idL_10 (619, .iload 4, 2) (List.mem_of_getElem? (i := 20) rfl)), List.forall_mem_cons.mpr ⟨ok_iconst (n := 2) (v := 2) (by decide) (idL_10 (621, .iconst 2, 1) (List.mem_of_getElem? (i := 21) rfl)), List.forall_mem_cons.mpr ⟨ok_iadd (idL_10 (622, .iadd, 1) (List.mem_of_getElem? (i := 22) rfl)), List.forall_mem_cons.mpr ⟨ok_scd (idL_10 (623, .iaload, 1) (List.mem_of_getElem? (i := 23) rfl)), List.forall_mem_cons.mpr ⟨ok_cv (c := 7) (T := TX7) (N := 44) cw_X7_drops rfl (by decide) mlL_65 (idL_10 (624, .invokevirtual 65, 3) (List.mem_of_getElem? (i := 24) rfl)), List.forall_mem_cons.mpr ⟨ok_pop (idL_10 (627, .pop, 1) (List.mem_of_getElem? (i := 25) rfl)), List.forall_mem_cons.mpr ⟨ok_goto (t := 1885) (by decide) (idL_10 (628, .goto 1257, 3) (List.mem_of_getElem? (i := 26) rfl)), fun _ h => absurd h List.not_mem_nil⟩⟩⟩⟩⟩⟩⟩⟩⟩⟩⟩⟩⟩⟩⟩⟩⟩⟩⟩⟩⟩⟩⟩⟩⟩⟩⟩
noncomputable def ilL_11 : List (Nat × Instr × Nat) := [(631, .aload_n 1, 1), (632, .aload_n 0, 1), (633, .iload 4, 2), (635, .iconst 1, 1), (636, .iadd, 1), (637, .iaload, 1), (638, .invokevirtual 66, 3), (641, .pop, 1), (642, .aload_n 2, 1), (643, .aload_n 0, 1), (644, .iload 4, 2), (646, .iconst 1, 1), (647, .iadd, 1), (648, .iaload, 1), (649, .invokevirtual 69, 3), (652, .pop, 1), (653, .goto 1232, 3)]
theorem idL_11 : ∀ x ∈ ilL_11, decode cL_law x.1 = .ok x.2 := sq_ok (B := 631) rfl (by decide +kernel : sqI cL_law 631 (cL_law.data.toList.drop 631) ilL_11 = true)
noncomputable def tbL_11 (l : Launch) (X : Nat × (Nat → Int32)) (d : Nat) (b : Nat × Nat) : List (Nat × OP) := [(631, oAl 631 1 1), (632, oAl 632 1 0), (633, oIl 633 2 4), (635, oIc 635 1 1), (636, o2 636 (fun x y => x + y)), (637, oScd X 637), (638, oCv l X d 638 uX6_dropsIn 6 1), (641, oPop 641), (642, oAl 642 1 2), (643, oAl 643 1 0), (644, oIl 644 2 4), (646, oIc 646 1 1), (647, o2 647 (fun x y => x + y)), (648, oScd X 648), (649, oCv l X d 649 uX7_dropsIn 7 1), (652, oPop 652), (653, oGo 1885)]
set_option maxRecDepth 20000 in
theorem tkL_11 {l : Launch} {X : Nat × (Nat → Int32)} {d : Nat} {b : Nat × Nat} : ∀ x ∈ tbL_11 l X d b, OK l X uL (d + 1) false b x.1 x.2 :=
  List.forall_mem_cons.mpr ⟨ok_aload_n (i := 1) (k := 1) rfl (idL_11 (631, .aload_n 1, 1) (List.mem_of_getElem? (i := 0) rfl)), List.forall_mem_cons.mpr ⟨ok_aload_n (i := 0) (k := 0) rfl (idL_11 (632, .aload_n 0, 1) (List.mem_of_getElem? (i := 1) rfl)), List.forall_mem_cons.mpr ⟨ok_iload (i := 4) (idL_11 (633, .iload 4, 2) (List.mem_of_getElem? (i := 2) rfl)), List.forall_mem_cons.mpr ⟨ok_iconst (n := 1) (v := 1) (by decide) (idL_11 (635, .iconst 1, 1) (List.mem_of_getElem? (i := 3) rfl)), List.forall_mem_cons.mpr ⟨ok_iadd (idL_11 (636, .iadd, 1) (List.mem_of_getElem? (i := 4) rfl)), List.forall_mem_cons.mpr ⟨ok_scd (idL_11 (637, .iaload, 1) (List.mem_of_getElem? (i := 5) rfl)), List.forall_mem_cons.mpr ⟨ok_cv (c := 6) (T := TX6) (N := 14) cw_X6_dropsIn rfl (by decide) mlL_66 (idL_11 (638, .invokevirtual 66, 3) (List.mem_of_getElem? (i := 6) rfl)), List.forall_mem_cons.mpr ⟨ok_pop (idL_11 (641, .pop, 1) (List.mem_of_getElem? (i := 7) rfl)), List.forall_mem_cons.mpr ⟨ok_aload_n (i := 2) (k := 2) rfl (idL_11 (642, .aload_n 2, 1) (List.mem_of_getElem? (i := 8) rfl)), List.forall_mem_cons.mpr ⟨ok_aload_n (i := 0) (k := 0) rfl (idL_11 (643, .aload_n 0, 1) (List.mem_of_getElem? (i := 9) rfl)), List.forall_mem_cons.mpr ⟨ok_iload (i := 4) (idL_11 (644, .iload 4, 2) (List.mem_of_getElem? (i := 10) rfl)), List.forall_mem_cons.mpr ⟨ok_iconst (n := 1) (v := 1) (by decide) (idL_11 (646, .iconst 1, 1) (List.mem_of_getElem? (i := 11) rfl)), List.forall_mem_cons.mpr ⟨ok_iadd (idL_11 (647, .iadd, 1) (List.mem_of_getElem? (i := 12) rfl)), List.forall_mem_cons.mpr ⟨ok_scd (idL_11 (648, .iaload, 1) (List.mem_of_getElem? (i := 13) rfl)), List.forall_mem_cons.mpr ⟨ok_cv (c := 7) (T := TX7) (N := 44) cw_X7_dropsIn rfl (by decide) mlL_69 (idL_11 (649, .invokevirtual 69, 3) (List.mem_of_getElem? (i := 14) rfl)), List.forall_mem_cons.mpr ⟨ok_pop (idL_11 (652, .pop, 1) (List.mem_of_getElem? (i := 15) rfl)), List.forall_mem_cons.mpr ⟨ok_goto (t := 1885) (by decide) (idL_11 (653, .goto 1232, 3) (List.mem_of_getElem? (i := 16) rfl)), fun _ h => absurd h List.not_mem_nil⟩⟩⟩⟩⟩⟩⟩⟩⟩⟩⟩⟩⟩⟩⟩⟩⟩
noncomputable def ilL_12 : List (Nat × Instr × Nat) := [(656, .aload_n 1, 1), (657, .aload_n 0, 1), (658, .iload 4, 2), (660, .iconst 1, 1), (661, .iadd, 1), (662, .iaload, 1), (663, .invokevirtual 70, 3), (666, .pop, 1), (667, .aload_n 2, 1), (668, .aload_n 0, 1), (669, .iload 4, 2), (671, .iconst 1, 1), (672, .iadd, 1), (673, .iaload, 1), (674, .invokevirtual 73, 3), (677, .pop, 1), (678, .goto 1207, 3)]
theorem idL_12 : ∀ x ∈ ilL_12, decode cL_law x.1 = .ok x.2 := sq_ok (B := 656) rfl (by decide +kernel : sqI cL_law 656 (cL_law.data.toList.drop 656) ilL_12 = true)
noncomputable def tbL_12 (l : Launch) (X : Nat × (Nat → Int32)) (d : Nat) (b : Nat × Nat) : List (Nat × OP) := [(656, oAl 656 1 1), (657, oAl 657 1 0), (658, oIl 658 2 4), (660, oIc 660 1 1), (661, o2 661 (fun x y => x + y)), (662, oScd X 662), (663, oCv l X d 663 uX6_fallsIn 6 1), (666, oPop 666), (667, oAl 667 1 2), (668, oAl 668 1 0), (669, oIl 669 2 4), (671, oIc 671 1 1), (672, o2 672 (fun x y => x + y)), (673, oScd X 673), (674, oCv l X d 674 uX7_fallsIn 7 1), (677, oPop 677), (678, oGo 1885)]
set_option maxRecDepth 20000 in
theorem tkL_12 {l : Launch} {X : Nat × (Nat → Int32)} {d : Nat} {b : Nat × Nat} : ∀ x ∈ tbL_12 l X d b, OK l X uL (d + 1) false b x.1 x.2 :=
  List.forall_mem_cons.mpr ⟨ok_aload_n (i := 1) (k := 1) rfl (idL_12 (656, .aload_n 1, 1) (List.mem_of_getElem? (i := 0) rfl)), List.forall_mem_cons.mpr ⟨ok_aload_n (i := 0) (k := 0) rfl (idL_12 (657, .aload_n 0, 1) (List.mem_of_getElem? (i := 1) rfl)), List.forall_mem_cons.mpr ⟨ok_iload (i := 4) (idL_12 (658, .iload 4, 2) (List.mem_of_getElem? (i := 2) rfl)), List.forall_mem_cons.mpr ⟨ok_iconst (n := 1) (v := 1) (by decide) (idL_12 (660, .iconst 1, 1) (List.mem_of_getElem? (i := 3) rfl)), List.forall_mem_cons.mpr ⟨ok_iadd (idL_12 (661, .iadd, 1) (List.mem_of_getElem? (i := 4) rfl)), List.forall_mem_cons.mpr ⟨ok_scd (idL_12 (662, .iaload, 1) (List.mem_of_getElem? (i := 5) rfl)), List.forall_mem_cons.mpr ⟨ok_cv (c := 6) (T := TX6) (N := 14) cw_X6_fallsIn rfl (by decide) mlL_70 (idL_12 (663, .invokevirtual 70, 3) (List.mem_of_getElem? (i := 6) rfl)), List.forall_mem_cons.mpr ⟨ok_pop (idL_12 (666, .pop, 1) (List.mem_of_getElem? (i := 7) rfl)), List.forall_mem_cons.mpr ⟨ok_aload_n (i := 2) (k := 2) rfl (idL_12 (667, .aload_n 2, 1) (List.mem_of_getElem? (i := 8) rfl)), List.forall_mem_cons.mpr ⟨ok_aload_n (i := 0) (k := 0) rfl (idL_12 (668, .aload_n 0, 1) (List.mem_of_getElem? (i := 9) rfl)), List.forall_mem_cons.mpr ⟨ok_iload (i := 4) (idL_12 (669, .iload 4, 2) (List.mem_of_getElem? (i := 10) rfl)), List.forall_mem_cons.mpr ⟨ok_iconst (n := 1) (v := 1) (by decide) (idL_12 (671, .iconst 1, 1) (List.mem_of_getElem? (i := 11) rfl)), List.forall_mem_cons.mpr ⟨ok_iadd (idL_12 (672, .iadd, 1) (List.mem_of_getElem? (i := 12) rfl)), List.forall_mem_cons.mpr ⟨ok_scd (idL_12 (673, .iaload, 1) (List.mem_of_getElem? (i := 13) rfl)), List.forall_mem_cons.mpr ⟨ok_cv (c := 7) (T := TX7) (N := 44) cw_X7_fallsIn rfl (by decide) mlL_73 (idL_12 (674, .invokevirtual 73, 3) (List.mem_of_getElem? (i := 14) rfl)), List.forall_mem_cons.mpr ⟨ok_pop (idL_12 (677, .pop, 1) (List.mem_of_getElem? (i := 15) rfl)), List.forall_mem_cons.mpr ⟨ok_goto (t := 1885) (by decide) (idL_12 (678, .goto 1207, 3) (List.mem_of_getElem? (i := 16) rfl)), fun _ h => absurd h List.not_mem_nil⟩⟩⟩⟩⟩⟩⟩⟩⟩⟩⟩⟩⟩⟩⟩⟩⟩
noncomputable def ilL_13 : List (Nat × Instr × Nat) := [(681, .aload_n 1, 1), (682, .aload_n 0, 1), (683, .iload 4, 2), (685, .iconst 1, 1), (686, .iadd, 1), (687, .iaload, 1), (688, .invokevirtual 74, 3), (691, .pop, 1), (692, .aload_n 2, 1), (693, .aload_n 0, 1), (694, .iload 4, 2), (696, .iconst 1, 1), (697, .iadd, 1), (698, .iaload, 1), (699, .invokevirtual 77, 3), (702, .pop, 1), (703, .goto 1182, 3)]
theorem idL_13 : ∀ x ∈ ilL_13, decode cL_law x.1 = .ok x.2 := sq_ok (B := 681) rfl (by decide +kernel : sqI cL_law 681 (cL_law.data.toList.drop 681) ilL_13 = true)
noncomputable def tbL_13 (l : Launch) (X : Nat × (Nat → Int32)) (d : Nat) (b : Nat × Nat) : List (Nat × OP) := [(681, oAl 681 1 1), (682, oAl 682 1 0), (683, oIl 683 2 4), (685, oIc 685 1 1), (686, o2 686 (fun x y => x + y)), (687, oScd X 687), (688, oCv l X d 688 uX6_wet 6 1), (691, oPop 691), (692, oAl 692 1 2), (693, oAl 693 1 0), (694, oIl 694 2 4), (696, oIc 696 1 1), (697, o2 697 (fun x y => x + y)), (698, oScd X 698), (699, oCv l X d 699 uX7_wet 7 1), (702, oPop 702), (703, oGo 1885)]
set_option maxRecDepth 20000 in
theorem tkL_13 {l : Launch} {X : Nat × (Nat → Int32)} {d : Nat} {b : Nat × Nat} : ∀ x ∈ tbL_13 l X d b, OK l X uL (d + 1) false b x.1 x.2 :=
  List.forall_mem_cons.mpr ⟨ok_aload_n (i := 1) (k := 1) rfl (idL_13 (681, .aload_n 1, 1) (List.mem_of_getElem? (i := 0) rfl)), List.forall_mem_cons.mpr ⟨ok_aload_n (i := 0) (k := 0) rfl (idL_13 (682, .aload_n 0, 1) (List.mem_of_getElem? (i := 1) rfl)), List.forall_mem_cons.mpr ⟨ok_iload (i := 4) (idL_13 (683, .iload 4, 2) (List.mem_of_getElem? (i := 2) rfl)), List.forall_mem_cons.mpr ⟨ok_iconst (n := 1) (v := 1) (by decide) (idL_13 (685, .iconst 1, 1) (List.mem_of_getElem? (i := 3) rfl)), List.forall_mem_cons.mpr ⟨ok_iadd (idL_13 (686, .iadd, 1) (List.mem_of_getElem? (i := 4) rfl)), List.forall_mem_cons.mpr ⟨ok_scd (idL_13 (687, .iaload, 1) (List.mem_of_getElem? (i := 5) rfl)), List.forall_mem_cons.mpr ⟨ok_cv (c := 6) (T := TX6) (N := 14) cw_X6_wet rfl (by decide) mlL_74 (idL_13 (688, .invokevirtual 74, 3) (List.mem_of_getElem? (i := 6) rfl)), List.forall_mem_cons.mpr ⟨ok_pop (idL_13 (691, .pop, 1) (List.mem_of_getElem? (i := 7) rfl)), List.forall_mem_cons.mpr ⟨ok_aload_n (i := 2) (k := 2) rfl (idL_13 (692, .aload_n 2, 1) (List.mem_of_getElem? (i := 8) rfl)), List.forall_mem_cons.mpr ⟨ok_aload_n (i := 0) (k := 0) rfl (idL_13 (693, .aload_n 0, 1) (List.mem_of_getElem? (i := 9) rfl)), List.forall_mem_cons.mpr ⟨ok_iload (i := 4) (idL_13 (694, .iload 4, 2) (List.mem_of_getElem? (i := 10) rfl)), List.forall_mem_cons.mpr ⟨ok_iconst (n := 1) (v := 1) (by decide) (idL_13 (696, .iconst 1, 1) (List.mem_of_getElem? (i := 11) rfl)), List.forall_mem_cons.mpr ⟨ok_iadd (idL_13 (697, .iadd, 1) (List.mem_of_getElem? (i := 12) rfl)), List.forall_mem_cons.mpr ⟨ok_scd (idL_13 (698, .iaload, 1) (List.mem_of_getElem? (i := 13) rfl)), List.forall_mem_cons.mpr ⟨ok_cv (c := 7) (T := TX7) (N := 44) cw_X7_wet rfl (by decide) mlL_77 (idL_13 (699, .invokevirtual 77, 3) (List.mem_of_getElem? (i := 14) rfl)), List.forall_mem_cons.mpr ⟨ok_pop (idL_13 (702, .pop, 1) (List.mem_of_getElem? (i := 15) rfl)), List.forall_mem_cons.mpr ⟨ok_goto (t := 1885) (by decide) (idL_13 (703, .goto 1182, 3) (List.mem_of_getElem? (i := 16) rfl)), fun _ h => absurd h List.not_mem_nil⟩⟩⟩⟩⟩⟩⟩⟩⟩⟩⟩⟩⟩⟩⟩⟩⟩
noncomputable def ilL_14 : List (Nat × Instr × Nat) := [(706, .aload_n 1, 1), (707, .aload_n 0, 1), (708, .iload 4, 2), (710, .iconst 1, 1), (711, .iadd, 1), (712, .iaload, 1), (713, .aload_n 0, 1), (714, .iload 4, 2), (716, .iconst 2, 1), (717, .iadd, 1), (718, .iaload, 1), (719, .invokevirtual 78, 3), (722, .pop, 1), (723, .aload_n 2, 1), (724, .aload_n 0, 1), (725, .iload 4, 2), (727, .iconst 1, 1), (728, .iadd, 1), (729, .iaload, 1), (730, .aload_n 0, 1), (731, .iload 4, 2), (733, .iconst 2, 1), (734, .iadd, 1), (735, .iaload, 1), (736, .invokevirtual 81, 3), (739, .pop, 1), (740, .goto 1145, 3)]
theorem idL_14 : ∀ x ∈ ilL_14, decode cL_law x.1 = .ok x.2 := sq_ok (B := 706) rfl (by decide +kernel : sqI cL_law 706 (cL_law.data.toList.drop 706) ilL_14 = true)
noncomputable def tbL_14 (l : Launch) (X : Nat × (Nat → Int32)) (d : Nat) (b : Nat × Nat) : List (Nat × OP) := [(706, oAl 706 1 1), (707, oAl 707 1 0), (708, oIl 708 2 4), (710, oIc 710 1 1), (711, o2 711 (fun x y => x + y)), (712, oScd X 712), (713, oAl 713 1 0), (714, oIl 714 2 4), (716, oIc 716 1 2), (717, o2 717 (fun x y => x + y)), (718, oScd X 718), (719, oCv l X d 719 uX6_wetDays 6 2), (722, oPop 722), (723, oAl 723 1 2), (724, oAl 724 1 0), (725, oIl 725 2 4), (727, oIc 727 1 1), (728, o2 728 (fun x y => x + y)), (729, oScd X 729), (730, oAl 730 1 0), (731, oIl 731 2 4), (733, oIc 733 1 2), (734, o2 734 (fun x y => x + y)), (735, oScd X 735), (736, oCv l X d 736 uX7_wetDays 7 2), (739, oPop 739), (740, oGo 1885)]
set_option maxRecDepth 20000 in
theorem tkL_14 {l : Launch} {X : Nat × (Nat → Int32)} {d : Nat} {b : Nat × Nat} : ∀ x ∈ tbL_14 l X d b, OK l X uL (d + 1) false b x.1 x.2 :=
  List.forall_mem_cons.mpr ⟨ok_aload_n (i := 1) (k := 1) rfl (idL_14 (706, .aload_n 1, 1) (List.mem_of_getElem? (i := 0) rfl)), List.forall_mem_cons.mpr ⟨ok_aload_n (i := 0) (k := 0) rfl (idL_14 (707, .aload_n 0, 1) (List.mem_of_getElem? (i := 1) rfl)), List.forall_mem_cons.mpr ⟨ok_iload (i := 4) (idL_14 (708, .iload 4, 2) (List.mem_of_getElem? (i := 2) rfl)), List.forall_mem_cons.mpr ⟨ok_iconst (n := 1) (v := 1) (by decide) (idL_14 (710, .iconst 1, 1) (List.mem_of_getElem? (i := 3) rfl)), List.forall_mem_cons.mpr ⟨ok_iadd (idL_14 (711, .iadd, 1) (List.mem_of_getElem? (i := 4) rfl)), List.forall_mem_cons.mpr ⟨ok_scd (idL_14 (712, .iaload, 1) (List.mem_of_getElem? (i := 5) rfl)), List.forall_mem_cons.mpr ⟨ok_aload_n (i := 0) (k := 0) rfl (idL_14 (713, .aload_n 0, 1) (List.mem_of_getElem? (i := 6) rfl)), List.forall_mem_cons.mpr ⟨ok_iload (i := 4) (idL_14 (714, .iload 4, 2) (List.mem_of_getElem? (i := 7) rfl)), List.forall_mem_cons.mpr ⟨ok_iconst (n := 2) (v := 2) (by decide) (idL_14 (716, .iconst 2, 1) (List.mem_of_getElem? (i := 8) rfl)), List.forall_mem_cons.mpr ⟨ok_iadd (idL_14 (717, .iadd, 1) (List.mem_of_getElem? (i := 9) rfl)), List.forall_mem_cons.mpr ⟨ok_scd (idL_14 (718, .iaload, 1) (List.mem_of_getElem? (i := 10) rfl)), List.forall_mem_cons.mpr ⟨ok_cv (c := 6) (T := TX6) (N := 14) cw_X6_wetDays rfl (by decide) mlL_78 (idL_14 (719, .invokevirtual 78, 3) (List.mem_of_getElem? (i := 11) rfl)), List.forall_mem_cons.mpr ⟨ok_pop (idL_14 (722, .pop, 1) (List.mem_of_getElem? (i := 12) rfl)), List.forall_mem_cons.mpr ⟨ok_aload_n (i := 2) (k := 2) rfl (idL_14 (723, .aload_n 2, 1) (List.mem_of_getElem? (i := 13) rfl)), List.forall_mem_cons.mpr ⟨ok_aload_n (i := 0) (k := 0) rfl (idL_14 (724, .aload_n 0, 1) (List.mem_of_getElem? (i := 14) rfl)), List.forall_mem_cons.mpr ⟨ok_iload (i := 4) (idL_14 (725, .iload 4, 2) (List.mem_of_getElem? (i := 15) rfl)), List.forall_mem_cons.mpr ⟨ok_iconst (n := 1) (v := 1) (by decide) (idL_14 (727, .iconst 1, 1) (List.mem_of_getElem? (i := 16) rfl)), List.forall_mem_cons.mpr ⟨ok_iadd (idL_14 (728, .iadd, 1) (List.mem_of_getElem? (i := 17) rfl)), List.forall_mem_cons.mpr ⟨ok_scd (idL_14 (729, .iaload, 1) (List.mem_of_getElem? (i := 18) rfl)), List.forall_mem_cons.mpr ⟨ok_aload_n (i := 0) (k := 0) rfl (idL_14 (730, .aload_n 0, 1) (List.mem_of_getElem? (i := 19) rfl)), List.forall_mem_cons.mpr ⟨ok_iload (i := 4) (idL_14 (731, .iload 4, 2) (List.mem_of_getElem? (i := 20) rfl)), List.forall_mem_cons.mpr ⟨ok_iconst (n := 2) (v := 2) (by decide) (idL_14 (733, .iconst 2, 1) (List.mem_of_getElem? (i := 21) rfl)), List.forall_mem_cons.mpr ⟨ok_iadd (idL_14 (734, .iadd, 1) (List.mem_of_getElem? (i := 22) rfl)), List.forall_mem_cons.mpr ⟨ok_scd (idL_14 (735, .iaload, 1) (List.mem_of_getElem? (i := 23) rfl)), List.forall_mem_cons.mpr ⟨ok_cv (c := 7) (T := TX7) (N := 44) cw_X7_wetDays rfl (by decide) mlL_81 (idL_14 (736, .invokevirtual 81, 3) (List.mem_of_getElem? (i := 24) rfl)), List.forall_mem_cons.mpr ⟨ok_pop (idL_14 (739, .pop, 1) (List.mem_of_getElem? (i := 25) rfl)), List.forall_mem_cons.mpr ⟨ok_goto (t := 1885) (by decide) (idL_14 (740, .goto 1145, 3) (List.mem_of_getElem? (i := 26) rfl)), fun _ h => absurd h List.not_mem_nil⟩⟩⟩⟩⟩⟩⟩⟩⟩⟩⟩⟩⟩⟩⟩⟩⟩⟩⟩⟩⟩⟩⟩⟩⟩⟩⟩
noncomputable def ilL_15 : List (Nat × Instr × Nat) := [(743, .aload_n 1, 1), (744, .invokevirtual 82, 3), (747, .pop, 1), (748, .aload_n 2, 1), (749, .invokevirtual 85, 3), (752, .pop, 1), (753, .goto 1132, 3)]
theorem idL_15 : ∀ x ∈ ilL_15, decode cL_law x.1 = .ok x.2 := sq_ok (B := 743) rfl (by decide +kernel : sqI cL_law 743 (cL_law.data.toList.drop 743) ilL_15 = true)
noncomputable def tbL_15 (l : Launch) (X : Nat × (Nat → Int32)) (d : Nat) (b : Nat × Nat) : List (Nat × OP) := [(743, oAl 743 1 1), (744, oCv l X d 744 uX6_wettest 6 0), (747, oPop 747), (748, oAl 748 1 2), (749, oCv l X d 749 uX7_wettest 7 0), (752, oPop 752), (753, oGo 1885)]
set_option maxRecDepth 20000 in
theorem tkL_15 {l : Launch} {X : Nat × (Nat → Int32)} {d : Nat} {b : Nat × Nat} : ∀ x ∈ tbL_15 l X d b, OK l X uL (d + 1) false b x.1 x.2 :=
  List.forall_mem_cons.mpr ⟨ok_aload_n (i := 1) (k := 1) rfl (idL_15 (743, .aload_n 1, 1) (List.mem_of_getElem? (i := 0) rfl)), List.forall_mem_cons.mpr ⟨ok_cv (c := 6) (T := TX6) (N := 14) cw_X6_wettest rfl (by decide) mlL_82 (idL_15 (744, .invokevirtual 82, 3) (List.mem_of_getElem? (i := 1) rfl)), List.forall_mem_cons.mpr ⟨ok_pop (idL_15 (747, .pop, 1) (List.mem_of_getElem? (i := 2) rfl)), List.forall_mem_cons.mpr ⟨ok_aload_n (i := 2) (k := 2) rfl (idL_15 (748, .aload_n 2, 1) (List.mem_of_getElem? (i := 3) rfl)), List.forall_mem_cons.mpr ⟨ok_cv (c := 7) (T := TX7) (N := 44) cw_X7_wettest rfl (by decide) mlL_85 (idL_15 (749, .invokevirtual 85, 3) (List.mem_of_getElem? (i := 4) rfl)), List.forall_mem_cons.mpr ⟨ok_pop (idL_15 (752, .pop, 1) (List.mem_of_getElem? (i := 5) rfl)), List.forall_mem_cons.mpr ⟨ok_goto (t := 1885) (by decide) (idL_15 (753, .goto 1132, 3) (List.mem_of_getElem? (i := 6) rfl)), fun _ h => absurd h List.not_mem_nil⟩⟩⟩⟩⟩⟩⟩
noncomputable def ilL_16 : List (Nat × Instr × Nat) := [(756, .aload_n 1, 1), (757, .invokevirtual 86, 3), (760, .pop, 1), (761, .aload_n 2, 1), (762, .invokevirtual 89, 3), (765, .pop, 1), (766, .goto 1119, 3)]
theorem idL_16 : ∀ x ∈ ilL_16, decode cL_law x.1 = .ok x.2 := sq_ok (B := 756) rfl (by decide +kernel : sqI cL_law 756 (cL_law.data.toList.drop 756) ilL_16 = true)
noncomputable def tbL_16 (l : Launch) (X : Nat × (Nat → Int32)) (d : Nat) (b : Nat × Nat) : List (Nat × OP) := [(756, oAl 756 1 1), (757, oCv l X d 757 uX6_sunny 6 0), (760, oPop 760), (761, oAl 761 1 2), (762, oCv l X d 762 uX7_sunny 7 0), (765, oPop 765), (766, oGo 1885)]
set_option maxRecDepth 20000 in
theorem tkL_16 {l : Launch} {X : Nat × (Nat → Int32)} {d : Nat} {b : Nat × Nat} : ∀ x ∈ tbL_16 l X d b, OK l X uL (d + 1) false b x.1 x.2 :=
  List.forall_mem_cons.mpr ⟨ok_aload_n (i := 1) (k := 1) rfl (idL_16 (756, .aload_n 1, 1) (List.mem_of_getElem? (i := 0) rfl)), List.forall_mem_cons.mpr ⟨ok_cv (c := 6) (T := TX6) (N := 14) cw_X6_sunny rfl (by decide) mlL_86 (idL_16 (757, .invokevirtual 86, 3) (List.mem_of_getElem? (i := 1) rfl)), List.forall_mem_cons.mpr ⟨ok_pop (idL_16 (760, .pop, 1) (List.mem_of_getElem? (i := 2) rfl)), List.forall_mem_cons.mpr ⟨ok_aload_n (i := 2) (k := 2) rfl (idL_16 (761, .aload_n 2, 1) (List.mem_of_getElem? (i := 3) rfl)), List.forall_mem_cons.mpr ⟨ok_cv (c := 7) (T := TX7) (N := 44) cw_X7_sunny rfl (by decide) mlL_89 (idL_16 (762, .invokevirtual 89, 3) (List.mem_of_getElem? (i := 4) rfl)), List.forall_mem_cons.mpr ⟨ok_pop (idL_16 (765, .pop, 1) (List.mem_of_getElem? (i := 5) rfl)), List.forall_mem_cons.mpr ⟨ok_goto (t := 1885) (by decide) (idL_16 (766, .goto 1119, 3) (List.mem_of_getElem? (i := 6) rfl)), fun _ h => absurd h List.not_mem_nil⟩⟩⟩⟩⟩⟩⟩
noncomputable def ilL_17 : List (Nat × Instr × Nat) := [(769, .aload_n 1, 1), (770, .invokevirtual 90, 3), (773, .pop, 1), (774, .aload_n 2, 1), (775, .invokevirtual 93, 3), (778, .pop, 1), (779, .goto 1106, 3)]
theorem idL_17 : ∀ x ∈ ilL_17, decode cL_law x.1 = .ok x.2 := sq_ok (B := 769) rfl (by decide +kernel : sqI cL_law 769 (cL_law.data.toList.drop 769) ilL_17 = true)
noncomputable def tbL_17 (l : Launch) (X : Nat × (Nat → Int32)) (d : Nat) (b : Nat × Nat) : List (Nat × OP) := [(769, oAl 769 1 1), (770, oCv l X d 770 uX6_heaviest 6 0), (773, oPop 773), (774, oAl 774 1 2), (775, oCv l X d 775 uX7_heaviest 7 0), (778, oPop 778), (779, oGo 1885)]
set_option maxRecDepth 20000 in
theorem tkL_17 {l : Launch} {X : Nat × (Nat → Int32)} {d : Nat} {b : Nat × Nat} : ∀ x ∈ tbL_17 l X d b, OK l X uL (d + 1) false b x.1 x.2 :=
  List.forall_mem_cons.mpr ⟨ok_aload_n (i := 1) (k := 1) rfl (idL_17 (769, .aload_n 1, 1) (List.mem_of_getElem? (i := 0) rfl)), List.forall_mem_cons.mpr ⟨ok_cv (c := 6) (T := TX6) (N := 14) cw_X6_heaviest rfl (by decide) mlL_90 (idL_17 (770, .invokevirtual 90, 3) (List.mem_of_getElem? (i := 1) rfl)), List.forall_mem_cons.mpr ⟨ok_pop (idL_17 (773, .pop, 1) (List.mem_of_getElem? (i := 2) rfl)), List.forall_mem_cons.mpr ⟨ok_aload_n (i := 2) (k := 2) rfl (idL_17 (774, .aload_n 2, 1) (List.mem_of_getElem? (i := 3) rfl)), List.forall_mem_cons.mpr ⟨ok_cv (c := 7) (T := TX7) (N := 44) cw_X7_heaviest rfl (by decide) mlL_93 (idL_17 (775, .invokevirtual 93, 3) (List.mem_of_getElem? (i := 4) rfl)), List.forall_mem_cons.mpr ⟨ok_pop (idL_17 (778, .pop, 1) (List.mem_of_getElem? (i := 5) rfl)), List.forall_mem_cons.mpr ⟨ok_goto (t := 1885) (by decide) (idL_17 (779, .goto 1106, 3) (List.mem_of_getElem? (i := 6) rfl)), fun _ h => absurd h List.not_mem_nil⟩⟩⟩⟩⟩⟩⟩
noncomputable def ilL_18 : List (Nat × Instr × Nat) := [(782, .aload_n 1, 1), (783, .aload_n 0, 1), (784, .iload 4, 2), (786, .iconst 1, 1), (787, .iadd, 1), (788, .iaload, 1), (789, .invokevirtual 94, 3), (792, .pop, 1), (793, .aload_n 2, 1), (794, .aload_n 0, 1), (795, .iload 4, 2), (797, .iconst 1, 1), (798, .iadd, 1), (799, .iaload, 1), (800, .invokevirtual 97, 3), (803, .pop, 1), (804, .goto 1081, 3)]
theorem idL_18 : ∀ x ∈ ilL_18, decode cL_law x.1 = .ok x.2 := sq_ok (B := 782) rfl (by decide +kernel : sqI cL_law 782 (cL_law.data.toList.drop 782) ilL_18 = true)
noncomputable def tbL_18 (l : Launch) (X : Nat × (Nat → Int32)) (d : Nat) (b : Nat × Nat) : List (Nat × OP) := [(782, oAl 782 1 1), (783, oAl 783 1 0), (784, oIl 784 2 4), (786, oIc 786 1 1), (787, o2 787 (fun x y => x + y)), (788, oScd X 788), (789, oCv l X d 789 uX6_fallen 6 1), (792, oPop 792), (793, oAl 793 1 2), (794, oAl 794 1 0), (795, oIl 795 2 4), (797, oIc 797 1 1), (798, o2 798 (fun x y => x + y)), (799, oScd X 799), (800, oCv l X d 800 uX7_fallen 7 1), (803, oPop 803), (804, oGo 1885)]
set_option maxRecDepth 20000 in
theorem tkL_18 {l : Launch} {X : Nat × (Nat → Int32)} {d : Nat} {b : Nat × Nat} : ∀ x ∈ tbL_18 l X d b, OK l X uL (d + 1) false b x.1 x.2 :=
  List.forall_mem_cons.mpr ⟨ok_aload_n (i := 1) (k := 1) rfl (idL_18 (782, .aload_n 1, 1) (List.mem_of_getElem? (i := 0) rfl)), List.forall_mem_cons.mpr ⟨ok_aload_n (i := 0) (k := 0) rfl (idL_18 (783, .aload_n 0, 1) (List.mem_of_getElem? (i := 1) rfl)), List.forall_mem_cons.mpr ⟨ok_iload (i := 4) (idL_18 (784, .iload 4, 2) (List.mem_of_getElem? (i := 2) rfl)), List.forall_mem_cons.mpr ⟨ok_iconst (n := 1) (v := 1) (by decide) (idL_18 (786, .iconst 1, 1) (List.mem_of_getElem? (i := 3) rfl)), List.forall_mem_cons.mpr ⟨ok_iadd (idL_18 (787, .iadd, 1) (List.mem_of_getElem? (i := 4) rfl)), List.forall_mem_cons.mpr ⟨ok_scd (idL_18 (788, .iaload, 1) (List.mem_of_getElem? (i := 5) rfl)), List.forall_mem_cons.mpr ⟨ok_cv (c := 6) (T := TX6) (N := 14) cw_X6_fallen rfl (by decide) mlL_94 (idL_18 (789, .invokevirtual 94, 3) (List.mem_of_getElem? (i := 6) rfl)), List.forall_mem_cons.mpr ⟨ok_pop (idL_18 (792, .pop, 1) (List.mem_of_getElem? (i := 7) rfl)), List.forall_mem_cons.mpr ⟨ok_aload_n (i := 2) (k := 2) rfl (idL_18 (793, .aload_n 2, 1) (List.mem_of_getElem? (i := 8) rfl)), List.forall_mem_cons.mpr ⟨ok_aload_n (i := 0) (k := 0) rfl (idL_18 (794, .aload_n 0, 1) (List.mem_of_getElem? (i := 9) rfl)), List.forall_mem_cons.mpr ⟨ok_iload (i := 4) (idL_18 (795, .iload 4, 2) (List.mem_of_getElem? (i := 10) rfl)), List.forall_mem_cons.mpr ⟨ok_iconst (n := 1) (v := 1) (by decide) (idL_18 (797, .iconst 1, 1) (List.mem_of_getElem? (i := 11) rfl)), List.forall_mem_cons.mpr ⟨ok_iadd (idL_18 (798, .iadd, 1) (List.mem_of_getElem? (i := 12) rfl)), List.forall_mem_cons.mpr ⟨ok_scd (idL_18 (799, .iaload, 1) (List.mem_of_getElem? (i := 13) rfl)), List.forall_mem_cons.mpr ⟨ok_cv (c := 7) (T := TX7) (N := 44) cw_X7_fallen rfl (by decide) mlL_97 (idL_18 (800, .invokevirtual 97, 3) (List.mem_of_getElem? (i := 14) rfl)), List.forall_mem_cons.mpr ⟨ok_pop (idL_18 (803, .pop, 1) (List.mem_of_getElem? (i := 15) rfl)), List.forall_mem_cons.mpr ⟨ok_goto (t := 1885) (by decide) (idL_18 (804, .goto 1081, 3) (List.mem_of_getElem? (i := 16) rfl)), fun _ h => absurd h List.not_mem_nil⟩⟩⟩⟩⟩⟩⟩⟩⟩⟩⟩⟩⟩⟩⟩⟩⟩
noncomputable def ilL_19 : List (Nat × Instr × Nat) := [(807, .aload_n 1, 1), (808, .aload_n 0, 1), (809, .iload 4, 2), (811, .iconst 1, 1), (812, .iadd, 1), (813, .iaload, 1), (814, .aload_n 0, 1), (815, .iload 4, 2), (817, .iconst 2, 1), (818, .iadd, 1), (819, .iaload, 1), (820, .aload_n 0, 1), (821, .iload 4, 2), (823, .iconst 3, 1), (824, .iadd, 1), (825, .iaload, 1), (826, .invokevirtual 98, 3), (829, .pop, 1), (830, .aload_n 2, 1), (831, .aload_n 0, 1), (832, .iload 4, 2), (834, .iconst 1, 1), (835, .iadd, 1), (836, .iaload, 1), (837, .aload_n 0, 1), (838, .iload 4, 2), (840, .iconst 2, 1), (841, .iadd, 1), (842, .iaload, 1), (843, .aload_n 0, 1), (844, .iload 4, 2), (846, .iconst 3, 1), (847, .iadd, 1), (848, .iaload, 1), (849, .invokevirtual 102, 3), (852, .pop, 1), (853, .goto 1032, 3)]
theorem idL_19 : ∀ x ∈ ilL_19, decode cL_law x.1 = .ok x.2 := sq_ok (B := 807) rfl (by decide +kernel : sqI cL_law 807 (cL_law.data.toList.drop 807) ilL_19 = true)
noncomputable def tbL_19 (l : Launch) (X : Nat × (Nat → Int32)) (d : Nat) (b : Nat × Nat) : List (Nat × OP) := [(807, oAl 807 1 1), (808, oAl 808 1 0), (809, oIl 809 2 4), (811, oIc 811 1 1), (812, o2 812 (fun x y => x + y)), (813, oScd X 813), (814, oAl 814 1 0), (815, oIl 815 2 4), (817, oIc 817 1 2), (818, o2 818 (fun x y => x + y)), (819, oScd X 819), (820, oAl 820 1 0), (821, oIl 821 2 4), (823, oIc 823 1 3), (824, o2 824 (fun x y => x + y)), (825, oScd X 825), (826, oCv l X d 826 uX6_dropsIf 6 3), (829, oPop 829), (830, oAl 830 1 2), (831, oAl 831 1 0), (832, oIl 832 2 4), (834, oIc 834 1 1), (835, o2 835 (fun x y => x + y)), (836, oScd X 836), (837, oAl 837 1 0), (838, oIl 838 2 4), (840, oIc 840 1 2), (841, o2 841 (fun x y => x + y)), (842, oScd X 842), (843, oAl 843 1 0), (844, oIl 844 2 4), (846, oIc 846 1 3), (847, o2 847 (fun x y => x + y)), (848, oScd X 848), (849, oCv l X d 849 uX7_dropsIf 7 3), (852, oPop 852), (853, oGo 1885)]
set_option maxRecDepth 20000 in
theorem tkL_19 {l : Launch} {X : Nat × (Nat → Int32)} {d : Nat} {b : Nat × Nat} : ∀ x ∈ tbL_19 l X d b, OK l X uL (d + 1) false b x.1 x.2 :=
  List.forall_mem_cons.mpr ⟨ok_aload_n (i := 1) (k := 1) rfl (idL_19 (807, .aload_n 1, 1) (List.mem_of_getElem? (i := 0) rfl)), List.forall_mem_cons.mpr ⟨ok_aload_n (i := 0) (k := 0) rfl (idL_19 (808, .aload_n 0, 1) (List.mem_of_getElem? (i := 1) rfl)), List.forall_mem_cons.mpr ⟨ok_iload (i := 4) (idL_19 (809, .iload 4, 2) (List.mem_of_getElem? (i := 2) rfl)), List.forall_mem_cons.mpr ⟨ok_iconst (n := 1) (v := 1) (by decide) (idL_19 (811, .iconst 1, 1) (List.mem_of_getElem? (i := 3) rfl)), List.forall_mem_cons.mpr ⟨ok_iadd (idL_19 (812, .iadd, 1) (List.mem_of_getElem? (i := 4) rfl)), List.forall_mem_cons.mpr ⟨ok_scd (idL_19 (813, .iaload, 1) (List.mem_of_getElem? (i := 5) rfl)), List.forall_mem_cons.mpr ⟨ok_aload_n (i := 0) (k := 0) rfl (idL_19 (814, .aload_n 0, 1) (List.mem_of_getElem? (i := 6) rfl)), List.forall_mem_cons.mpr ⟨ok_iload (i := 4) (idL_19 (815, .iload 4, 2) (List.mem_of_getElem? (i := 7) rfl)), List.forall_mem_cons.mpr ⟨ok_iconst (n := 2) (v := 2) (by decide) (idL_19 (817, .iconst 2, 1) (List.mem_of_getElem? (i := 8) rfl)), List.forall_mem_cons.mpr ⟨ok_iadd (idL_19 (818, .iadd, 1) (List.mem_of_getElem? (i := 9) rfl)), List.forall_mem_cons.mpr ⟨ok_scd (idL_19 (819, .iaload, 1) (List.mem_of_getElem? (i := 10) rfl)), List.forall_mem_cons.mpr ⟨ok_aload_n (i := 0) (k := 0) rfl (idL_19 (820, .aload_n 0, 1) (List.mem_of_getElem? (i := 11) rfl)), List.forall_mem_cons.mpr ⟨ok_iload (i := 4) (idL_19 (821, .iload 4, 2) (List.mem_of_getElem? (i := 12) rfl)), List.forall_mem_cons.mpr ⟨ok_iconst (n := 3) (v := 3) (by decide) (idL_19 (823, .iconst 3, 1) (List.mem_of_getElem? (i := 13) rfl)), List.forall_mem_cons.mpr ⟨ok_iadd (idL_19 (824, .iadd, 1) (List.mem_of_getElem? (i := 14) rfl)), List.forall_mem_cons.mpr ⟨ok_scd (idL_19 (825, .iaload, 1) (List.mem_of_getElem? (i := 15) rfl)), List.forall_mem_cons.mpr ⟨ok_cv (c := 6) (T := TX6) (N := 14) cw_X6_dropsIf rfl (by decide) mlL_98 (idL_19 (826, .invokevirtual 98, 3) (List.mem_of_getElem? (i := 16) rfl)), List.forall_mem_cons.mpr ⟨ok_pop (idL_19 (829, .pop, 1) (List.mem_of_getElem? (i := 17) rfl)), List.forall_mem_cons.mpr ⟨ok_aload_n (i := 2) (k := 2) rfl (idL_19 (830, .aload_n 2, 1) (List.mem_of_getElem? (i := 18) rfl)), List.forall_mem_cons.mpr ⟨ok_aload_n (i := 0) (k := 0) rfl (idL_19 (831, .aload_n 0, 1) (List.mem_of_getElem? (i := 19) rfl)), List.forall_mem_cons.mpr ⟨ok_iload (i := 4) (idL_19 (832, .iload 4, 2) (List.mem_of_getElem? (i := 20) rfl)), List.forall_mem_cons.mpr ⟨ok_iconst (n := 1) (v := 1) (by decide) (idL_19 (834, .iconst 1, 1) (List.mem_of_getElem? (i := 21) rfl)), List.forall_mem_cons.mpr ⟨ok_iadd (idL_19 (835, .iadd, 1) (List.mem_of_getElem? (i := 22) rfl)), List.forall_mem_cons.mpr ⟨ok_scd (idL_19 (836, .iaload, 1) (List.mem_of_getElem? (i := 23) rfl)), List.forall_mem_cons.mpr ⟨ok_aload_n (i := 0) (k := 0) rfl (idL_19 (837, .aload_n 0, 1) (List.mem_of_getElem? (i := 24) rfl)), List.forall_mem_cons.mpr ⟨ok_iload (i := 4) (idL_19 (838, .iload 4, 2) (List.mem_of_getElem? (i := 25) rfl)), List.forall_mem_cons.mpr ⟨ok_iconst (n := 2) (v := 2) (by decide) (idL_19 (840, .iconst 2, 1) (List.mem_of_getElem? (i := 26) rfl)), List.forall_mem_cons.mpr ⟨ok_iadd (idL_19 (841, .iadd, 1) (List.mem_of_getElem? (i := 27) rfl)), List.forall_mem_cons.mpr ⟨ok_scd (idL_19 (842, .iaload, 1) (List.mem_of_getElem? (i := 28) rfl)), List.forall_mem_cons.mpr ⟨ok_aload_n (i := 0) (k := 0) rfl (idL_19 (843, .aload_n 0, 1) (List.mem_of_getElem? (i := 29) rfl)), List.forall_mem_cons.mpr ⟨ok_iload (i := 4) (idL_19 (844, .iload 4, 2) (List.mem_of_getElem? (i := 30) rfl)), List.forall_mem_cons.mpr ⟨ok_iconst (n := 3) (v := 3) (by decide) (idL_19 (846, .iconst 3, 1) (List.mem_of_getElem? (i := 31) rfl)), List.forall_mem_cons.mpr ⟨ok_iadd (idL_19 (847, .iadd, 1) (List.mem_of_getElem? (i := 32) rfl)), List.forall_mem_cons.mpr ⟨ok_scd (idL_19 (848, .iaload, 1) (List.mem_of_getElem? (i := 33) rfl)), List.forall_mem_cons.mpr ⟨ok_cv (c := 7) (T := TX7) (N := 44) cw_X7_dropsIf rfl (by decide) mlL_102 (idL_19 (849, .invokevirtual 102, 3) (List.mem_of_getElem? (i := 34) rfl)), List.forall_mem_cons.mpr ⟨ok_pop (idL_19 (852, .pop, 1) (List.mem_of_getElem? (i := 35) rfl)), List.forall_mem_cons.mpr ⟨ok_goto (t := 1885) (by decide) (idL_19 (853, .goto 1032, 3) (List.mem_of_getElem? (i := 36) rfl)), fun _ h => absurd h List.not_mem_nil⟩⟩⟩⟩⟩⟩⟩⟩⟩⟩⟩⟩⟩⟩⟩⟩⟩⟩⟩⟩⟩⟩⟩⟩⟩⟩⟩⟩⟩⟩⟩⟩⟩⟩⟩⟩⟩
noncomputable def ilL_20 : List (Nat × Instr × Nat) := [(856, .aload_n 1, 1), (857, .aload_n 0, 1), (858, .iload 4, 2), (860, .iconst 1, 1), (861, .iadd, 1), (862, .iaload, 1), (863, .aload_n 0, 1), (864, .iload 4, 2), (866, .iconst 2, 1), (867, .iadd, 1), (868, .iaload, 1), (869, .invokevirtual 103, 3), (872, .pop, 1), (873, .aload_n 2, 1), (874, .aload_n 0, 1), (875, .iload 4, 2), (877, .iconst 1, 1), (878, .iadd, 1), (879, .iaload, 1), (880, .aload_n 0, 1), (881, .iload 4, 2), (883, .iconst 2, 1), (884, .iadd, 1), (885, .iaload, 1), (886, .invokevirtual 106, 3), (889, .pop, 1), (890, .goto 995, 3)]
theorem idL_20 : ∀ x ∈ ilL_20, decode cL_law x.1 = .ok x.2 := sq_ok (B := 856) rfl (by decide +kernel : sqI cL_law 856 (cL_law.data.toList.drop 856) ilL_20 = true)
noncomputable def tbL_20 (l : Launch) (X : Nat × (Nat → Int32)) (d : Nat) (b : Nat × Nat) : List (Nat × OP) := [(856, oAl 856 1 1), (857, oAl 857 1 0), (858, oIl 858 2 4), (860, oIc 860 1 1), (861, o2 861 (fun x y => x + y)), (862, oScd X 862), (863, oAl 863 1 0), (864, oIl 864 2 4), (866, oIc 866 1 2), (867, o2 867 (fun x y => x + y)), (868, oScd X 868), (869, oCv l X d 869 uX6_faceFor 6 2), (872, oPop 872), (873, oAl 873 1 2), (874, oAl 874 1 0), (875, oIl 875 2 4), (877, oIc 877 1 1), (878, o2 878 (fun x y => x + y)), (879, oScd X 879), (880, oAl 880 1 0), (881, oIl 881 2 4), (883, oIc 883 1 2), (884, o2 884 (fun x y => x + y)), (885, oScd X 885), (886, oCv l X d 886 uX7_faceFor 7 2), (889, oPop 889), (890, oGo 1885)]
set_option maxRecDepth 20000 in
theorem tkL_20 {l : Launch} {X : Nat × (Nat → Int32)} {d : Nat} {b : Nat × Nat} : ∀ x ∈ tbL_20 l X d b, OK l X uL (d + 1) false b x.1 x.2 :=
  List.forall_mem_cons.mpr ⟨ok_aload_n (i := 1) (k := 1) rfl (idL_20 (856, .aload_n 1, 1) (List.mem_of_getElem? (i := 0) rfl)), List.forall_mem_cons.mpr ⟨ok_aload_n (i := 0) (k := 0) rfl (idL_20 (857, .aload_n 0, 1) (List.mem_of_getElem? (i := 1) rfl)), List.forall_mem_cons.mpr ⟨ok_iload (i := 4) (idL_20 (858, .iload 4, 2) (List.mem_of_getElem? (i := 2) rfl)), List.forall_mem_cons.mpr ⟨ok_iconst (n := 1) (v := 1) (by decide) (idL_20 (860, .iconst 1, 1) (List.mem_of_getElem? (i := 3) rfl)), List.forall_mem_cons.mpr ⟨ok_iadd (idL_20 (861, .iadd, 1) (List.mem_of_getElem? (i := 4) rfl)), List.forall_mem_cons.mpr ⟨ok_scd (idL_20 (862, .iaload, 1) (List.mem_of_getElem? (i := 5) rfl)), List.forall_mem_cons.mpr ⟨ok_aload_n (i := 0) (k := 0) rfl (idL_20 (863, .aload_n 0, 1) (List.mem_of_getElem? (i := 6) rfl)), List.forall_mem_cons.mpr ⟨ok_iload (i := 4) (idL_20 (864, .iload 4, 2) (List.mem_of_getElem? (i := 7) rfl)), List.forall_mem_cons.mpr ⟨ok_iconst (n := 2) (v := 2) (by decide) (idL_20 (866, .iconst 2, 1) (List.mem_of_getElem? (i := 8) rfl)), List.forall_mem_cons.mpr ⟨ok_iadd (idL_20 (867, .iadd, 1) (List.mem_of_getElem? (i := 9) rfl)), List.forall_mem_cons.mpr ⟨ok_scd (idL_20 (868, .iaload, 1) (List.mem_of_getElem? (i := 10) rfl)), List.forall_mem_cons.mpr ⟨ok_cv (c := 6) (T := TX6) (N := 14) cw_X6_faceFor rfl (by decide) mlL_103 (idL_20 (869, .invokevirtual 103, 3) (List.mem_of_getElem? (i := 11) rfl)), List.forall_mem_cons.mpr ⟨ok_pop (idL_20 (872, .pop, 1) (List.mem_of_getElem? (i := 12) rfl)), List.forall_mem_cons.mpr ⟨ok_aload_n (i := 2) (k := 2) rfl (idL_20 (873, .aload_n 2, 1) (List.mem_of_getElem? (i := 13) rfl)), List.forall_mem_cons.mpr ⟨ok_aload_n (i := 0) (k := 0) rfl (idL_20 (874, .aload_n 0, 1) (List.mem_of_getElem? (i := 14) rfl)), List.forall_mem_cons.mpr ⟨ok_iload (i := 4) (idL_20 (875, .iload 4, 2) (List.mem_of_getElem? (i := 15) rfl)), List.forall_mem_cons.mpr ⟨ok_iconst (n := 1) (v := 1) (by decide) (idL_20 (877, .iconst 1, 1) (List.mem_of_getElem? (i := 16) rfl)), List.forall_mem_cons.mpr ⟨ok_iadd (idL_20 (878, .iadd, 1) (List.mem_of_getElem? (i := 17) rfl)), List.forall_mem_cons.mpr ⟨ok_scd (idL_20 (879, .iaload, 1) (List.mem_of_getElem? (i := 18) rfl)), List.forall_mem_cons.mpr ⟨ok_aload_n (i := 0) (k := 0) rfl (idL_20 (880, .aload_n 0, 1) (List.mem_of_getElem? (i := 19) rfl)), List.forall_mem_cons.mpr ⟨ok_iload (i := 4) (idL_20 (881, .iload 4, 2) (List.mem_of_getElem? (i := 20) rfl)), List.forall_mem_cons.mpr ⟨ok_iconst (n := 2) (v := 2) (by decide) (idL_20 (883, .iconst 2, 1) (List.mem_of_getElem? (i := 21) rfl)), List.forall_mem_cons.mpr ⟨ok_iadd (idL_20 (884, .iadd, 1) (List.mem_of_getElem? (i := 22) rfl)), List.forall_mem_cons.mpr ⟨ok_scd (idL_20 (885, .iaload, 1) (List.mem_of_getElem? (i := 23) rfl)), List.forall_mem_cons.mpr ⟨ok_cv (c := 7) (T := TX7) (N := 44) cw_X7_faceFor rfl (by decide) mlL_106 (idL_20 (886, .invokevirtual 106, 3) (List.mem_of_getElem? (i := 24) rfl)), List.forall_mem_cons.mpr ⟨ok_pop (idL_20 (889, .pop, 1) (List.mem_of_getElem? (i := 25) rfl)), List.forall_mem_cons.mpr ⟨ok_goto (t := 1885) (by decide) (idL_20 (890, .goto 995, 3) (List.mem_of_getElem? (i := 26) rfl)), fun _ h => absurd h List.not_mem_nil⟩⟩⟩⟩⟩⟩⟩⟩⟩⟩⟩⟩⟩⟩⟩⟩⟩⟩⟩⟩⟩⟩⟩⟩⟩⟩⟩
noncomputable def ilL_21 : List (Nat × Instr × Nat) := [(893, .aload_n 1, 1), (894, .aload_n 0, 1), (895, .iload 4, 2), (897, .iconst 1, 1), (898, .iadd, 1), (899, .iaload, 1), (900, .invokevirtual 107, 3), (903, .pop, 1), (904, .aload_n 2, 1), (905, .aload_n 0, 1), (906, .iload 4, 2), (908, .iconst 1, 1), (909, .iadd, 1), (910, .iaload, 1), (911, .invokevirtual 110, 3), (914, .pop, 1), (915, .goto 970, 3)]
theorem idL_21 : ∀ x ∈ ilL_21, decode cL_law x.1 = .ok x.2 := sq_ok (B := 893) rfl (by decide +kernel : sqI cL_law 893 (cL_law.data.toList.drop 893) ilL_21 = true)
noncomputable def tbL_21 (l : Launch) (X : Nat × (Nat → Int32)) (d : Nat) (b : Nat × Nat) : List (Nat × OP) := [(893, oAl 893 1 1), (894, oAl 894 1 0), (895, oIl 895 2 4), (897, oIc 897 1 1), (898, o2 898 (fun x y => x + y)), (899, oScd X 899), (900, oCv l X d 900 uX6_match 6 1), (903, oPop 903), (904, oAl 904 1 2), (905, oAl 905 1 0), (906, oIl 906 2 4), (908, oIc 908 1 1), (909, o2 909 (fun x y => x + y)), (910, oScd X 910), (911, oCv l X d 911 uX7_match 7 1), (914, oPop 914), (915, oGo 1885)]
set_option maxRecDepth 20000 in
theorem tkL_21 {l : Launch} {X : Nat × (Nat → Int32)} {d : Nat} {b : Nat × Nat} : ∀ x ∈ tbL_21 l X d b, OK l X uL (d + 1) false b x.1 x.2 :=
  List.forall_mem_cons.mpr ⟨ok_aload_n (i := 1) (k := 1) rfl (idL_21 (893, .aload_n 1, 1) (List.mem_of_getElem? (i := 0) rfl)), List.forall_mem_cons.mpr ⟨ok_aload_n (i := 0) (k := 0) rfl (idL_21 (894, .aload_n 0, 1) (List.mem_of_getElem? (i := 1) rfl)), List.forall_mem_cons.mpr ⟨ok_iload (i := 4) (idL_21 (895, .iload 4, 2) (List.mem_of_getElem? (i := 2) rfl)), List.forall_mem_cons.mpr ⟨ok_iconst (n := 1) (v := 1) (by decide) (idL_21 (897, .iconst 1, 1) (List.mem_of_getElem? (i := 3) rfl)), List.forall_mem_cons.mpr ⟨ok_iadd (idL_21 (898, .iadd, 1) (List.mem_of_getElem? (i := 4) rfl)), List.forall_mem_cons.mpr ⟨ok_scd (idL_21 (899, .iaload, 1) (List.mem_of_getElem? (i := 5) rfl)), List.forall_mem_cons.mpr ⟨ok_cv (c := 6) (T := TX6) (N := 14) cw_X6_match rfl (by decide) mlL_107 (idL_21 (900, .invokevirtual 107, 3) (List.mem_of_getElem? (i := 6) rfl)), List.forall_mem_cons.mpr ⟨ok_pop (idL_21 (903, .pop, 1) (List.mem_of_getElem? (i := 7) rfl)), List.forall_mem_cons.mpr ⟨ok_aload_n (i := 2) (k := 2) rfl (idL_21 (904, .aload_n 2, 1) (List.mem_of_getElem? (i := 8) rfl)), List.forall_mem_cons.mpr ⟨ok_aload_n (i := 0) (k := 0) rfl (idL_21 (905, .aload_n 0, 1) (List.mem_of_getElem? (i := 9) rfl)), List.forall_mem_cons.mpr ⟨ok_iload (i := 4) (idL_21 (906, .iload 4, 2) (List.mem_of_getElem? (i := 10) rfl)), List.forall_mem_cons.mpr ⟨ok_iconst (n := 1) (v := 1) (by decide) (idL_21 (908, .iconst 1, 1) (List.mem_of_getElem? (i := 11) rfl)), List.forall_mem_cons.mpr ⟨ok_iadd (idL_21 (909, .iadd, 1) (List.mem_of_getElem? (i := 12) rfl)), List.forall_mem_cons.mpr ⟨ok_scd (idL_21 (910, .iaload, 1) (List.mem_of_getElem? (i := 13) rfl)), List.forall_mem_cons.mpr ⟨ok_cv (c := 7) (T := TX7) (N := 44) cw_X7_match rfl (by decide) mlL_110 (idL_21 (911, .invokevirtual 110, 3) (List.mem_of_getElem? (i := 14) rfl)), List.forall_mem_cons.mpr ⟨ok_pop (idL_21 (914, .pop, 1) (List.mem_of_getElem? (i := 15) rfl)), List.forall_mem_cons.mpr ⟨ok_goto (t := 1885) (by decide) (idL_21 (915, .goto 970, 3) (List.mem_of_getElem? (i := 16) rfl)), fun _ h => absurd h List.not_mem_nil⟩⟩⟩⟩⟩⟩⟩⟩⟩⟩⟩⟩⟩⟩⟩⟩⟩
noncomputable def ilL_22 : List (Nat × Instr × Nat) := [(918, .aload_n 1, 1), (919, .aload_n 0, 1), (920, .iload 4, 2), (922, .iconst 1, 1), (923, .iadd, 1), (924, .iaload, 1), (925, .invokevirtual 111, 3), (928, .pop, 1), (929, .aload_n 2, 1), (930, .aload_n 0, 1), (931, .iload 4, 2), (933, .iconst 1, 1), (934, .iadd, 1), (935, .iaload, 1), (936, .invokevirtual 114, 3), (939, .pop, 1), (940, .goto 945, 3)]
theorem idL_22 : ∀ x ∈ ilL_22, decode cL_law x.1 = .ok x.2 := sq_ok (B := 918) rfl (by decide +kernel : sqI cL_law 918 (cL_law.data.toList.drop 918) ilL_22 = true)
noncomputable def tbL_22 (l : Launch) (X : Nat × (Nat → Int32)) (d : Nat) (b : Nat × Nat) : List (Nat × OP) := [(918, oAl 918 1 1), (919, oAl 919 1 0), (920, oIl 920 2 4), (922, oIc 922 1 1), (923, o2 923 (fun x y => x + y)), (924, oScd X 924), (925, oCv l X d 925 uX6_matchDrops 6 1), (928, oPop 928), (929, oAl 929 1 2), (930, oAl 930 1 0), (931, oIl 931 2 4), (933, oIc 933 1 1), (934, o2 934 (fun x y => x + y)), (935, oScd X 935), (936, oCv l X d 936 uX7_matchDrops 7 1), (939, oPop 939), (940, oGo 1885)]
set_option maxRecDepth 20000 in
theorem tkL_22 {l : Launch} {X : Nat × (Nat → Int32)} {d : Nat} {b : Nat × Nat} : ∀ x ∈ tbL_22 l X d b, OK l X uL (d + 1) false b x.1 x.2 :=
  List.forall_mem_cons.mpr ⟨ok_aload_n (i := 1) (k := 1) rfl (idL_22 (918, .aload_n 1, 1) (List.mem_of_getElem? (i := 0) rfl)), List.forall_mem_cons.mpr ⟨ok_aload_n (i := 0) (k := 0) rfl (idL_22 (919, .aload_n 0, 1) (List.mem_of_getElem? (i := 1) rfl)), List.forall_mem_cons.mpr ⟨ok_iload (i := 4) (idL_22 (920, .iload 4, 2) (List.mem_of_getElem? (i := 2) rfl)), List.forall_mem_cons.mpr ⟨ok_iconst (n := 1) (v := 1) (by decide) (idL_22 (922, .iconst 1, 1) (List.mem_of_getElem? (i := 3) rfl)), List.forall_mem_cons.mpr ⟨ok_iadd (idL_22 (923, .iadd, 1) (List.mem_of_getElem? (i := 4) rfl)), List.forall_mem_cons.mpr ⟨ok_scd (idL_22 (924, .iaload, 1) (List.mem_of_getElem? (i := 5) rfl)), List.forall_mem_cons.mpr ⟨ok_cv (c := 6) (T := TX6) (N := 14) cw_X6_matchDrops rfl (by decide) mlL_111 (idL_22 (925, .invokevirtual 111, 3) (List.mem_of_getElem? (i := 6) rfl)), List.forall_mem_cons.mpr ⟨ok_pop (idL_22 (928, .pop, 1) (List.mem_of_getElem? (i := 7) rfl)), List.forall_mem_cons.mpr ⟨ok_aload_n (i := 2) (k := 2) rfl (idL_22 (929, .aload_n 2, 1) (List.mem_of_getElem? (i := 8) rfl)), List.forall_mem_cons.mpr ⟨ok_aload_n (i := 0) (k := 0) rfl (idL_22 (930, .aload_n 0, 1) (List.mem_of_getElem? (i := 9) rfl)), List.forall_mem_cons.mpr ⟨ok_iload (i := 4) (idL_22 (931, .iload 4, 2) (List.mem_of_getElem? (i := 10) rfl)), List.forall_mem_cons.mpr ⟨ok_iconst (n := 1) (v := 1) (by decide) (idL_22 (933, .iconst 1, 1) (List.mem_of_getElem? (i := 11) rfl)), List.forall_mem_cons.mpr ⟨ok_iadd (idL_22 (934, .iadd, 1) (List.mem_of_getElem? (i := 12) rfl)), List.forall_mem_cons.mpr ⟨ok_scd (idL_22 (935, .iaload, 1) (List.mem_of_getElem? (i := 13) rfl)), List.forall_mem_cons.mpr ⟨ok_cv (c := 7) (T := TX7) (N := 44) cw_X7_matchDrops rfl (by decide) mlL_114 (idL_22 (936, .invokevirtual 114, 3) (List.mem_of_getElem? (i := 14) rfl)), List.forall_mem_cons.mpr ⟨ok_pop (idL_22 (939, .pop, 1) (List.mem_of_getElem? (i := 15) rfl)), List.forall_mem_cons.mpr ⟨ok_goto (t := 1885) (by decide) (idL_22 (940, .goto 945, 3) (List.mem_of_getElem? (i := 16) rfl)), fun _ h => absurd h List.not_mem_nil⟩⟩⟩⟩⟩⟩⟩⟩⟩⟩⟩⟩⟩⟩⟩⟩⟩
noncomputable def ilL_23 : List (Nat × Instr × Nat) := [(943, .aload_n 1, 1), (944, .aload_n 0, 1), (945, .iload 4, 2), (947, .iconst 1, 1), (948, .iadd, 1), (949, .iaload, 1), (950, .aload_n 0, 1), (951, .iload 4, 2), (953, .iconst 2, 1), (954, .iadd, 1), (955, .iaload, 1), (956, .invokevirtual 115, 3), (959, .pop, 1), (960, .aload_n 2, 1), (961, .aload_n 0, 1), (962, .iload 4, 2), (964, .iconst 1, 1), (965, .iadd, 1), (966, .iaload, 1), (967, .aload_n 0, 1), (968, .iload 4, 2), (970, .iconst 2, 1), (971, .iadd, 1), (972, .iaload, 1), (973, .invokevirtual 118, 3), (976, .pop, 1), (977, .goto 908, 3)]
theorem idL_23 : ∀ x ∈ ilL_23, decode cL_law x.1 = .ok x.2 := sq_ok (B := 943) rfl (by decide +kernel : sqI cL_law 943 (cL_law.data.toList.drop 943) ilL_23 = true)
noncomputable def tbL_23 (l : Launch) (X : Nat × (Nat → Int32)) (d : Nat) (b : Nat × Nat) : List (Nat × OP) := [(943, oAl 943 1 1), (944, oAl 944 1 0), (945, oIl 945 2 4), (947, oIc 947 1 1), (948, o2 948 (fun x y => x + y)), (949, oScd X 949), (950, oAl 950 1 0), (951, oIl 951 2 4), (953, oIc 953 1 2), (954, o2 954 (fun x y => x + y)), (955, oScd X 955), (956, oCv l X d 956 uX6_matchAt 6 2), (959, oPop 959), (960, oAl 960 1 2), (961, oAl 961 1 0), (962, oIl 962 2 4), (964, oIc 964 1 1), (965, o2 965 (fun x y => x + y)), (966, oScd X 966), (967, oAl 967 1 0), (968, oIl 968 2 4), (970, oIc 970 1 2), (971, o2 971 (fun x y => x + y)), (972, oScd X 972), (973, oCv l X d 973 uX7_matchAt 7 2), (976, oPop 976), (977, oGo 1885)]
set_option maxRecDepth 20000 in
theorem tkL_23 {l : Launch} {X : Nat × (Nat → Int32)} {d : Nat} {b : Nat × Nat} : ∀ x ∈ tbL_23 l X d b, OK l X uL (d + 1) false b x.1 x.2 :=
  List.forall_mem_cons.mpr ⟨ok_aload_n (i := 1) (k := 1) rfl (idL_23 (943, .aload_n 1, 1) (List.mem_of_getElem? (i := 0) rfl)), List.forall_mem_cons.mpr ⟨ok_aload_n (i := 0) (k := 0) rfl (idL_23 (944, .aload_n 0, 1) (List.mem_of_getElem? (i := 1) rfl)), List.forall_mem_cons.mpr ⟨ok_iload (i := 4) (idL_23 (945, .iload 4, 2) (List.mem_of_getElem? (i := 2) rfl)), List.forall_mem_cons.mpr ⟨ok_iconst (n := 1) (v := 1) (by decide) (idL_23 (947, .iconst 1, 1) (List.mem_of_getElem? (i := 3) rfl)), List.forall_mem_cons.mpr ⟨ok_iadd (idL_23 (948, .iadd, 1) (List.mem_of_getElem? (i := 4) rfl)), List.forall_mem_cons.mpr ⟨ok_scd (idL_23 (949, .iaload, 1) (List.mem_of_getElem? (i := 5) rfl)), List.forall_mem_cons.mpr ⟨ok_aload_n (i := 0) (k := 0) rfl (idL_23 (950, .aload_n 0, 1) (List.mem_of_getElem? (i := 6) rfl)), List.forall_mem_cons.mpr ⟨ok_iload (i := 4) (idL_23 (951, .iload 4, 2) (List.mem_of_getElem? (i := 7) rfl)), List.forall_mem_cons.mpr ⟨ok_iconst (n := 2) (v := 2) (by decide) (idL_23 (953, .iconst 2, 1) (List.mem_of_getElem? (i := 8) rfl)), List.forall_mem_cons.mpr ⟨ok_iadd (idL_23 (954, .iadd, 1) (List.mem_of_getElem? (i := 9) rfl)), List.forall_mem_cons.mpr ⟨ok_scd (idL_23 (955, .iaload, 1) (List.mem_of_getElem? (i := 10) rfl)), List.forall_mem_cons.mpr ⟨ok_cv (c := 6) (T := TX6) (N := 14) cw_X6_matchAt rfl (by decide) mlL_115 (idL_23 (956, .invokevirtual 115, 3) (List.mem_of_getElem? (i := 11) rfl)), List.forall_mem_cons.mpr ⟨ok_pop (idL_23 (959, .pop, 1) (List.mem_of_getElem? (i := 12) rfl)), List.forall_mem_cons.mpr ⟨ok_aload_n (i := 2) (k := 2) rfl (idL_23 (960, .aload_n 2, 1) (List.mem_of_getElem? (i := 13) rfl)), List.forall_mem_cons.mpr ⟨ok_aload_n (i := 0) (k := 0) rfl (idL_23 (961, .aload_n 0, 1) (List.mem_of_getElem? (i := 14) rfl)), List.forall_mem_cons.mpr ⟨ok_iload (i := 4) (idL_23 (962, .iload 4, 2) (List.mem_of_getElem? (i := 15) rfl)), List.forall_mem_cons.mpr ⟨ok_iconst (n := 1) (v := 1) (by decide) (idL_23 (964, .iconst 1, 1) (List.mem_of_getElem? (i := 16) rfl)), List.forall_mem_cons.mpr ⟨ok_iadd (idL_23 (965, .iadd, 1) (List.mem_of_getElem? (i := 17) rfl)), List.forall_mem_cons.mpr ⟨ok_scd (idL_23 (966, .iaload, 1) (List.mem_of_getElem? (i := 18) rfl)), List.forall_mem_cons.mpr ⟨ok_aload_n (i := 0) (k := 0) rfl (idL_23 (967, .aload_n 0, 1) (List.mem_of_getElem? (i := 19) rfl)), List.forall_mem_cons.mpr ⟨ok_iload (i := 4) (idL_23 (968, .iload 4, 2) (List.mem_of_getElem? (i := 20) rfl)), List.forall_mem_cons.mpr ⟨ok_iconst (n := 2) (v := 2) (by decide) (idL_23 (970, .iconst 2, 1) (List.mem_of_getElem? (i := 21) rfl)), List.forall_mem_cons.mpr ⟨ok_iadd (idL_23 (971, .iadd, 1) (List.mem_of_getElem? (i := 22) rfl)), List.forall_mem_cons.mpr ⟨ok_scd (idL_23 (972, .iaload, 1) (List.mem_of_getElem? (i := 23) rfl)), List.forall_mem_cons.mpr ⟨ok_cv (c := 7) (T := TX7) (N := 44) cw_X7_matchAt rfl (by decide) mlL_118 (idL_23 (973, .invokevirtual 118, 3) (List.mem_of_getElem? (i := 24) rfl)), List.forall_mem_cons.mpr ⟨ok_pop (idL_23 (976, .pop, 1) (List.mem_of_getElem? (i := 25) rfl)), List.forall_mem_cons.mpr ⟨ok_goto (t := 1885) (by decide) (idL_23 (977, .goto 908, 3) (List.mem_of_getElem? (i := 26) rfl)), fun _ h => absurd h List.not_mem_nil⟩⟩⟩⟩⟩⟩⟩⟩⟩⟩⟩⟩⟩⟩⟩⟩⟩⟩⟩⟩⟩⟩⟩⟩⟩⟩⟩
noncomputable def ilL_24 : List (Nat × Instr × Nat) := [(980, .aload_n 1, 1), (981, .aload_n 0, 1), (982, .iload 4, 2), (984, .iconst 1, 1), (985, .iadd, 1), (986, .iaload, 1), (987, .aload_n 0, 1), (988, .iload 4, 2), (990, .iconst 2, 1), (991, .iadd, 1), (992, .iaload, 1), (993, .invokevirtual 119, 3), (996, .pop, 1), (997, .aload_n 2, 1), (998, .aload_n 0, 1), (999, .iload 4, 2), (1001, .iconst 1, 1), (1002, .iadd, 1), (1003, .iaload, 1), (1004, .aload_n 0, 1), (1005, .iload 4, 2), (1007, .iconst 2, 1), (1008, .iadd, 1), (1009, .iaload, 1), (1010, .invokevirtual 122, 3), (1013, .pop, 1), (1014, .goto 871, 3)]
theorem idL_24 : ∀ x ∈ ilL_24, decode cL_law x.1 = .ok x.2 := sq_ok (B := 980) rfl (by decide +kernel : sqI cL_law 980 (cL_law.data.toList.drop 980) ilL_24 = true)
noncomputable def tbL_24 (l : Launch) (X : Nat × (Nat → Int32)) (d : Nat) (b : Nat × Nat) : List (Nat × OP) := [(980, oAl 980 1 1), (981, oAl 981 1 0), (982, oIl 982 2 4), (984, oIc 984 1 1), (985, o2 985 (fun x y => x + y)), (986, oScd X 986), (987, oAl 987 1 0), (988, oIl 988 2 4), (990, oIc 990 1 2), (991, o2 991 (fun x y => x + y)), (992, oScd X 992), (993, oCv l X d 993 uX6_steps 6 2), (996, oPop 996), (997, oAl 997 1 2), (998, oAl 998 1 0), (999, oIl 999 2 4), (1001, oIc 1001 1 1), (1002, o2 1002 (fun x y => x + y)), (1003, oScd X 1003), (1004, oAl 1004 1 0), (1005, oIl 1005 2 4), (1007, oIc 1007 1 2), (1008, o2 1008 (fun x y => x + y)), (1009, oScd X 1009), (1010, oCv l X d 1010 uX7_steps 7 2), (1013, oPop 1013), (1014, oGo 1885)]
set_option maxRecDepth 20000 in
theorem tkL_24 {l : Launch} {X : Nat × (Nat → Int32)} {d : Nat} {b : Nat × Nat} : ∀ x ∈ tbL_24 l X d b, OK l X uL (d + 1) false b x.1 x.2 :=
  List.forall_mem_cons.mpr ⟨ok_aload_n (i := 1) (k := 1) rfl (idL_24 (980, .aload_n 1, 1) (List.mem_of_getElem? (i := 0) rfl)), List.forall_mem_cons.mpr ⟨ok_aload_n (i := 0) (k := 0) rfl (idL_24 (981, .aload_n 0, 1) (List.mem_of_getElem? (i := 1) rfl)), List.forall_mem_cons.mpr ⟨ok_iload (i := 4) (idL_24 (982, .iload 4, 2) (List.mem_of_getElem? (i := 2) rfl)), List.forall_mem_cons.mpr ⟨ok_iconst (n := 1) (v := 1) (by decide) (idL_24 (984, .iconst 1, 1) (List.mem_of_getElem? (i := 3) rfl)), List.forall_mem_cons.mpr ⟨ok_iadd (idL_24 (985, .iadd, 1) (List.mem_of_getElem? (i := 4) rfl)), List.forall_mem_cons.mpr ⟨ok_scd (idL_24 (986, .iaload, 1) (List.mem_of_getElem? (i := 5) rfl)), List.forall_mem_cons.mpr ⟨ok_aload_n (i := 0) (k := 0) rfl (idL_24 (987, .aload_n 0, 1) (List.mem_of_getElem? (i := 6) rfl)), List.forall_mem_cons.mpr ⟨ok_iload (i := 4) (idL_24 (988, .iload 4, 2) (List.mem_of_getElem? (i := 7) rfl)), List.forall_mem_cons.mpr ⟨ok_iconst (n := 2) (v := 2) (by decide) (idL_24 (990, .iconst 2, 1) (List.mem_of_getElem? (i := 8) rfl)), List.forall_mem_cons.mpr ⟨ok_iadd (idL_24 (991, .iadd, 1) (List.mem_of_getElem? (i := 9) rfl)), List.forall_mem_cons.mpr ⟨ok_scd (idL_24 (992, .iaload, 1) (List.mem_of_getElem? (i := 10) rfl)), List.forall_mem_cons.mpr ⟨ok_cv (c := 6) (T := TX6) (N := 14) cw_X6_steps rfl (by decide) mlL_119 (idL_24 (993, .invokevirtual 119, 3) (List.mem_of_getElem? (i := 11) rfl)), List.forall_mem_cons.mpr ⟨ok_pop (idL_24 (996, .pop, 1) (List.mem_of_getElem? (i := 12) rfl)), List.forall_mem_cons.mpr ⟨ok_aload_n (i := 2) (k := 2) rfl (idL_24 (997, .aload_n 2, 1) (List.mem_of_getElem? (i := 13) rfl)), List.forall_mem_cons.mpr ⟨ok_aload_n (i := 0) (k := 0) rfl (idL_24 (998, .aload_n 0, 1) (List.mem_of_getElem? (i := 14) rfl)), List.forall_mem_cons.mpr ⟨ok_iload (i := 4) (idL_24 (999, .iload 4, 2) (List.mem_of_getElem? (i := 15) rfl)), List.forall_mem_cons.mpr ⟨ok_iconst (n := 1) (v := 1) (by decide) (idL_24 (1001, .iconst 1, 1) (List.mem_of_getElem? (i := 16) rfl)), List.forall_mem_cons.mpr ⟨ok_iadd (idL_24 (1002, .iadd, 1) (List.mem_of_getElem? (i := 17) rfl)), List.forall_mem_cons.mpr ⟨ok_scd (idL_24 (1003, .iaload, 1) (List.mem_of_getElem? (i := 18) rfl)), List.forall_mem_cons.mpr ⟨ok_aload_n (i := 0) (k := 0) rfl (idL_24 (1004, .aload_n 0, 1) (List.mem_of_getElem? (i := 19) rfl)), List.forall_mem_cons.mpr ⟨ok_iload (i := 4) (idL_24 (1005, .iload 4, 2) (List.mem_of_getElem? (i := 20) rfl)), List.forall_mem_cons.mpr ⟨ok_iconst (n := 2) (v := 2) (by decide) (idL_24 (1007, .iconst 2, 1) (List.mem_of_getElem? (i := 21) rfl)), List.forall_mem_cons.mpr ⟨ok_iadd (idL_24 (1008, .iadd, 1) (List.mem_of_getElem? (i := 22) rfl)), List.forall_mem_cons.mpr ⟨ok_scd (idL_24 (1009, .iaload, 1) (List.mem_of_getElem? (i := 23) rfl)), List.forall_mem_cons.mpr ⟨ok_cv (c := 7) (T := TX7) (N := 44) cw_X7_steps rfl (by decide) mlL_122 (idL_24 (1010, .invokevirtual 122, 3) (List.mem_of_getElem? (i := 24) rfl)), List.forall_mem_cons.mpr ⟨ok_pop (idL_24 (1013, .pop, 1) (List.mem_of_getElem? (i := 25) rfl)), List.forall_mem_cons.mpr ⟨ok_goto (t := 1885) (by decide) (idL_24 (1014, .goto 871, 3) (List.mem_of_getElem? (i := 26) rfl)), fun _ h => absurd h List.not_mem_nil⟩⟩⟩⟩⟩⟩⟩⟩⟩⟩⟩⟩⟩⟩⟩⟩⟩⟩⟩⟩⟩⟩⟩⟩⟩⟩⟩
noncomputable def ilL_25 : List (Nat × Instr × Nat) := [(1017, .aload_n 1, 1), (1018, .aload_n 0, 1), (1019, .iload 4, 2), (1021, .iconst 1, 1), (1022, .iadd, 1), (1023, .iaload, 1), (1024, .aload_n 0, 1), (1025, .iload 4, 2), (1027, .iconst 2, 1), (1028, .iadd, 1), (1029, .iaload, 1), (1030, .invokevirtual 123, 3), (1033, .pop, 1), (1034, .aload_n 2, 1), (1035, .aload_n 0, 1), (1036, .iload 4, 2), (1038, .iconst 1, 1), (1039, .iadd, 1), (1040, .iaload, 1), (1041, .aload_n 0, 1), (1042, .iload 4, 2), (1044, .iconst 2, 1), (1045, .iadd, 1), (1046, .iaload, 1), (1047, .invokevirtual 126, 3), (1050, .pop, 1), (1051, .goto 834, 3)]
theorem idL_25 : ∀ x ∈ ilL_25, decode cL_law x.1 = .ok x.2 := sq_ok (B := 1017) rfl (by decide +kernel : sqI cL_law 1017 (cL_law.data.toList.drop 1017) ilL_25 = true)
noncomputable def tbL_25 (l : Launch) (X : Nat × (Nat → Int32)) (d : Nat) (b : Nat × Nat) : List (Nat × OP) := [(1017, oAl 1017 1 1), (1018, oAl 1018 1 0), (1019, oIl 1019 2 4), (1021, oIc 1021 1 1), (1022, o2 1022 (fun x y => x + y)), (1023, oScd X 1023), (1024, oAl 1024 1 0), (1025, oIl 1025 2 4), (1027, oIc 1027 1 2), (1028, o2 1028 (fun x y => x + y)), (1029, oScd X 1029), (1030, oCv l X d 1030 uX6_wets 6 2), (1033, oPop 1033), (1034, oAl 1034 1 2), (1035, oAl 1035 1 0), (1036, oIl 1036 2 4), (1038, oIc 1038 1 1), (1039, o2 1039 (fun x y => x + y)), (1040, oScd X 1040), (1041, oAl 1041 1 0), (1042, oIl 1042 2 4), (1044, oIc 1044 1 2), (1045, o2 1045 (fun x y => x + y)), (1046, oScd X 1046), (1047, oCv l X d 1047 uX7_wets 7 2), (1050, oPop 1050), (1051, oGo 1885)]
set_option maxRecDepth 20000 in
theorem tkL_25 {l : Launch} {X : Nat × (Nat → Int32)} {d : Nat} {b : Nat × Nat} : ∀ x ∈ tbL_25 l X d b, OK l X uL (d + 1) false b x.1 x.2 :=
  List.forall_mem_cons.mpr ⟨ok_aload_n (i := 1) (k := 1) rfl (idL_25 (1017, .aload_n 1, 1) (List.mem_of_getElem? (i := 0) rfl)), List.forall_mem_cons.mpr ⟨ok_aload_n (i := 0) (k := 0) rfl (idL_25 (1018, .aload_n 0, 1) (List.mem_of_getElem? (i := 1) rfl)), List.forall_mem_cons.mpr ⟨ok_iload (i := 4) (idL_25 (1019, .iload 4, 2) (List.mem_of_getElem? (i := 2) rfl)), List.forall_mem_cons.mpr ⟨ok_iconst (n := 1) (v := 1) (by decide) (idL_25 (1021, .iconst 1, 1) (List.mem_of_getElem? (i := 3) rfl)), List.forall_mem_cons.mpr ⟨ok_iadd (idL_25 (1022, .iadd, 1) (List.mem_of_getElem? (i := 4) rfl)), List.forall_mem_cons.mpr ⟨ok_scd (idL_25 (1023, .iaload, 1) (List.mem_of_getElem? (i := 5) rfl)), List.forall_mem_cons.mpr ⟨ok_aload_n (i := 0) (k := 0) rfl (idL_25 (1024, .aload_n 0, 1) (List.mem_of_getElem? (i := 6) rfl)), List.forall_mem_cons.mpr ⟨ok_iload (i := 4) (idL_25 (1025, .iload 4, 2) (List.mem_of_getElem? (i := 7) rfl)), List.forall_mem_cons.mpr ⟨ok_iconst (n := 2) (v := 2) (by decide) (idL_25 (1027, .iconst 2, 1) (List.mem_of_getElem? (i := 8) rfl)), List.forall_mem_cons.mpr ⟨ok_iadd (idL_25 (1028, .iadd, 1) (List.mem_of_getElem? (i := 9) rfl)), List.forall_mem_cons.mpr ⟨ok_scd (idL_25 (1029, .iaload, 1) (List.mem_of_getElem? (i := 10) rfl)), List.forall_mem_cons.mpr ⟨ok_cv (c := 6) (T := TX6) (N := 14) cw_X6_wets rfl (by decide) mlL_123 (idL_25 (1030, .invokevirtual 123, 3) (List.mem_of_getElem? (i := 11) rfl)), List.forall_mem_cons.mpr ⟨ok_pop (idL_25 (1033, .pop, 1) (List.mem_of_getElem? (i := 12) rfl)), List.forall_mem_cons.mpr ⟨ok_aload_n (i := 2) (k := 2) rfl (idL_25 (1034, .aload_n 2, 1) (List.mem_of_getElem? (i := 13) rfl)), List.forall_mem_cons.mpr ⟨ok_aload_n (i := 0) (k := 0) rfl (idL_25 (1035, .aload_n 0, 1) (List.mem_of_getElem? (i := 14) rfl)), List.forall_mem_cons.mpr ⟨ok_iload (i := 4) (idL_25 (1036, .iload 4, 2) (List.mem_of_getElem? (i := 15) rfl)), List.forall_mem_cons.mpr ⟨ok_iconst (n := 1) (v := 1) (by decide) (idL_25 (1038, .iconst 1, 1) (List.mem_of_getElem? (i := 16) rfl)), List.forall_mem_cons.mpr ⟨ok_iadd (idL_25 (1039, .iadd, 1) (List.mem_of_getElem? (i := 17) rfl)), List.forall_mem_cons.mpr ⟨ok_scd (idL_25 (1040, .iaload, 1) (List.mem_of_getElem? (i := 18) rfl)), List.forall_mem_cons.mpr ⟨ok_aload_n (i := 0) (k := 0) rfl (idL_25 (1041, .aload_n 0, 1) (List.mem_of_getElem? (i := 19) rfl)), List.forall_mem_cons.mpr ⟨ok_iload (i := 4) (idL_25 (1042, .iload 4, 2) (List.mem_of_getElem? (i := 20) rfl)), List.forall_mem_cons.mpr ⟨ok_iconst (n := 2) (v := 2) (by decide) (idL_25 (1044, .iconst 2, 1) (List.mem_of_getElem? (i := 21) rfl)), List.forall_mem_cons.mpr ⟨ok_iadd (idL_25 (1045, .iadd, 1) (List.mem_of_getElem? (i := 22) rfl)), List.forall_mem_cons.mpr ⟨ok_scd (idL_25 (1046, .iaload, 1) (List.mem_of_getElem? (i := 23) rfl)), List.forall_mem_cons.mpr ⟨ok_cv (c := 7) (T := TX7) (N := 44) cw_X7_wets rfl (by decide) mlL_126 (idL_25 (1047, .invokevirtual 126, 3) (List.mem_of_getElem? (i := 24) rfl)), List.forall_mem_cons.mpr ⟨ok_pop (idL_25 (1050, .pop, 1) (List.mem_of_getElem? (i := 25) rfl)), List.forall_mem_cons.mpr ⟨ok_goto (t := 1885) (by decide) (idL_25 (1051, .goto 834, 3) (List.mem_of_getElem? (i := 26) rfl)), fun _ h => absurd h List.not_mem_nil⟩⟩⟩⟩⟩⟩⟩⟩⟩⟩⟩⟩⟩⟩⟩⟩⟩⟩⟩⟩⟩⟩⟩⟩⟩⟩⟩
noncomputable def ilL_26 : List (Nat × Instr × Nat) := [(1054, .aload_n 1, 1), (1055, .aload_n 0, 1), (1056, .iload 4, 2), (1058, .iconst 1, 1), (1059, .iadd, 1), (1060, .iaload, 1), (1061, .aload_n 0, 1), (1062, .iload 4, 2), (1064, .iconst 2, 1), (1065, .iadd, 1), (1066, .iaload, 1), (1067, .invokevirtual 127, 3), (1070, .pop, 1), (1071, .aload_n 2, 1), (1072, .aload_n 0, 1), (1073, .iload 4, 2), (1075, .iconst 1, 1), (1076, .iadd, 1), (1077, .iaload, 1), (1078, .aload_n 0, 1), (1079, .iload 4, 2), (1081, .iconst 2, 1), (1082, .iadd, 1), (1083, .iaload, 1), (1084, .invokevirtual 130, 3), (1087, .pop, 1), (1088, .goto 797, 3)]
theorem idL_26 : ∀ x ∈ ilL_26, decode cL_law x.1 = .ok x.2 := sq_ok (B := 1054) rfl (by decide +kernel : sqI cL_law 1054 (cL_law.data.toList.drop 1054) ilL_26 = true)
noncomputable def tbL_26 (l : Launch) (X : Nat × (Nat → Int32)) (d : Nat) (b : Nat × Nat) : List (Nat × OP) := [(1054, oAl 1054 1 1), (1055, oAl 1055 1 0), (1056, oIl 1056 2 4), (1058, oIc 1058 1 1), (1059, o2 1059 (fun x y => x + y)), (1060, oScd X 1060), (1061, oAl 1061 1 0), (1062, oIl 1062 2 4), (1064, oIc 1064 1 2), (1065, o2 1065 (fun x y => x + y)), (1066, oScd X 1066), (1067, oCv l X d 1067 uX6_way 6 2), (1070, oPop 1070), (1071, oAl 1071 1 2), (1072, oAl 1072 1 0), (1073, oIl 1073 2 4), (1075, oIc 1075 1 1), (1076, o2 1076 (fun x y => x + y)), (1077, oScd X 1077), (1078, oAl 1078 1 0), (1079, oIl 1079 2 4), (1081, oIc 1081 1 2), (1082, o2 1082 (fun x y => x + y)), (1083, oScd X 1083), (1084, oCv l X d 1084 uX7_way 7 2), (1087, oPop 1087), (1088, oGo 1885)]
set_option maxRecDepth 20000 in
theorem tkL_26 {l : Launch} {X : Nat × (Nat → Int32)} {d : Nat} {b : Nat × Nat} : ∀ x ∈ tbL_26 l X d b, OK l X uL (d + 1) false b x.1 x.2 :=
  List.forall_mem_cons.mpr ⟨ok_aload_n (i := 1) (k := 1) rfl (idL_26 (1054, .aload_n 1, 1) (List.mem_of_getElem? (i := 0) rfl)), List.forall_mem_cons.mpr ⟨ok_aload_n (i := 0) (k := 0) rfl (idL_26 (1055, .aload_n 0, 1) (List.mem_of_getElem? (i := 1) rfl)), List.forall_mem_cons.mpr ⟨ok_iload (i := 4) (idL_26 (1056, .iload 4, 2) (List.mem_of_getElem? (i := 2) rfl)), List.forall_mem_cons.mpr ⟨ok_iconst (n := 1) (v := 1) (by decide) (idL_26 (1058, .iconst 1, 1) (List.mem_of_getElem? (i := 3) rfl)), List.forall_mem_cons.mpr ⟨ok_iadd (idL_26 (1059, .iadd, 1) (List.mem_of_getElem? (i := 4) rfl)), List.forall_mem_cons.mpr ⟨ok_scd (idL_26 (1060, .iaload, 1) (List.mem_of_getElem? (i := 5) rfl)), List.forall_mem_cons.mpr ⟨ok_aload_n (i := 0) (k := 0) rfl (idL_26 (1061, .aload_n 0, 1) (List.mem_of_getElem? (i := 6) rfl)), List.forall_mem_cons.mpr ⟨ok_iload (i := 4) (idL_26 (1062, .iload 4, 2) (List.mem_of_getElem? (i := 7) rfl)), List.forall_mem_cons.mpr ⟨ok_iconst (n := 2) (v := 2) (by decide) (idL_26 (1064, .iconst 2, 1) (List.mem_of_getElem? (i := 8) rfl)), List.forall_mem_cons.mpr ⟨ok_iadd (idL_26 (1065, .iadd, 1) (List.mem_of_getElem? (i := 9) rfl)), List.forall_mem_cons.mpr ⟨ok_scd (idL_26 (1066, .iaload, 1) (List.mem_of_getElem? (i := 10) rfl)), List.forall_mem_cons.mpr ⟨ok_cv (c := 6) (T := TX6) (N := 14) cw_X6_way rfl (by decide) mlL_127 (idL_26 (1067, .invokevirtual 127, 3) (List.mem_of_getElem? (i := 11) rfl)), List.forall_mem_cons.mpr ⟨ok_pop (idL_26 (1070, .pop, 1) (List.mem_of_getElem? (i := 12) rfl)), List.forall_mem_cons.mpr ⟨ok_aload_n (i := 2) (k := 2) rfl (idL_26 (1071, .aload_n 2, 1) (List.mem_of_getElem? (i := 13) rfl)), List.forall_mem_cons.mpr ⟨ok_aload_n (i := 0) (k := 0) rfl (idL_26 (1072, .aload_n 0, 1) (List.mem_of_getElem? (i := 14) rfl)), List.forall_mem_cons.mpr ⟨ok_iload (i := 4) (idL_26 (1073, .iload 4, 2) (List.mem_of_getElem? (i := 15) rfl)), List.forall_mem_cons.mpr ⟨ok_iconst (n := 1) (v := 1) (by decide) (idL_26 (1075, .iconst 1, 1) (List.mem_of_getElem? (i := 16) rfl)), List.forall_mem_cons.mpr ⟨ok_iadd (idL_26 (1076, .iadd, 1) (List.mem_of_getElem? (i := 17) rfl)), List.forall_mem_cons.mpr ⟨ok_scd (idL_26 (1077, .iaload, 1) (List.mem_of_getElem? (i := 18) rfl)), List.forall_mem_cons.mpr ⟨ok_aload_n (i := 0) (k := 0) rfl (idL_26 (1078, .aload_n 0, 1) (List.mem_of_getElem? (i := 19) rfl)), List.forall_mem_cons.mpr ⟨ok_iload (i := 4) (idL_26 (1079, .iload 4, 2) (List.mem_of_getElem? (i := 20) rfl)), List.forall_mem_cons.mpr ⟨ok_iconst (n := 2) (v := 2) (by decide) (idL_26 (1081, .iconst 2, 1) (List.mem_of_getElem? (i := 21) rfl)), List.forall_mem_cons.mpr ⟨ok_iadd (idL_26 (1082, .iadd, 1) (List.mem_of_getElem? (i := 22) rfl)), List.forall_mem_cons.mpr ⟨ok_scd (idL_26 (1083, .iaload, 1) (List.mem_of_getElem? (i := 23) rfl)), List.forall_mem_cons.mpr ⟨ok_cv (c := 7) (T := TX7) (N := 44) cw_X7_way rfl (by decide) mlL_130 (idL_26 (1084, .invokevirtual 130, 3) (List.mem_of_getElem? (i := 24) rfl)), List.forall_mem_cons.mpr ⟨ok_pop (idL_26 (1087, .pop, 1) (List.mem_of_getElem? (i := 25) rfl)), List.forall_mem_cons.mpr ⟨ok_goto (t := 1885) (by decide) (idL_26 (1088, .goto 797, 3) (List.mem_of_getElem? (i := 26) rfl)), fun _ h => absurd h List.not_mem_nil⟩⟩⟩⟩⟩⟩⟩⟩⟩⟩⟩⟩⟩⟩⟩⟩⟩⟩⟩⟩⟩⟩⟩⟩⟩⟩⟩
noncomputable def ilL_27 : List (Nat × Instr × Nat) := [(1091, .aload_n 1, 1), (1092, .aload_n 0, 1), (1093, .iload 4, 2), (1095, .iconst 1, 1), (1096, .iadd, 1), (1097, .iaload, 1), (1098, .aload_n 0, 1), (1099, .iload 4, 2), (1101, .iconst 2, 1), (1102, .iadd, 1), (1103, .iaload, 1), (1104, .aload_n 0, 1), (1105, .iload 4, 2), (1107, .iconst 3, 1), (1108, .iadd, 1), (1109, .iaload, 1), (1110, .invokevirtual 131, 3), (1113, .pop, 1), (1114, .aload_n 2, 1), (1115, .aload_n 0, 1), (1116, .iload 4, 2), (1118, .iconst 1, 1), (1119, .iadd, 1), (1120, .iaload, 1), (1121, .aload_n 0, 1), (1122, .iload 4, 2), (1124, .iconst 2, 1), (1125, .iadd, 1), (1126, .iaload, 1), (1127, .aload_n 0, 1), (1128, .iload 4, 2), (1130, .iconst 3, 1), (1131, .iadd, 1), (1132, .iaload, 1), (1133, .invokevirtual 134, 3), (1136, .pop, 1), (1137, .goto 748, 3)]
theorem idL_27 : ∀ x ∈ ilL_27, decode cL_law x.1 = .ok x.2 := sq_ok (B := 1091) rfl (by decide +kernel : sqI cL_law 1091 (cL_law.data.toList.drop 1091) ilL_27 = true)
noncomputable def tbL_27 (l : Launch) (X : Nat × (Nat → Int32)) (d : Nat) (b : Nat × Nat) : List (Nat × OP) := [(1091, oAl 1091 1 1), (1092, oAl 1092 1 0), (1093, oIl 1093 2 4), (1095, oIc 1095 1 1), (1096, o2 1096 (fun x y => x + y)), (1097, oScd X 1097), (1098, oAl 1098 1 0), (1099, oIl 1099 2 4), (1101, oIc 1101 1 2), (1102, o2 1102 (fun x y => x + y)), (1103, oScd X 1103), (1104, oAl 1104 1 0), (1105, oIl 1105 2 4), (1107, oIc 1107 1 3), (1108, o2 1108 (fun x y => x + y)), (1109, oScd X 1109), (1110, oCv l X d 1110 uX6_wayAt 6 3), (1113, oPop 1113), (1114, oAl 1114 1 2), (1115, oAl 1115 1 0), (1116, oIl 1116 2 4), (1118, oIc 1118 1 1), (1119, o2 1119 (fun x y => x + y)), (1120, oScd X 1120), (1121, oAl 1121 1 0), (1122, oIl 1122 2 4), (1124, oIc 1124 1 2), (1125, o2 1125 (fun x y => x + y)), (1126, oScd X 1126), (1127, oAl 1127 1 0), (1128, oIl 1128 2 4), (1130, oIc 1130 1 3), (1131, o2 1131 (fun x y => x + y)), (1132, oScd X 1132), (1133, oCv l X d 1133 uX7_wayAt 7 3), (1136, oPop 1136), (1137, oGo 1885)]
set_option maxRecDepth 20000 in
theorem tkL_27 {l : Launch} {X : Nat × (Nat → Int32)} {d : Nat} {b : Nat × Nat} : ∀ x ∈ tbL_27 l X d b, OK l X uL (d + 1) false b x.1 x.2 :=
  List.forall_mem_cons.mpr ⟨ok_aload_n (i := 1) (k := 1) rfl (idL_27 (1091, .aload_n 1, 1) (List.mem_of_getElem? (i := 0) rfl)), List.forall_mem_cons.mpr ⟨ok_aload_n (i := 0) (k := 0) rfl (idL_27 (1092, .aload_n 0, 1) (List.mem_of_getElem? (i := 1) rfl)), List.forall_mem_cons.mpr ⟨ok_iload (i := 4) (idL_27 (1093, .iload 4, 2) (List.mem_of_getElem? (i := 2) rfl)), List.forall_mem_cons.mpr ⟨ok_iconst (n := 1) (v := 1) (by decide) (idL_27 (1095, .iconst 1, 1) (List.mem_of_getElem? (i := 3) rfl)), List.forall_mem_cons.mpr ⟨ok_iadd (idL_27 (1096, .iadd, 1) (List.mem_of_getElem? (i := 4) rfl)), List.forall_mem_cons.mpr ⟨ok_scd (idL_27 (1097, .iaload, 1) (List.mem_of_getElem? (i := 5) rfl)), List.forall_mem_cons.mpr ⟨ok_aload_n (i := 0) (k := 0) rfl (idL_27 (1098, .aload_n 0, 1) (List.mem_of_getElem? (i := 6) rfl)), List.forall_mem_cons.mpr ⟨ok_iload (i := 4) (idL_27 (1099, .iload 4, 2) (List.mem_of_getElem? (i := 7) rfl)), List.forall_mem_cons.mpr ⟨ok_iconst (n := 2) (v := 2) (by decide) (idL_27 (1101, .iconst 2, 1) (List.mem_of_getElem? (i := 8) rfl)), List.forall_mem_cons.mpr ⟨ok_iadd (idL_27 (1102, .iadd, 1) (List.mem_of_getElem? (i := 9) rfl)), List.forall_mem_cons.mpr ⟨ok_scd (idL_27 (1103, .iaload, 1) (List.mem_of_getElem? (i := 10) rfl)), List.forall_mem_cons.mpr ⟨ok_aload_n (i := 0) (k := 0) rfl (idL_27 (1104, .aload_n 0, 1) (List.mem_of_getElem? (i := 11) rfl)), List.forall_mem_cons.mpr ⟨ok_iload (i := 4) (idL_27 (1105, .iload 4, 2) (List.mem_of_getElem? (i := 12) rfl)), List.forall_mem_cons.mpr ⟨ok_iconst (n := 3) (v := 3) (by decide) (idL_27 (1107, .iconst 3, 1) (List.mem_of_getElem? (i := 13) rfl)), List.forall_mem_cons.mpr ⟨ok_iadd (idL_27 (1108, .iadd, 1) (List.mem_of_getElem? (i := 14) rfl)), List.forall_mem_cons.mpr ⟨ok_scd (idL_27 (1109, .iaload, 1) (List.mem_of_getElem? (i := 15) rfl)), List.forall_mem_cons.mpr ⟨ok_cv (c := 6) (T := TX6) (N := 14) cw_X6_wayAt rfl (by decide) mlL_131 (idL_27 (1110, .invokevirtual 131, 3) (List.mem_of_getElem? (i := 16) rfl)), List.forall_mem_cons.mpr ⟨ok_pop (idL_27 (1113, .pop, 1) (List.mem_of_getElem? (i := 17) rfl)), List.forall_mem_cons.mpr ⟨ok_aload_n (i := 2) (k := 2) rfl (idL_27 (1114, .aload_n 2, 1) (List.mem_of_getElem? (i := 18) rfl)), List.forall_mem_cons.mpr ⟨ok_aload_n (i := 0) (k := 0) rfl (idL_27 (1115, .aload_n 0, 1) (List.mem_of_getElem? (i := 19) rfl)), List.forall_mem_cons.mpr ⟨ok_iload (i := 4) (idL_27 (1116, .iload 4, 2) (List.mem_of_getElem? (i := 20) rfl)), List.forall_mem_cons.mpr ⟨ok_iconst (n := 1) (v := 1) (by decide) (idL_27 (1118, .iconst 1, 1) (List.mem_of_getElem? (i := 21) rfl)), List.forall_mem_cons.mpr ⟨ok_iadd (idL_27 (1119, .iadd, 1) (List.mem_of_getElem? (i := 22) rfl)), List.forall_mem_cons.mpr ⟨ok_scd (idL_27 (1120, .iaload, 1) (List.mem_of_getElem? (i := 23) rfl)), List.forall_mem_cons.mpr ⟨ok_aload_n (i := 0) (k := 0) rfl (idL_27 (1121, .aload_n 0, 1) (List.mem_of_getElem? (i := 24) rfl)), List.forall_mem_cons.mpr ⟨ok_iload (i := 4) (idL_27 (1122, .iload 4, 2) (List.mem_of_getElem? (i := 25) rfl)), List.forall_mem_cons.mpr ⟨ok_iconst (n := 2) (v := 2) (by decide) (idL_27 (1124, .iconst 2, 1) (List.mem_of_getElem? (i := 26) rfl)), List.forall_mem_cons.mpr ⟨ok_iadd (idL_27 (1125, .iadd, 1) (List.mem_of_getElem? (i := 27) rfl)), List.forall_mem_cons.mpr ⟨ok_scd (idL_27 (1126, .iaload, 1) (List.mem_of_getElem? (i := 28) rfl)), List.forall_mem_cons.mpr ⟨ok_aload_n (i := 0) (k := 0) rfl (idL_27 (1127, .aload_n 0, 1) (List.mem_of_getElem? (i := 29) rfl)), List.forall_mem_cons.mpr ⟨ok_iload (i := 4) (idL_27 (1128, .iload 4, 2) (List.mem_of_getElem? (i := 30) rfl)), List.forall_mem_cons.mpr ⟨ok_iconst (n := 3) (v := 3) (by decide) (idL_27 (1130, .iconst 3, 1) (List.mem_of_getElem? (i := 31) rfl)), List.forall_mem_cons.mpr ⟨ok_iadd (idL_27 (1131, .iadd, 1) (List.mem_of_getElem? (i := 32) rfl)), List.forall_mem_cons.mpr ⟨ok_scd (idL_27 (1132, .iaload, 1) (List.mem_of_getElem? (i := 33) rfl)), List.forall_mem_cons.mpr ⟨ok_cv (c := 7) (T := TX7) (N := 44) cw_X7_wayAt rfl (by decide) mlL_134 (idL_27 (1133, .invokevirtual 134, 3) (List.mem_of_getElem? (i := 34) rfl)), List.forall_mem_cons.mpr ⟨ok_pop (idL_27 (1136, .pop, 1) (List.mem_of_getElem? (i := 35) rfl)), List.forall_mem_cons.mpr ⟨ok_goto (t := 1885) (by decide) (idL_27 (1137, .goto 748, 3) (List.mem_of_getElem? (i := 36) rfl)), fun _ h => absurd h List.not_mem_nil⟩⟩⟩⟩⟩⟩⟩⟩⟩⟩⟩⟩⟩⟩⟩⟩⟩⟩⟩⟩⟩⟩⟩⟩⟩⟩⟩⟩⟩⟩⟩⟩⟩⟩⟩⟩⟩
noncomputable def ilL_28 : List (Nat × Instr × Nat) := [(1140, .aload_n 1, 1), (1141, .aload_n 0, 1), (1142, .iload 4, 2), (1144, .iconst 1, 1), (1145, .iadd, 1), (1146, .iaload, 1), (1147, .invokevirtual 135, 3), (1150, .pop, 1), (1151, .aload_n 2, 1), (1152, .aload_n 0, 1), (1153, .iload 4, 2), (1155, .iconst 1, 1), (1156, .iadd, 1), (1157, .iaload, 1), (1158, .invokevirtual 138, 3), (1161, .pop, 1), (1162, .goto 723, 3)]
theorem idL_28 : ∀ x ∈ ilL_28, decode cL_law x.1 = .ok x.2 := sq_ok (B := 1140) rfl (by decide +kernel : sqI cL_law 1140 (cL_law.data.toList.drop 1140) ilL_28 = true)
noncomputable def tbL_28 (l : Launch) (X : Nat × (Nat → Int32)) (d : Nat) (b : Nat × Nat) : List (Nat × OP) := [(1140, oAl 1140 1 1), (1141, oAl 1141 1 0), (1142, oIl 1142 2 4), (1144, oIc 1144 1 1), (1145, o2 1145 (fun x y => x + y)), (1146, oScd X 1146), (1147, oCv l X d 1147 uX6_dryDay 6 1), (1150, oPop 1150), (1151, oAl 1151 1 2), (1152, oAl 1152 1 0), (1153, oIl 1153 2 4), (1155, oIc 1155 1 1), (1156, o2 1156 (fun x y => x + y)), (1157, oScd X 1157), (1158, oCv l X d 1158 uX7_dryDay 7 1), (1161, oPop 1161), (1162, oGo 1885)]
set_option maxRecDepth 20000 in
theorem tkL_28 {l : Launch} {X : Nat × (Nat → Int32)} {d : Nat} {b : Nat × Nat} : ∀ x ∈ tbL_28 l X d b, OK l X uL (d + 1) false b x.1 x.2 :=
  List.forall_mem_cons.mpr ⟨ok_aload_n (i := 1) (k := 1) rfl (idL_28 (1140, .aload_n 1, 1) (List.mem_of_getElem? (i := 0) rfl)), List.forall_mem_cons.mpr ⟨ok_aload_n (i := 0) (k := 0) rfl (idL_28 (1141, .aload_n 0, 1) (List.mem_of_getElem? (i := 1) rfl)), List.forall_mem_cons.mpr ⟨ok_iload (i := 4) (idL_28 (1142, .iload 4, 2) (List.mem_of_getElem? (i := 2) rfl)), List.forall_mem_cons.mpr ⟨ok_iconst (n := 1) (v := 1) (by decide) (idL_28 (1144, .iconst 1, 1) (List.mem_of_getElem? (i := 3) rfl)), List.forall_mem_cons.mpr ⟨ok_iadd (idL_28 (1145, .iadd, 1) (List.mem_of_getElem? (i := 4) rfl)), List.forall_mem_cons.mpr ⟨ok_scd (idL_28 (1146, .iaload, 1) (List.mem_of_getElem? (i := 5) rfl)), List.forall_mem_cons.mpr ⟨ok_cv (c := 6) (T := TX6) (N := 14) cw_X6_dryDay rfl (by decide) mlL_135 (idL_28 (1147, .invokevirtual 135, 3) (List.mem_of_getElem? (i := 6) rfl)), List.forall_mem_cons.mpr ⟨ok_pop (idL_28 (1150, .pop, 1) (List.mem_of_getElem? (i := 7) rfl)), List.forall_mem_cons.mpr ⟨ok_aload_n (i := 2) (k := 2) rfl (idL_28 (1151, .aload_n 2, 1) (List.mem_of_getElem? (i := 8) rfl)), List.forall_mem_cons.mpr ⟨ok_aload_n (i := 0) (k := 0) rfl (idL_28 (1152, .aload_n 0, 1) (List.mem_of_getElem? (i := 9) rfl)), List.forall_mem_cons.mpr ⟨ok_iload (i := 4) (idL_28 (1153, .iload 4, 2) (List.mem_of_getElem? (i := 10) rfl)), List.forall_mem_cons.mpr ⟨ok_iconst (n := 1) (v := 1) (by decide) (idL_28 (1155, .iconst 1, 1) (List.mem_of_getElem? (i := 11) rfl)), List.forall_mem_cons.mpr ⟨ok_iadd (idL_28 (1156, .iadd, 1) (List.mem_of_getElem? (i := 12) rfl)), List.forall_mem_cons.mpr ⟨ok_scd (idL_28 (1157, .iaload, 1) (List.mem_of_getElem? (i := 13) rfl)), List.forall_mem_cons.mpr ⟨ok_cv (c := 7) (T := TX7) (N := 44) cw_X7_dryDay rfl (by decide) mlL_138 (idL_28 (1158, .invokevirtual 138, 3) (List.mem_of_getElem? (i := 14) rfl)), List.forall_mem_cons.mpr ⟨ok_pop (idL_28 (1161, .pop, 1) (List.mem_of_getElem? (i := 15) rfl)), List.forall_mem_cons.mpr ⟨ok_goto (t := 1885) (by decide) (idL_28 (1162, .goto 723, 3) (List.mem_of_getElem? (i := 16) rfl)), fun _ h => absurd h List.not_mem_nil⟩⟩⟩⟩⟩⟩⟩⟩⟩⟩⟩⟩⟩⟩⟩⟩⟩
noncomputable def ilL_29 : List (Nat × Instr × Nat) := [(1165, .aload_n 1, 1), (1166, .invokevirtual 139, 3), (1169, .pop, 1), (1170, .aload_n 2, 1), (1171, .invokevirtual 142, 3), (1174, .pop, 1), (1175, .goto 710, 3)]
theorem idL_29 : ∀ x ∈ ilL_29, decode cL_law x.1 = .ok x.2 := sq_ok (B := 1165) rfl (by decide +kernel : sqI cL_law 1165 (cL_law.data.toList.drop 1165) ilL_29 = true)
noncomputable def tbL_29 (l : Launch) (X : Nat × (Nat → Int32)) (d : Nat) (b : Nat × Nat) : List (Nat × OP) := [(1165, oAl 1165 1 1), (1166, oCv l X d 1166 uX6_gate 6 0), (1169, oPop 1169), (1170, oAl 1170 1 2), (1171, oCv l X d 1171 uX7_gate 7 0), (1174, oPop 1174), (1175, oGo 1885)]
set_option maxRecDepth 20000 in
theorem tkL_29 {l : Launch} {X : Nat × (Nat → Int32)} {d : Nat} {b : Nat × Nat} : ∀ x ∈ tbL_29 l X d b, OK l X uL (d + 1) false b x.1 x.2 :=
  List.forall_mem_cons.mpr ⟨ok_aload_n (i := 1) (k := 1) rfl (idL_29 (1165, .aload_n 1, 1) (List.mem_of_getElem? (i := 0) rfl)), List.forall_mem_cons.mpr ⟨ok_cv (c := 6) (T := TX6) (N := 14) cw_X6_gate rfl (by decide) mlL_139 (idL_29 (1166, .invokevirtual 139, 3) (List.mem_of_getElem? (i := 1) rfl)), List.forall_mem_cons.mpr ⟨ok_pop (idL_29 (1169, .pop, 1) (List.mem_of_getElem? (i := 2) rfl)), List.forall_mem_cons.mpr ⟨ok_aload_n (i := 2) (k := 2) rfl (idL_29 (1170, .aload_n 2, 1) (List.mem_of_getElem? (i := 3) rfl)), List.forall_mem_cons.mpr ⟨ok_cv (c := 7) (T := TX7) (N := 44) cw_X7_gate rfl (by decide) mlL_142 (idL_29 (1171, .invokevirtual 142, 3) (List.mem_of_getElem? (i := 4) rfl)), List.forall_mem_cons.mpr ⟨ok_pop (idL_29 (1174, .pop, 1) (List.mem_of_getElem? (i := 5) rfl)), List.forall_mem_cons.mpr ⟨ok_goto (t := 1885) (by decide) (idL_29 (1175, .goto 710, 3) (List.mem_of_getElem? (i := 6) rfl)), fun _ h => absurd h List.not_mem_nil⟩⟩⟩⟩⟩⟩⟩
noncomputable def ilL_30 : List (Nat × Instr × Nat) := [(1178, .aload_n 1, 1), (1179, .invokevirtual 143, 3), (1182, .pop, 1), (1183, .aload_n 2, 1), (1184, .invokevirtual 146, 3), (1187, .pop, 1), (1188, .goto 697, 3)]
theorem idL_30 : ∀ x ∈ ilL_30, decode cL_law x.1 = .ok x.2 := sq_ok (B := 1178) rfl (by decide +kernel : sqI cL_law 1178 (cL_law.data.toList.drop 1178) ilL_30 = true)
noncomputable def tbL_30 (l : Launch) (X : Nat × (Nat → Int32)) (d : Nat) (b : Nat × Nat) : List (Nat × OP) := [(1178, oAl 1178 1 1), (1179, oCv l X d 1179 uX6_fits 6 0), (1182, oPop 1182), (1183, oAl 1183 1 2), (1184, oCv l X d 1184 uX7_fits 7 0), (1187, oPop 1187), (1188, oGo 1885)]
set_option maxRecDepth 20000 in
theorem tkL_30 {l : Launch} {X : Nat × (Nat → Int32)} {d : Nat} {b : Nat × Nat} : ∀ x ∈ tbL_30 l X d b, OK l X uL (d + 1) false b x.1 x.2 :=
  List.forall_mem_cons.mpr ⟨ok_aload_n (i := 1) (k := 1) rfl (idL_30 (1178, .aload_n 1, 1) (List.mem_of_getElem? (i := 0) rfl)), List.forall_mem_cons.mpr ⟨ok_cv (c := 6) (T := TX6) (N := 14) cw_X6_fits rfl (by decide) mlL_143 (idL_30 (1179, .invokevirtual 143, 3) (List.mem_of_getElem? (i := 1) rfl)), List.forall_mem_cons.mpr ⟨ok_pop (idL_30 (1182, .pop, 1) (List.mem_of_getElem? (i := 2) rfl)), List.forall_mem_cons.mpr ⟨ok_aload_n (i := 2) (k := 2) rfl (idL_30 (1183, .aload_n 2, 1) (List.mem_of_getElem? (i := 3) rfl)), List.forall_mem_cons.mpr ⟨ok_cv (c := 7) (T := TX7) (N := 44) cw_X7_fits rfl (by decide) mlL_146 (idL_30 (1184, .invokevirtual 146, 3) (List.mem_of_getElem? (i := 4) rfl)), List.forall_mem_cons.mpr ⟨ok_pop (idL_30 (1187, .pop, 1) (List.mem_of_getElem? (i := 5) rfl)), List.forall_mem_cons.mpr ⟨ok_goto (t := 1885) (by decide) (idL_30 (1188, .goto 697, 3) (List.mem_of_getElem? (i := 6) rfl)), fun _ h => absurd h List.not_mem_nil⟩⟩⟩⟩⟩⟩⟩
noncomputable def ilL_31 : List (Nat × Instr × Nat) := [(1191, .aload_n 1, 1), (1192, .aload_n 0, 1), (1193, .iload 4, 2), (1195, .iconst 1, 1), (1196, .iadd, 1), (1197, .iaload, 1), (1198, .invokevirtual 147, 3), (1201, .pop, 1), (1202, .aload_n 2, 1), (1203, .aload_n 0, 1), (1204, .iload 4, 2), (1206, .iconst 1, 1), (1207, .iadd, 1), (1208, .iaload, 1), (1209, .invokevirtual 150, 3), (1212, .pop, 1), (1213, .goto 672, 3)]
theorem idL_31 : ∀ x ∈ ilL_31, decode cL_law x.1 = .ok x.2 := sq_ok (B := 1191) rfl (by decide +kernel : sqI cL_law 1191 (cL_law.data.toList.drop 1191) ilL_31 = true)
noncomputable def tbL_31 (l : Launch) (X : Nat × (Nat → Int32)) (d : Nat) (b : Nat × Nat) : List (Nat × OP) := [(1191, oAl 1191 1 1), (1192, oAl 1192 1 0), (1193, oIl 1193 2 4), (1195, oIc 1195 1 1), (1196, o2 1196 (fun x y => x + y)), (1197, oScd X 1197), (1198, oCv l X d 1198 uX6_fitAt 6 1), (1201, oPop 1201), (1202, oAl 1202 1 2), (1203, oAl 1203 1 0), (1204, oIl 1204 2 4), (1206, oIc 1206 1 1), (1207, o2 1207 (fun x y => x + y)), (1208, oScd X 1208), (1209, oCv l X d 1209 uX7_fitAt 7 1), (1212, oPop 1212), (1213, oGo 1885)]
set_option maxRecDepth 20000 in
theorem tkL_31 {l : Launch} {X : Nat × (Nat → Int32)} {d : Nat} {b : Nat × Nat} : ∀ x ∈ tbL_31 l X d b, OK l X uL (d + 1) false b x.1 x.2 :=
  List.forall_mem_cons.mpr ⟨ok_aload_n (i := 1) (k := 1) rfl (idL_31 (1191, .aload_n 1, 1) (List.mem_of_getElem? (i := 0) rfl)), List.forall_mem_cons.mpr ⟨ok_aload_n (i := 0) (k := 0) rfl (idL_31 (1192, .aload_n 0, 1) (List.mem_of_getElem? (i := 1) rfl)), List.forall_mem_cons.mpr ⟨ok_iload (i := 4) (idL_31 (1193, .iload 4, 2) (List.mem_of_getElem? (i := 2) rfl)), List.forall_mem_cons.mpr ⟨ok_iconst (n := 1) (v := 1) (by decide) (idL_31 (1195, .iconst 1, 1) (List.mem_of_getElem? (i := 3) rfl)), List.forall_mem_cons.mpr ⟨ok_iadd (idL_31 (1196, .iadd, 1) (List.mem_of_getElem? (i := 4) rfl)), List.forall_mem_cons.mpr ⟨ok_scd (idL_31 (1197, .iaload, 1) (List.mem_of_getElem? (i := 5) rfl)), List.forall_mem_cons.mpr ⟨ok_cv (c := 6) (T := TX6) (N := 14) cw_X6_fitAt rfl (by decide) mlL_147 (idL_31 (1198, .invokevirtual 147, 3) (List.mem_of_getElem? (i := 6) rfl)), List.forall_mem_cons.mpr ⟨ok_pop (idL_31 (1201, .pop, 1) (List.mem_of_getElem? (i := 7) rfl)), List.forall_mem_cons.mpr ⟨ok_aload_n (i := 2) (k := 2) rfl (idL_31 (1202, .aload_n 2, 1) (List.mem_of_getElem? (i := 8) rfl)), List.forall_mem_cons.mpr ⟨ok_aload_n (i := 0) (k := 0) rfl (idL_31 (1203, .aload_n 0, 1) (List.mem_of_getElem? (i := 9) rfl)), List.forall_mem_cons.mpr ⟨ok_iload (i := 4) (idL_31 (1204, .iload 4, 2) (List.mem_of_getElem? (i := 10) rfl)), List.forall_mem_cons.mpr ⟨ok_iconst (n := 1) (v := 1) (by decide) (idL_31 (1206, .iconst 1, 1) (List.mem_of_getElem? (i := 11) rfl)), List.forall_mem_cons.mpr ⟨ok_iadd (idL_31 (1207, .iadd, 1) (List.mem_of_getElem? (i := 12) rfl)), List.forall_mem_cons.mpr ⟨ok_scd (idL_31 (1208, .iaload, 1) (List.mem_of_getElem? (i := 13) rfl)), List.forall_mem_cons.mpr ⟨ok_cv (c := 7) (T := TX7) (N := 44) cw_X7_fitAt rfl (by decide) mlL_150 (idL_31 (1209, .invokevirtual 150, 3) (List.mem_of_getElem? (i := 14) rfl)), List.forall_mem_cons.mpr ⟨ok_pop (idL_31 (1212, .pop, 1) (List.mem_of_getElem? (i := 15) rfl)), List.forall_mem_cons.mpr ⟨ok_goto (t := 1885) (by decide) (idL_31 (1213, .goto 672, 3) (List.mem_of_getElem? (i := 16) rfl)), fun _ h => absurd h List.not_mem_nil⟩⟩⟩⟩⟩⟩⟩⟩⟩⟩⟩⟩⟩⟩⟩⟩⟩
noncomputable def ilL_32 : List (Nat × Instr × Nat) := [(1216, .aload_n 1, 1), (1217, .invokevirtual 151, 3), (1220, .pop, 1), (1221, .aload_n 2, 1), (1222, .invokevirtual 154, 3), (1225, .pop, 1), (1226, .goto 659, 3)]
theorem idL_32 : ∀ x ∈ ilL_32, decode cL_law x.1 = .ok x.2 := sq_ok (B := 1216) rfl (by decide +kernel : sqI cL_law 1216 (cL_law.data.toList.drop 1216) ilL_32 = true)
noncomputable def tbL_32 (l : Launch) (X : Nat × (Nat → Int32)) (d : Nat) (b : Nat × Nat) : List (Nat × OP) := [(1216, oAl 1216 1 1), (1217, oCv l X d 1217 uX6_could 6 0), (1220, oPop 1220), (1221, oAl 1221 1 2), (1222, oCv l X d 1222 uX7_could 7 0), (1225, oPop 1225), (1226, oGo 1885)]
set_option maxRecDepth 20000 in
theorem tkL_32 {l : Launch} {X : Nat × (Nat → Int32)} {d : Nat} {b : Nat × Nat} : ∀ x ∈ tbL_32 l X d b, OK l X uL (d + 1) false b x.1 x.2 :=
  List.forall_mem_cons.mpr ⟨ok_aload_n (i := 1) (k := 1) rfl (idL_32 (1216, .aload_n 1, 1) (List.mem_of_getElem? (i := 0) rfl)), List.forall_mem_cons.mpr ⟨ok_cv (c := 6) (T := TX6) (N := 14) cw_X6_could rfl (by decide) mlL_151 (idL_32 (1217, .invokevirtual 151, 3) (List.mem_of_getElem? (i := 1) rfl)), List.forall_mem_cons.mpr ⟨ok_pop (idL_32 (1220, .pop, 1) (List.mem_of_getElem? (i := 2) rfl)), List.forall_mem_cons.mpr ⟨ok_aload_n (i := 2) (k := 2) rfl (idL_32 (1221, .aload_n 2, 1) (List.mem_of_getElem? (i := 3) rfl)), List.forall_mem_cons.mpr ⟨ok_cv (c := 7) (T := TX7) (N := 44) cw_X7_could rfl (by decide) mlL_154 (idL_32 (1222, .invokevirtual 154, 3) (List.mem_of_getElem? (i := 4) rfl)), List.forall_mem_cons.mpr ⟨ok_pop (idL_32 (1225, .pop, 1) (List.mem_of_getElem? (i := 5) rfl)), List.forall_mem_cons.mpr ⟨ok_goto (t := 1885) (by decide) (idL_32 (1226, .goto 659, 3) (List.mem_of_getElem? (i := 6) rfl)), fun _ h => absurd h List.not_mem_nil⟩⟩⟩⟩⟩⟩⟩
noncomputable def ilL_33 : List (Nat × Instr × Nat) := [(1229, .aload_n 1, 1), (1230, .invokevirtual 155, 3), (1233, .pop, 1), (1234, .aload_n 2, 1), (1235, .invokevirtual 158, 3), (1238, .pop, 1), (1239, .goto 646, 3)]
theorem idL_33 : ∀ x ∈ ilL_33, decode cL_law x.1 = .ok x.2 := sq_ok (B := 1229) rfl (by decide +kernel : sqI cL_law 1229 (cL_law.data.toList.drop 1229) ilL_33 = true)
noncomputable def tbL_33 (l : Launch) (X : Nat × (Nat → Int32)) (d : Nat) (b : Nat × Nat) : List (Nat × OP) := [(1229, oAl 1229 1 1), (1230, oCv l X d 1230 uX6_surely 6 0), (1233, oPop 1233), (1234, oAl 1234 1 2), (1235, oCv l X d 1235 uX7_surely 7 0), (1238, oPop 1238), (1239, oGo 1885)]
set_option maxRecDepth 20000 in
theorem tkL_33 {l : Launch} {X : Nat × (Nat → Int32)} {d : Nat} {b : Nat × Nat} : ∀ x ∈ tbL_33 l X d b, OK l X uL (d + 1) false b x.1 x.2 :=
  List.forall_mem_cons.mpr ⟨ok_aload_n (i := 1) (k := 1) rfl (idL_33 (1229, .aload_n 1, 1) (List.mem_of_getElem? (i := 0) rfl)), List.forall_mem_cons.mpr ⟨ok_cv (c := 6) (T := TX6) (N := 14) cw_X6_surely rfl (by decide) mlL_155 (idL_33 (1230, .invokevirtual 155, 3) (List.mem_of_getElem? (i := 1) rfl)), List.forall_mem_cons.mpr ⟨ok_pop (idL_33 (1233, .pop, 1) (List.mem_of_getElem? (i := 2) rfl)), List.forall_mem_cons.mpr ⟨ok_aload_n (i := 2) (k := 2) rfl (idL_33 (1234, .aload_n 2, 1) (List.mem_of_getElem? (i := 3) rfl)), List.forall_mem_cons.mpr ⟨ok_cv (c := 7) (T := TX7) (N := 44) cw_X7_surely rfl (by decide) mlL_158 (idL_33 (1235, .invokevirtual 158, 3) (List.mem_of_getElem? (i := 4) rfl)), List.forall_mem_cons.mpr ⟨ok_pop (idL_33 (1238, .pop, 1) (List.mem_of_getElem? (i := 5) rfl)), List.forall_mem_cons.mpr ⟨ok_goto (t := 1885) (by decide) (idL_33 (1239, .goto 646, 3) (List.mem_of_getElem? (i := 6) rfl)), fun _ h => absurd h List.not_mem_nil⟩⟩⟩⟩⟩⟩⟩
noncomputable def ilL_34 : List (Nat × Instr × Nat) := [(1242, .aload_n 1, 1), (1243, .invokevirtual 159, 3), (1246, .pop, 1), (1247, .aload_n 2, 1), (1248, .invokevirtual 162, 3), (1251, .pop, 1), (1252, .goto 633, 3)]
theorem idL_34 : ∀ x ∈ ilL_34, decode cL_law x.1 = .ok x.2 := sq_ok (B := 1242) rfl (by decide +kernel : sqI cL_law 1242 (cL_law.data.toList.drop 1242) ilL_34 = true)
noncomputable def tbL_34 (l : Launch) (X : Nat × (Nat → Int32)) (d : Nat) (b : Nat × Nat) : List (Nat × OP) := [(1242, oAl 1242 1 1), (1243, oCv l X d 1243 uX6_ask 6 0), (1246, oPop 1246), (1247, oAl 1247 1 2), (1248, oCv l X d 1248 uX7_ask 7 0), (1251, oPop 1251), (1252, oGo 1885)]
set_option maxRecDepth 20000 in
theorem tkL_34 {l : Launch} {X : Nat × (Nat → Int32)} {d : Nat} {b : Nat × Nat} : ∀ x ∈ tbL_34 l X d b, OK l X uL (d + 1) false b x.1 x.2 :=
  List.forall_mem_cons.mpr ⟨ok_aload_n (i := 1) (k := 1) rfl (idL_34 (1242, .aload_n 1, 1) (List.mem_of_getElem? (i := 0) rfl)), List.forall_mem_cons.mpr ⟨ok_cv (c := 6) (T := TX6) (N := 14) cw_X6_ask rfl (by decide) mlL_159 (idL_34 (1243, .invokevirtual 159, 3) (List.mem_of_getElem? (i := 1) rfl)), List.forall_mem_cons.mpr ⟨ok_pop (idL_34 (1246, .pop, 1) (List.mem_of_getElem? (i := 2) rfl)), List.forall_mem_cons.mpr ⟨ok_aload_n (i := 2) (k := 2) rfl (idL_34 (1247, .aload_n 2, 1) (List.mem_of_getElem? (i := 3) rfl)), List.forall_mem_cons.mpr ⟨ok_cv (c := 7) (T := TX7) (N := 44) cw_X7_ask rfl (by decide) mlL_162 (idL_34 (1248, .invokevirtual 162, 3) (List.mem_of_getElem? (i := 4) rfl)), List.forall_mem_cons.mpr ⟨ok_pop (idL_34 (1251, .pop, 1) (List.mem_of_getElem? (i := 5) rfl)), List.forall_mem_cons.mpr ⟨ok_goto (t := 1885) (by decide) (idL_34 (1252, .goto 633, 3) (List.mem_of_getElem? (i := 6) rfl)), fun _ h => absurd h List.not_mem_nil⟩⟩⟩⟩⟩⟩⟩
noncomputable def ilL_35 : List (Nat × Instr × Nat) := [(1255, .aload_n 1, 1), (1256, .invokevirtual 163, 3), (1259, .pop, 1), (1260, .aload_n 2, 1), (1261, .invokevirtual 166, 3), (1264, .pop, 1), (1265, .goto 620, 3)]
theorem idL_35 : ∀ x ∈ ilL_35, decode cL_law x.1 = .ok x.2 := sq_ok (B := 1255) rfl (by decide +kernel : sqI cL_law 1255 (cL_law.data.toList.drop 1255) ilL_35 = true)
noncomputable def tbL_35 (l : Launch) (X : Nat × (Nat → Int32)) (d : Nat) (b : Nat × Nat) : List (Nat × OP) := [(1255, oAl 1255 1 1), (1256, oCv l X d 1256 uX6_askLeaves 6 0), (1259, oPop 1259), (1260, oAl 1260 1 2), (1261, oCv l X d 1261 uX7_askLeaves 7 0), (1264, oPop 1264), (1265, oGo 1885)]
set_option maxRecDepth 20000 in
theorem tkL_35 {l : Launch} {X : Nat × (Nat → Int32)} {d : Nat} {b : Nat × Nat} : ∀ x ∈ tbL_35 l X d b, OK l X uL (d + 1) false b x.1 x.2 :=
  List.forall_mem_cons.mpr ⟨ok_aload_n (i := 1) (k := 1) rfl (idL_35 (1255, .aload_n 1, 1) (List.mem_of_getElem? (i := 0) rfl)), List.forall_mem_cons.mpr ⟨ok_cv (c := 6) (T := TX6) (N := 14) cw_X6_askLeaves rfl (by decide) mlL_163 (idL_35 (1256, .invokevirtual 163, 3) (List.mem_of_getElem? (i := 1) rfl)), List.forall_mem_cons.mpr ⟨ok_pop (idL_35 (1259, .pop, 1) (List.mem_of_getElem? (i := 2) rfl)), List.forall_mem_cons.mpr ⟨ok_aload_n (i := 2) (k := 2) rfl (idL_35 (1260, .aload_n 2, 1) (List.mem_of_getElem? (i := 3) rfl)), List.forall_mem_cons.mpr ⟨ok_cv (c := 7) (T := TX7) (N := 44) cw_X7_askLeaves rfl (by decide) mlL_166 (idL_35 (1261, .invokevirtual 166, 3) (List.mem_of_getElem? (i := 4) rfl)), List.forall_mem_cons.mpr ⟨ok_pop (idL_35 (1264, .pop, 1) (List.mem_of_getElem? (i := 5) rfl)), List.forall_mem_cons.mpr ⟨ok_goto (t := 1885) (by decide) (idL_35 (1265, .goto 620, 3) (List.mem_of_getElem? (i := 6) rfl)), fun _ h => absurd h List.not_mem_nil⟩⟩⟩⟩⟩⟩⟩
noncomputable def ilL_36 : List (Nat × Instr × Nat) := [(1268, .aload_n 1, 1), (1269, .invokevirtual 167, 3), (1272, .aload_n 2, 1), (1273, .invokevirtual 170, 3), (1276, .if_icmp .eq 609, 3), (1279, .iconst 0, 1), (1280, .ireturn, 1)]
theorem idL_36 : ∀ x ∈ ilL_36, decode cL_law x.1 = .ok x.2 := sq_ok (B := 1268) rfl (by decide +kernel : sqI cL_law 1268 (cL_law.data.toList.drop 1268) ilL_36 = true)
noncomputable def tbL_36 (l : Launch) (X : Nat × (Nat → Int32)) (d : Nat) (b : Nat × Nat) : List (Nat × OP) := [(1268, oAl 1268 1 1), (1269, oCv l X d 1269 uX6_judge 6 0), (1272, oAl 1272 1 2), (1273, oCv l X d 1273 uX7_judge 7 0), (1276, oCm 1276 1885 (fun x y => x = y) (fun x y => ¬ x = y)), (1279, oIc 1279 1 0), (1280, oZr)]
set_option maxRecDepth 20000 in
theorem tkL_36 {l : Launch} {X : Nat × (Nat → Int32)} {d : Nat} {b : Nat × Nat} : ∀ x ∈ tbL_36 l X d b, OK l X uL (d + 1) false b x.1 x.2 :=
  List.forall_mem_cons.mpr ⟨ok_aload_n (i := 1) (k := 1) rfl (idL_36 (1268, .aload_n 1, 1) (List.mem_of_getElem? (i := 0) rfl)), List.forall_mem_cons.mpr ⟨ok_cv (c := 6) (T := TX6) (N := 14) cw_X6_judge rfl (by decide) mlL_167 (idL_36 (1269, .invokevirtual 167, 3) (List.mem_of_getElem? (i := 1) rfl)), List.forall_mem_cons.mpr ⟨ok_aload_n (i := 2) (k := 2) rfl (idL_36 (1272, .aload_n 2, 1) (List.mem_of_getElem? (i := 2) rfl)), List.forall_mem_cons.mpr ⟨ok_cv (c := 7) (T := TX7) (N := 44) cw_X7_judge rfl (by decide) mlL_170 (idL_36 (1273, .invokevirtual 170, 3) (List.mem_of_getElem? (i := 3) rfl)), List.forall_mem_cons.mpr ⟨ok_icmpeq (t := 1885) (by decide) (idL_36 (1276, .if_icmp .eq 609, 3) (List.mem_of_getElem? (i := 4) rfl)), List.forall_mem_cons.mpr ⟨ok_iconst (n := 0) (v := 0) (by decide) (idL_36 (1279, .iconst 0, 1) (List.mem_of_getElem? (i := 5) rfl)), List.forall_mem_cons.mpr ⟨ok_zr rfl (idL_36 (1280, .ireturn, 1) (List.mem_of_getElem? (i := 6) rfl)), fun _ h => absurd h List.not_mem_nil⟩⟩⟩⟩⟩⟩⟩
noncomputable def ilL_37 : List (Nat × Instr × Nat) := [(1281, .aload_n 1, 1), (1282, .aload_n 0, 1), (1283, .iload 4, 2), (1285, .iconst 1, 1), (1286, .iadd, 1), (1287, .iaload, 1), (1288, .aload_n 0, 1), (1289, .iload 4, 2), (1291, .iconst 2, 1), (1292, .iadd, 1), (1293, .iaload, 1), (1294, .ifCond .eq 7, 3), (1297, .iconst 1, 1), (1298, .goto 4, 3), (1301, .iconst 0, 1), (1302, .aload_n 0, 1), (1303, .iload 4, 2), (1305, .iconst 3, 1), (1306, .iadd, 1), (1307, .iaload, 1), (1308, .ifCond .eq 7, 3), (1311, .iconst 1, 1), (1312, .goto 4, 3), (1315, .iconst 0, 1), (1316, .aload_n 0, 1), (1317, .iload 4, 2), (1319, .iconst 4, 1), (1320, .iadd, 1), (1321, .iaload, 1), (1322, .ifCond .eq 7, 3), (1325, .iconst 1, 1), (1326, .goto 4, 3), (1329, .iconst 0, 1), (1330, .invokevirtual 171, 3), (1333, .pop, 1), (1334, .aload_n 2, 1), (1335, .aload_n 0, 1), (1336, .iload 4, 2), (1338, .iconst 1, 1), (1339, .iadd, 1), (1340, .iaload, 1), (1341, .aload_n 0, 1), (1342, .iload 4, 2), (1344, .iconst 2, 1), (1345, .iadd, 1), (1346, .iaload, 1), (1347, .ifCond .eq 7, 3), (1350, .iconst 1, 1), (1351, .goto 4, 3), (1354, .iconst 0, 1), (1355, .aload_n 0, 1), (1356, .iload 4, 2), (1358, .iconst 3, 1), (1359, .iadd, 1), (1360, .iaload, 1), (1361, .ifCond .eq 7, 3), (1364, .iconst 1, 1), (1365, .goto 4, 3), (1368, .iconst 0, 1), (1369, .aload_n 0, 1), (1370, .iload 4, 2), (1372, .iconst 4, 1), (1373, .iadd, 1), (1374, .iaload, 1), (1375, .ifCond .eq 7, 3), (1378, .iconst 1, 1), (1379, .goto 4, 3), (1382, .iconst 0, 1), (1383, .invokevirtual 175, 3), (1386, .pop, 1), (1387, .goto 498, 3)]
theorem idL_37 : ∀ x ∈ ilL_37, decode cL_law x.1 = .ok x.2 := sq_ok (B := 1281) rfl (by decide +kernel : sqI cL_law 1281 (cL_law.data.toList.drop 1281) ilL_37 = true)
noncomputable def tbL_37 (l : Launch) (X : Nat × (Nat → Int32)) (d : Nat) (b : Nat × Nat) : List (Nat × OP) := [(1281, oAl 1281 1 1), (1282, oAl 1282 1 0), (1283, oIl 1283 2 4), (1285, oIc 1285 1 1), (1286, o2 1286 (fun x y => x + y)), (1287, oScd X 1287), (1288, oAl 1288 1 0), (1289, oIl 1289 2 4), (1291, oIc 1291 1 2), (1292, o2 1292 (fun x y => x + y)), (1293, oScd X 1293), (1294, oIf 1294 1301 (fun x => x = 0) (fun x => ¬ x = 0)), (1297, oIc 1297 1 1), (1298, oGo 1302), (1301, oIc 1301 1 0), (1302, oAl 1302 1 0), (1303, oIl 1303 2 4), (1305, oIc 1305 1 3), (1306, o2 1306 (fun x y => x + y)), (1307, oScd X 1307), (1308, oIf 1308 1315 (fun x => x = 0) (fun x => ¬ x = 0)), (1311, oIc 1311 1 1), (1312, oGo 1316), (1315, oIc 1315 1 0), (1316, oAl 1316 1 0), (1317, oIl 1317 2 4), (1319, oIc 1319 1 4), (1320, o2 1320 (fun x y => x + y)), (1321, oScd X 1321), (1322, oIf 1322 1329 (fun x => x = 0) (fun x => ¬ x = 0)), (1325, oIc 1325 1 1), (1326, oGo 1330), (1329, oIc 1329 1 0), (1330, oCv l X d 1330 uX6_sulks 6 4), (1333, oPop 1333), (1334, oAl 1334 1 2), (1335, oAl 1335 1 0), (1336, oIl 1336 2 4), (1338, oIc 1338 1 1), (1339, o2 1339 (fun x y => x + y)), (1340, oScd X 1340), (1341, oAl 1341 1 0), (1342, oIl 1342 2 4), (1344, oIc 1344 1 2), (1345, o2 1345 (fun x y => x + y)), (1346, oScd X 1346), (1347, oIf 1347 1354 (fun x => x = 0) (fun x => ¬ x = 0)), (1350, oIc 1350 1 1), (1351, oGo 1355), (1354, oIc 1354 1 0), (1355, oAl 1355 1 0), (1356, oIl 1356 2 4), (1358, oIc 1358 1 3), (1359, o2 1359 (fun x y => x + y)), (1360, oScd X 1360), (1361, oIf 1361 1368 (fun x => x = 0) (fun x => ¬ x = 0)), (1364, oIc 1364 1 1), (1365, oGo 1369), (1368, oIc 1368 1 0), (1369, oAl 1369 1 0), (1370, oIl 1370 2 4), (1372, oIc 1372 1 4), (1373, o2 1373 (fun x y => x + y)), (1374, oScd X 1374), (1375, oIf 1375 1382 (fun x => x = 0) (fun x => ¬ x = 0)), (1378, oIc 1378 1 1), (1379, oGo 1383), (1382, oIc 1382 1 0), (1383, oCv l X d 1383 uX7_sulks 7 4), (1386, oPop 1386), (1387, oGo 1885)]
set_option maxRecDepth 20000 in
theorem tkL_37 {l : Launch} {X : Nat × (Nat → Int32)} {d : Nat} {b : Nat × Nat} : ∀ x ∈ tbL_37 l X d b, OK l X uL (d + 1) false b x.1 x.2 :=
  List.forall_mem_cons.mpr ⟨ok_aload_n (i := 1) (k := 1) rfl (idL_37 (1281, .aload_n 1, 1) (List.mem_of_getElem? (i := 0) rfl)), List.forall_mem_cons.mpr ⟨ok_aload_n (i := 0) (k := 0) rfl (idL_37 (1282, .aload_n 0, 1) (List.mem_of_getElem? (i := 1) rfl)), List.forall_mem_cons.mpr ⟨ok_iload (i := 4) (idL_37 (1283, .iload 4, 2) (List.mem_of_getElem? (i := 2) rfl)), List.forall_mem_cons.mpr ⟨ok_iconst (n := 1) (v := 1) (by decide) (idL_37 (1285, .iconst 1, 1) (List.mem_of_getElem? (i := 3) rfl)), List.forall_mem_cons.mpr ⟨ok_iadd (idL_37 (1286, .iadd, 1) (List.mem_of_getElem? (i := 4) rfl)), List.forall_mem_cons.mpr ⟨ok_scd (idL_37 (1287, .iaload, 1) (List.mem_of_getElem? (i := 5) rfl)), List.forall_mem_cons.mpr ⟨ok_aload_n (i := 0) (k := 0) rfl (idL_37 (1288, .aload_n 0, 1) (List.mem_of_getElem? (i := 6) rfl)), List.forall_mem_cons.mpr ⟨ok_iload (i := 4) (idL_37 (1289, .iload 4, 2) (List.mem_of_getElem? (i := 7) rfl)), List.forall_mem_cons.mpr ⟨ok_iconst (n := 2) (v := 2) (by decide) (idL_37 (1291, .iconst 2, 1) (List.mem_of_getElem? (i := 8) rfl)), List.forall_mem_cons.mpr ⟨ok_iadd (idL_37 (1292, .iadd, 1) (List.mem_of_getElem? (i := 9) rfl)), List.forall_mem_cons.mpr ⟨ok_scd (idL_37 (1293, .iaload, 1) (List.mem_of_getElem? (i := 10) rfl)), List.forall_mem_cons.mpr ⟨ok_ifeq (t := 1301) (by decide) (idL_37 (1294, .ifCond .eq 7, 3) (List.mem_of_getElem? (i := 11) rfl)), List.forall_mem_cons.mpr ⟨ok_iconst (n := 1) (v := 1) (by decide) (idL_37 (1297, .iconst 1, 1) (List.mem_of_getElem? (i := 12) rfl)), List.forall_mem_cons.mpr ⟨ok_goto (t := 1302) (by decide) (idL_37 (1298, .goto 4, 3) (List.mem_of_getElem? (i := 13) rfl)), List.forall_mem_cons.mpr ⟨ok_iconst (n := 0) (v := 0) (by decide) (idL_37 (1301, .iconst 0, 1) (List.mem_of_getElem? (i := 14) rfl)), List.forall_mem_cons.mpr ⟨ok_aload_n (i := 0) (k := 0) rfl (idL_37 (1302, .aload_n 0, 1) (List.mem_of_getElem? (i := 15) rfl)), List.forall_mem_cons.mpr ⟨ok_iload (i := 4) (idL_37 (1303, .iload 4, 2) (List.mem_of_getElem? (i := 16) rfl)), List.forall_mem_cons.mpr ⟨ok_iconst (n := 3) (v := 3) (by decide) (idL_37 (1305, .iconst 3, 1) (List.mem_of_getElem? (i := 17) rfl)), List.forall_mem_cons.mpr ⟨ok_iadd (idL_37 (1306, .iadd, 1) (List.mem_of_getElem? (i := 18) rfl)), List.forall_mem_cons.mpr ⟨ok_scd (idL_37 (1307, .iaload, 1) (List.mem_of_getElem? (i := 19) rfl)), List.forall_mem_cons.mpr ⟨ok_ifeq (t := 1315) (by decide) (idL_37 (1308, .ifCond .eq 7, 3) (List.mem_of_getElem? (i := 20) rfl)), List.forall_mem_cons.mpr ⟨ok_iconst (n := 1) (v := 1) (by decide) (idL_37 (1311, .iconst 1, 1) (List.mem_of_getElem? (i := 21) rfl)), List.forall_mem_cons.mpr ⟨ok_goto (t := 1316) (by decide) (idL_37 (1312, .goto 4, 3) (List.mem_of_getElem? (i := 22) rfl)), List.forall_mem_cons.mpr ⟨ok_iconst (n := 0) (v := 0) (by decide) (idL_37 (1315, .iconst 0, 1) (List.mem_of_getElem? (i := 23) rfl)), List.forall_mem_cons.mpr ⟨ok_aload_n (i := 0) (k := 0) rfl (idL_37 (1316, .aload_n 0, 1) (List.mem_of_getElem? (i := 24) rfl)), List.forall_mem_cons.mpr ⟨ok_iload (i := 4) (idL_37 (1317, .iload 4, 2) (List.mem_of_getElem? (i := 25) rfl)), List.forall_mem_cons.mpr ⟨ok_iconst (n := 4) (v := 4) (by decide) (idL_37 (1319, .iconst 4, 1) (List.mem_of_getElem? (i := 26) rfl)), List.forall_mem_cons.mpr ⟨ok_iadd (idL_37 (1320, .iadd, 1) (List.mem_of_getElem? (i := 27) rfl)), List.forall_mem_cons.mpr ⟨ok_scd (idL_37 (1321, .iaload, 1) (List.mem_of_getElem? (i := 28) rfl)), List.forall_mem_cons.mpr ⟨ok_ifeq (t := 1329) (by decide) (idL_37 (1322, .ifCond .eq 7, 3) (List.mem_of_getElem? (i := 29) rfl)), List.forall_mem_cons.mpr ⟨ok_iconst (n := 1) (v := 1) (by decide) (idL_37 (1325, .iconst 1, 1) (List.mem_of_getElem? (i := 30) rfl)), List.forall_mem_cons.mpr ⟨ok_goto (t := 1330) (by decide) (idL_37 (1326, .goto 4, 3) (List.mem_of_getElem? (i := 31) rfl)), List.forall_mem_cons.mpr ⟨ok_iconst (n := 0) (v := 0) (by decide) (idL_37 (1329, .iconst 0, 1) (List.mem_of_getElem? (i := 32) rfl)), List.forall_mem_cons.mpr ⟨ok_cv (c := 6) (T := TX6) (N := 14) cw_X6_sulks rfl (by decide) mlL_171 (idL_37 (1330, .invokevirtual 171, 3) (List.mem_of_getElem? (i := 33) rfl)), List.forall_mem_cons.mpr ⟨ok_pop (idL_37 (1333, .pop, 1) (List.mem_of_getElem? (i := 34) rfl)), List.forall_mem_cons.mpr ⟨ok_aload_n (i := 2) (k := 2) rfl (idL_37 (1334, .aload_n 2, 1) (List.mem_of_getElem? (i := 35) rfl)), List.forall_mem_cons.mpr ⟨ok_aload_n (i := 0) (k := 0) rfl (idL_37 (1335, .aload_n 0, 1) (List.mem_of_getElem? (i := 36) rfl)), List.forall_mem_cons.mpr ⟨ok_iload (i := 4) (idL_37 (1336, .iload 4, 2) (List.mem_of_getElem? (i := 37) rfl)), List.forall_mem_cons.mpr ⟨ok_iconst (n := 1) (v := 1) (by decide) (idL_37 (1338, .iconst 1, 1) (List.mem_of_getElem? (i := 38) rfl)), List.forall_mem_cons.mpr ⟨ok_iadd (idL_37 (1339, .iadd, 1) (List.mem_of_getElem? (i := 39) rfl)), List.forall_mem_cons.mpr ⟨ok_scd (idL_37 (1340, .iaload, 1) (List.mem_of_getElem? (i := 40) rfl)), List.forall_mem_cons.mpr ⟨ok_aload_n (i := 0) (k := 0) rfl (idL_37 (1341, .aload_n 0, 1) (List.mem_of_getElem? (i := 41) rfl)), List.forall_mem_cons.mpr ⟨ok_iload (i := 4) (idL_37 (1342, .iload 4, 2) (List.mem_of_getElem? (i := 42) rfl)), List.forall_mem_cons.mpr ⟨ok_iconst (n := 2) (v := 2) (by decide) (idL_37 (1344, .iconst 2, 1) (List.mem_of_getElem? (i := 43) rfl)), List.forall_mem_cons.mpr ⟨ok_iadd (idL_37 (1345, .iadd, 1) (List.mem_of_getElem? (i := 44) rfl)), List.forall_mem_cons.mpr ⟨ok_scd (idL_37 (1346, .iaload, 1) (List.mem_of_getElem? (i := 45) rfl)), List.forall_mem_cons.mpr ⟨ok_ifeq (t := 1354) (by decide) (idL_37 (1347, .ifCond .eq 7, 3) (List.mem_of_getElem? (i := 46) rfl)), List.forall_mem_cons.mpr ⟨ok_iconst (n := 1) (v := 1) (by decide) (idL_37 (1350, .iconst 1, 1) (List.mem_of_getElem? (i := 47) rfl)), List.forall_mem_cons.mpr ⟨ok_goto (t := 1355) (by decide) (idL_37 (1351, .goto 4, 3) (List.mem_of_getElem? (i := 48) rfl)), List.forall_mem_cons.mpr ⟨ok_iconst (n := 0) (v := 0) (by decide) (idL_37 (1354, .iconst 0, 1) (List.mem_of_getElem? (i := 49) rfl)), List.forall_mem_cons.mpr ⟨ok_aload_n (i := 0) (k := 0) rfl (idL_37 (1355, .aload_n 0, 1) (List.mem_of_getElem? (i := 50) rfl)), List.forall_mem_cons.mpr ⟨ok_iload (i := 4) (idL_37 (1356, .iload 4, 2) (List.mem_of_getElem? (i := 51) rfl)), List.forall_mem_cons.mpr ⟨ok_iconst (n := 3) (v := 3) (by decide) (idL_37 (1358, .iconst 3, 1) (List.mem_of_getElem? (i := 52) rfl)), List.forall_mem_cons.mpr ⟨ok_iadd (idL_37 (1359, .iadd, 1) (List.mem_of_getElem? (i := 53) rfl)), List.forall_mem_cons.mpr ⟨ok_scd (idL_37 (1360, .iaload, 1) (List.mem_of_getElem? (i := 54) rfl)), List.forall_mem_cons.mpr ⟨ok_ifeq (t := 1368) (by decide) (idL_37 (1361, .ifCond .eq 7, 3) (List.mem_of_getElem? (i := 55) rfl)), List.forall_mem_cons.mpr ⟨ok_iconst (n := 1) (v := 1) (by decide) (idL_37 (1364, .iconst 1, 1) (List.mem_of_getElem? (i := 56) rfl)), List.forall_mem_cons.mpr ⟨ok_goto (t := 1369) (by decide) (idL_37 (1365, .goto 4, 3) (List.mem_of_getElem? (i := 57) rfl)), List.forall_mem_cons.mpr ⟨ok_iconst (n := 0) (v := 0) (by decide) (idL_37 (1368, .iconst 0, 1) (List.mem_of_getElem? (i := 58) rfl)), List.forall_mem_cons.mpr ⟨ok_aload_n (i := 0) (k := 0) rfl (idL_37 (1369, .aload_n 0, 1) (List.mem_of_getElem? (i := 59) rfl)), List.forall_mem_cons.mpr ⟨ok_iload (i := 4) (idL_37 (1370, .iload 4, 2) (List.mem_of_getElem? (i := 60) rfl)), List.forall_mem_cons.mpr ⟨ok_iconst (n := 4) (v := 4) (by decide) (idL_37 (1372, .iconst 4, 1) (List.mem_of_getElem? (i := 61) rfl)), List.forall_mem_cons.mpr ⟨ok_iadd (idL_37 (1373, .iadd, 1) (List.mem_of_getElem? (i := 62) rfl)), List.forall_mem_cons.mpr ⟨ok_scd (idL_37 (1374, .iaload, 1) (List.mem_of_getElem? (i := 63) rfl)), List.forall_mem_cons.mpr ⟨ok_ifeq (t := 1382) (by decide) (idL_37 (1375, .ifCond .eq 7, 3) (List.mem_of_getElem? (i := 64) rfl)), List.forall_mem_cons.mpr ⟨ok_iconst (n := 1) (v := 1) (by decide) (idL_37 (1378, .iconst 1, 1) (List.mem_of_getElem? (i := 65) rfl)), List.forall_mem_cons.mpr ⟨ok_goto (t := 1383) (by decide) (idL_37 (1379, .goto 4, 3) (List.mem_of_getElem? (i := 66) rfl)), List.forall_mem_cons.mpr ⟨ok_iconst (n := 0) (v := 0) (by decide) (idL_37 (1382, .iconst 0, 1) (List.mem_of_getElem? (i := 67) rfl)), List.forall_mem_cons.mpr ⟨ok_cv (c := 7) (T := TX7) (N := 44) cw_X7_sulks rfl (by decide) mlL_175 (idL_37 (1383, .invokevirtual 175, 3) (List.mem_of_getElem? (i := 68) rfl)), List.forall_mem_cons.mpr ⟨ok_pop (idL_37 (1386, .pop, 1) (List.mem_of_getElem? (i := 69) rfl)), List.forall_mem_cons.mpr ⟨ok_goto (t := 1885) (by decide) (idL_37 (1387, .goto 498, 3) (List.mem_of_getElem? (i := 70) rfl)), fun _ h => absurd h List.not_mem_nil⟩⟩⟩⟩⟩⟩⟩⟩⟩⟩⟩⟩⟩⟩⟩⟩⟩⟩⟩⟩⟩⟩⟩⟩⟩⟩⟩⟩⟩⟩⟩⟩⟩⟩⟩⟩⟩⟩⟩⟩⟩⟩⟩⟩⟩⟩⟩⟩⟩⟩⟩⟩⟩⟩⟩⟩⟩⟩⟩⟩⟩⟩⟩⟩⟩⟩⟩⟩⟩⟩⟩
noncomputable def ilL_38 : List (Nat × Instr × Nat) := [(1390, .aload_n 1, 1), (1391, .aload_n 0, 1), (1392, .iload 4, 2), (1394, .iconst 1, 1), (1395, .iadd, 1), (1396, .iaload, 1), (1397, .invokevirtual 176, 3), (1400, .pop, 1), (1401, .aload_n 2, 1), (1402, .aload_n 0, 1), (1403, .iload 4, 2), (1405, .iconst 1, 1), (1406, .iadd, 1), (1407, .iaload, 1), (1408, .invokevirtual 179, 3), (1411, .pop, 1), (1412, .goto 473, 3)]
theorem idL_38 : ∀ x ∈ ilL_38, decode cL_law x.1 = .ok x.2 := sq_ok (B := 1390) rfl (by decide +kernel : sqI cL_law 1390 (cL_law.data.toList.drop 1390) ilL_38 = true)
noncomputable def tbL_38 (l : Launch) (X : Nat × (Nat → Int32)) (d : Nat) (b : Nat × Nat) : List (Nat × OP) := [(1390, oAl 1390 1 1), (1391, oAl 1391 1 0), (1392, oIl 1392 2 4), (1394, oIc 1394 1 1), (1395, o2 1395 (fun x y => x + y)), (1396, oScd X 1396), (1397, oCv l X d 1397 uX6_rests 6 1), (1400, oPop 1400), (1401, oAl 1401 1 2), (1402, oAl 1402 1 0), (1403, oIl 1403 2 4), (1405, oIc 1405 1 1), (1406, o2 1406 (fun x y => x + y)), (1407, oScd X 1407), (1408, oCv l X d 1408 uX7_rests 7 1), (1411, oPop 1411), (1412, oGo 1885)]
set_option maxRecDepth 20000 in
theorem tkL_38 {l : Launch} {X : Nat × (Nat → Int32)} {d : Nat} {b : Nat × Nat} : ∀ x ∈ tbL_38 l X d b, OK l X uL (d + 1) false b x.1 x.2 :=
  List.forall_mem_cons.mpr ⟨ok_aload_n (i := 1) (k := 1) rfl (idL_38 (1390, .aload_n 1, 1) (List.mem_of_getElem? (i := 0) rfl)), List.forall_mem_cons.mpr ⟨ok_aload_n (i := 0) (k := 0) rfl (idL_38 (1391, .aload_n 0, 1) (List.mem_of_getElem? (i := 1) rfl)), List.forall_mem_cons.mpr ⟨ok_iload (i := 4) (idL_38 (1392, .iload 4, 2) (List.mem_of_getElem? (i := 2) rfl)), List.forall_mem_cons.mpr ⟨ok_iconst (n := 1) (v := 1) (by decide) (idL_38 (1394, .iconst 1, 1) (List.mem_of_getElem? (i := 3) rfl)), List.forall_mem_cons.mpr ⟨ok_iadd (idL_38 (1395, .iadd, 1) (List.mem_of_getElem? (i := 4) rfl)), List.forall_mem_cons.mpr ⟨ok_scd (idL_38 (1396, .iaload, 1) (List.mem_of_getElem? (i := 5) rfl)), List.forall_mem_cons.mpr ⟨ok_cv (c := 6) (T := TX6) (N := 14) cw_X6_rests rfl (by decide) mlL_176 (idL_38 (1397, .invokevirtual 176, 3) (List.mem_of_getElem? (i := 6) rfl)), List.forall_mem_cons.mpr ⟨ok_pop (idL_38 (1400, .pop, 1) (List.mem_of_getElem? (i := 7) rfl)), List.forall_mem_cons.mpr ⟨ok_aload_n (i := 2) (k := 2) rfl (idL_38 (1401, .aload_n 2, 1) (List.mem_of_getElem? (i := 8) rfl)), List.forall_mem_cons.mpr ⟨ok_aload_n (i := 0) (k := 0) rfl (idL_38 (1402, .aload_n 0, 1) (List.mem_of_getElem? (i := 9) rfl)), List.forall_mem_cons.mpr ⟨ok_iload (i := 4) (idL_38 (1403, .iload 4, 2) (List.mem_of_getElem? (i := 10) rfl)), List.forall_mem_cons.mpr ⟨ok_iconst (n := 1) (v := 1) (by decide) (idL_38 (1405, .iconst 1, 1) (List.mem_of_getElem? (i := 11) rfl)), List.forall_mem_cons.mpr ⟨ok_iadd (idL_38 (1406, .iadd, 1) (List.mem_of_getElem? (i := 12) rfl)), List.forall_mem_cons.mpr ⟨ok_scd (idL_38 (1407, .iaload, 1) (List.mem_of_getElem? (i := 13) rfl)), List.forall_mem_cons.mpr ⟨ok_cv (c := 7) (T := TX7) (N := 44) cw_X7_rests rfl (by decide) mlL_179 (idL_38 (1408, .invokevirtual 179, 3) (List.mem_of_getElem? (i := 14) rfl)), List.forall_mem_cons.mpr ⟨ok_pop (idL_38 (1411, .pop, 1) (List.mem_of_getElem? (i := 15) rfl)), List.forall_mem_cons.mpr ⟨ok_goto (t := 1885) (by decide) (idL_38 (1412, .goto 473, 3) (List.mem_of_getElem? (i := 16) rfl)), fun _ h => absurd h List.not_mem_nil⟩⟩⟩⟩⟩⟩⟩⟩⟩⟩⟩⟩⟩⟩⟩⟩⟩
noncomputable def ilL_39 : List (Nat × Instr × Nat) := [(1415, .aload_n 1, 1), (1416, .aload_n 0, 1), (1417, .iload 4, 2), (1419, .iconst 1, 1), (1420, .iadd, 1), (1421, .iaload, 1), (1422, .invokevirtual 180, 3), (1425, .pop, 1), (1426, .aload_n 2, 1), (1427, .aload_n 0, 1), (1428, .iload 4, 2), (1430, .iconst 1, 1), (1431, .iadd, 1), (1432, .iaload, 1), (1433, .invokevirtual 183, 3), (1436, .pop, 1), (1437, .goto 448, 3)]
theorem idL_39 : ∀ x ∈ ilL_39, decode cL_law x.1 = .ok x.2 := sq_ok (B := 1415) rfl (by decide +kernel : sqI cL_law 1415 (cL_law.data.toList.drop 1415) ilL_39 = true)
noncomputable def tbL_39 (l : Launch) (X : Nat × (Nat → Int32)) (d : Nat) (b : Nat × Nat) : List (Nat × OP) := [(1415, oAl 1415 1 1), (1416, oAl 1416 1 0), (1417, oIl 1417 2 4), (1419, oIc 1419 1 1), (1420, o2 1420 (fun x y => x + y)), (1421, oScd X 1421), (1422, oCv l X d 1422 uX6_rest 6 1), (1425, oPop 1425), (1426, oAl 1426 1 2), (1427, oAl 1427 1 0), (1428, oIl 1428 2 4), (1430, oIc 1430 1 1), (1431, o2 1431 (fun x y => x + y)), (1432, oScd X 1432), (1433, oCv l X d 1433 uX7_rest 7 1), (1436, oPop 1436), (1437, oGo 1885)]
set_option maxRecDepth 20000 in
theorem tkL_39 {l : Launch} {X : Nat × (Nat → Int32)} {d : Nat} {b : Nat × Nat} : ∀ x ∈ tbL_39 l X d b, OK l X uL (d + 1) false b x.1 x.2 :=
  List.forall_mem_cons.mpr ⟨ok_aload_n (i := 1) (k := 1) rfl (idL_39 (1415, .aload_n 1, 1) (List.mem_of_getElem? (i := 0) rfl)), List.forall_mem_cons.mpr ⟨ok_aload_n (i := 0) (k := 0) rfl (idL_39 (1416, .aload_n 0, 1) (List.mem_of_getElem? (i := 1) rfl)), List.forall_mem_cons.mpr ⟨ok_iload (i := 4) (idL_39 (1417, .iload 4, 2) (List.mem_of_getElem? (i := 2) rfl)), List.forall_mem_cons.mpr ⟨ok_iconst (n := 1) (v := 1) (by decide) (idL_39 (1419, .iconst 1, 1) (List.mem_of_getElem? (i := 3) rfl)), List.forall_mem_cons.mpr ⟨ok_iadd (idL_39 (1420, .iadd, 1) (List.mem_of_getElem? (i := 4) rfl)), List.forall_mem_cons.mpr ⟨ok_scd (idL_39 (1421, .iaload, 1) (List.mem_of_getElem? (i := 5) rfl)), List.forall_mem_cons.mpr ⟨ok_cv (c := 6) (T := TX6) (N := 14) cw_X6_rest rfl (by decide) mlL_180 (idL_39 (1422, .invokevirtual 180, 3) (List.mem_of_getElem? (i := 6) rfl)), List.forall_mem_cons.mpr ⟨ok_pop (idL_39 (1425, .pop, 1) (List.mem_of_getElem? (i := 7) rfl)), List.forall_mem_cons.mpr ⟨ok_aload_n (i := 2) (k := 2) rfl (idL_39 (1426, .aload_n 2, 1) (List.mem_of_getElem? (i := 8) rfl)), List.forall_mem_cons.mpr ⟨ok_aload_n (i := 0) (k := 0) rfl (idL_39 (1427, .aload_n 0, 1) (List.mem_of_getElem? (i := 9) rfl)), List.forall_mem_cons.mpr ⟨ok_iload (i := 4) (idL_39 (1428, .iload 4, 2) (List.mem_of_getElem? (i := 10) rfl)), List.forall_mem_cons.mpr ⟨ok_iconst (n := 1) (v := 1) (by decide) (idL_39 (1430, .iconst 1, 1) (List.mem_of_getElem? (i := 11) rfl)), List.forall_mem_cons.mpr ⟨ok_iadd (idL_39 (1431, .iadd, 1) (List.mem_of_getElem? (i := 12) rfl)), List.forall_mem_cons.mpr ⟨ok_scd (idL_39 (1432, .iaload, 1) (List.mem_of_getElem? (i := 13) rfl)), List.forall_mem_cons.mpr ⟨ok_cv (c := 7) (T := TX7) (N := 44) cw_X7_rest rfl (by decide) mlL_183 (idL_39 (1433, .invokevirtual 183, 3) (List.mem_of_getElem? (i := 14) rfl)), List.forall_mem_cons.mpr ⟨ok_pop (idL_39 (1436, .pop, 1) (List.mem_of_getElem? (i := 15) rfl)), List.forall_mem_cons.mpr ⟨ok_goto (t := 1885) (by decide) (idL_39 (1437, .goto 448, 3) (List.mem_of_getElem? (i := 16) rfl)), fun _ h => absurd h List.not_mem_nil⟩⟩⟩⟩⟩⟩⟩⟩⟩⟩⟩⟩⟩⟩⟩⟩⟩
noncomputable def ilL_40 : List (Nat × Instr × Nat) := [(1440, .aload_n 1, 1), (1441, .aload_n 0, 1), (1442, .iload 4, 2), (1444, .iconst 1, 1), (1445, .iadd, 1), (1446, .iaload, 1), (1447, .aload_n 0, 1), (1448, .iload 4, 2), (1450, .iconst 2, 1), (1451, .iadd, 1), (1452, .iaload, 1), (1453, .aload_n 0, 1), (1454, .iload 4, 2), (1456, .iconst 3, 1), (1457, .iadd, 1), (1458, .iaload, 1), (1459, .ifCond .eq 7, 3), (1462, .iconst 1, 1), (1463, .goto 4, 3), (1466, .iconst 0, 1), (1467, .invokevirtual 184, 3), (1470, .pop2, 1), (1471, .aload_n 2, 1), (1472, .aload_n 0, 1), (1473, .iload 4, 2), (1475, .iconst 1, 1), (1476, .iadd, 1), (1477, .iaload, 1), (1478, .aload_n 0, 1), (1479, .iload 4, 2), (1481, .iconst 2, 1), (1482, .iadd, 1), (1483, .iaload, 1), (1484, .aload_n 0, 1), (1485, .iload 4, 2), (1487, .iconst 3, 1), (1488, .iadd, 1), (1489, .iaload, 1), (1490, .ifCond .eq 7, 3), (1493, .iconst 1, 1), (1494, .goto 4, 3), (1497, .iconst 0, 1), (1498, .invokevirtual 188, 3), (1501, .pop2, 1), (1502, .goto 383, 3)]
theorem idL_40 : ∀ x ∈ ilL_40, decode cL_law x.1 = .ok x.2 := sq_ok (B := 1440) rfl (by decide +kernel : sqI cL_law 1440 (cL_law.data.toList.drop 1440) ilL_40 = true)
noncomputable def tbL_40 (l : Launch) (X : Nat × (Nat → Int32)) (d : Nat) (b : Nat × Nat) : List (Nat × OP) := [(1440, oAl 1440 1 1), (1441, oAl 1441 1 0), (1442, oIl 1442 2 4), (1444, oIc 1444 1 1), (1445, o2 1445 (fun x y => x + y)), (1446, oScd X 1446), (1447, oAl 1447 1 0), (1448, oIl 1448 2 4), (1450, oIc 1450 1 2), (1451, o2 1451 (fun x y => x + y)), (1452, oScd X 1452), (1453, oAl 1453 1 0), (1454, oIl 1454 2 4), (1456, oIc 1456 1 3), (1457, o2 1457 (fun x y => x + y)), (1458, oScd X 1458), (1459, oIf 1459 1466 (fun x => x = 0) (fun x => ¬ x = 0)), (1462, oIc 1462 1 1), (1463, oGo 1467), (1466, oIc 1466 1 0), (1467, oCv l X d 1467 uX6_odds 6 3), (1470, oPop2 1470), (1471, oAl 1471 1 2), (1472, oAl 1472 1 0), (1473, oIl 1473 2 4), (1475, oIc 1475 1 1), (1476, o2 1476 (fun x y => x + y)), (1477, oScd X 1477), (1478, oAl 1478 1 0), (1479, oIl 1479 2 4), (1481, oIc 1481 1 2), (1482, o2 1482 (fun x y => x + y)), (1483, oScd X 1483), (1484, oAl 1484 1 0), (1485, oIl 1485 2 4), (1487, oIc 1487 1 3), (1488, o2 1488 (fun x y => x + y)), (1489, oScd X 1489), (1490, oIf 1490 1497 (fun x => x = 0) (fun x => ¬ x = 0)), (1493, oIc 1493 1 1), (1494, oGo 1498), (1497, oIc 1497 1 0), (1498, oCv l X d 1498 uX7_odds 7 3), (1501, oPop2 1501), (1502, oGo 1885)]
set_option maxRecDepth 20000 in
theorem tkL_40 {l : Launch} {X : Nat × (Nat → Int32)} {d : Nat} {b : Nat × Nat} : ∀ x ∈ tbL_40 l X d b, OK l X uL (d + 1) false b x.1 x.2 :=
  List.forall_mem_cons.mpr ⟨ok_aload_n (i := 1) (k := 1) rfl (idL_40 (1440, .aload_n 1, 1) (List.mem_of_getElem? (i := 0) rfl)), List.forall_mem_cons.mpr ⟨ok_aload_n (i := 0) (k := 0) rfl (idL_40 (1441, .aload_n 0, 1) (List.mem_of_getElem? (i := 1) rfl)), List.forall_mem_cons.mpr ⟨ok_iload (i := 4) (idL_40 (1442, .iload 4, 2) (List.mem_of_getElem? (i := 2) rfl)), List.forall_mem_cons.mpr ⟨ok_iconst (n := 1) (v := 1) (by decide) (idL_40 (1444, .iconst 1, 1) (List.mem_of_getElem? (i := 3) rfl)), List.forall_mem_cons.mpr ⟨ok_iadd (idL_40 (1445, .iadd, 1) (List.mem_of_getElem? (i := 4) rfl)), List.forall_mem_cons.mpr ⟨ok_scd (idL_40 (1446, .iaload, 1) (List.mem_of_getElem? (i := 5) rfl)), List.forall_mem_cons.mpr ⟨ok_aload_n (i := 0) (k := 0) rfl (idL_40 (1447, .aload_n 0, 1) (List.mem_of_getElem? (i := 6) rfl)), List.forall_mem_cons.mpr ⟨ok_iload (i := 4) (idL_40 (1448, .iload 4, 2) (List.mem_of_getElem? (i := 7) rfl)), List.forall_mem_cons.mpr ⟨ok_iconst (n := 2) (v := 2) (by decide) (idL_40 (1450, .iconst 2, 1) (List.mem_of_getElem? (i := 8) rfl)), List.forall_mem_cons.mpr ⟨ok_iadd (idL_40 (1451, .iadd, 1) (List.mem_of_getElem? (i := 9) rfl)), List.forall_mem_cons.mpr ⟨ok_scd (idL_40 (1452, .iaload, 1) (List.mem_of_getElem? (i := 10) rfl)), List.forall_mem_cons.mpr ⟨ok_aload_n (i := 0) (k := 0) rfl (idL_40 (1453, .aload_n 0, 1) (List.mem_of_getElem? (i := 11) rfl)), List.forall_mem_cons.mpr ⟨ok_iload (i := 4) (idL_40 (1454, .iload 4, 2) (List.mem_of_getElem? (i := 12) rfl)), List.forall_mem_cons.mpr ⟨ok_iconst (n := 3) (v := 3) (by decide) (idL_40 (1456, .iconst 3, 1) (List.mem_of_getElem? (i := 13) rfl)), List.forall_mem_cons.mpr ⟨ok_iadd (idL_40 (1457, .iadd, 1) (List.mem_of_getElem? (i := 14) rfl)), List.forall_mem_cons.mpr ⟨ok_scd (idL_40 (1458, .iaload, 1) (List.mem_of_getElem? (i := 15) rfl)), List.forall_mem_cons.mpr ⟨ok_ifeq (t := 1466) (by decide) (idL_40 (1459, .ifCond .eq 7, 3) (List.mem_of_getElem? (i := 16) rfl)), List.forall_mem_cons.mpr ⟨ok_iconst (n := 1) (v := 1) (by decide) (idL_40 (1462, .iconst 1, 1) (List.mem_of_getElem? (i := 17) rfl)), List.forall_mem_cons.mpr ⟨ok_goto (t := 1467) (by decide) (idL_40 (1463, .goto 4, 3) (List.mem_of_getElem? (i := 18) rfl)), List.forall_mem_cons.mpr ⟨ok_iconst (n := 0) (v := 0) (by decide) (idL_40 (1466, .iconst 0, 1) (List.mem_of_getElem? (i := 19) rfl)), List.forall_mem_cons.mpr ⟨ok_cv (c := 6) (T := TX6) (N := 14) cw_X6_odds rfl (by decide) mlL_184 (idL_40 (1467, .invokevirtual 184, 3) (List.mem_of_getElem? (i := 20) rfl)), List.forall_mem_cons.mpr ⟨ok_pop2 (idL_40 (1470, .pop2, 1) (List.mem_of_getElem? (i := 21) rfl)), List.forall_mem_cons.mpr ⟨ok_aload_n (i := 2) (k := 2) rfl (idL_40 (1471, .aload_n 2, 1) (List.mem_of_getElem? (i := 22) rfl)), List.forall_mem_cons.mpr ⟨ok_aload_n (i := 0) (k := 0) rfl (idL_40 (1472, .aload_n 0, 1) (List.mem_of_getElem? (i := 23) rfl)), List.forall_mem_cons.mpr ⟨ok_iload (i := 4) (idL_40 (1473, .iload 4, 2) (List.mem_of_getElem? (i := 24) rfl)), List.forall_mem_cons.mpr ⟨ok_iconst (n := 1) (v := 1) (by decide) (idL_40 (1475, .iconst 1, 1) (List.mem_of_getElem? (i := 25) rfl)), List.forall_mem_cons.mpr ⟨ok_iadd (idL_40 (1476, .iadd, 1) (List.mem_of_getElem? (i := 26) rfl)), List.forall_mem_cons.mpr ⟨ok_scd (idL_40 (1477, .iaload, 1) (List.mem_of_getElem? (i := 27) rfl)), List.forall_mem_cons.mpr ⟨ok_aload_n (i := 0) (k := 0) rfl (idL_40 (1478, .aload_n 0, 1) (List.mem_of_getElem? (i := 28) rfl)), List.forall_mem_cons.mpr ⟨ok_iload (i := 4) (idL_40 (1479, .iload 4, 2) (List.mem_of_getElem? (i := 29) rfl)), List.forall_mem_cons.mpr ⟨ok_iconst (n := 2) (v := 2) (by decide) (idL_40 (1481, .iconst 2, 1) (List.mem_of_getElem? (i := 30) rfl)), List.forall_mem_cons.mpr ⟨ok_iadd (idL_40 (1482, .iadd, 1) (List.mem_of_getElem? (i := 31) rfl)), List.forall_mem_cons.mpr ⟨ok_scd (idL_40 (1483, .iaload, 1) (List.mem_of_getElem? (i := 32) rfl)), List.forall_mem_cons.mpr ⟨ok_aload_n (i := 0) (k := 0) rfl (idL_40 (1484, .aload_n 0, 1) (List.mem_of_getElem? (i := 33) rfl)), List.forall_mem_cons.mpr ⟨ok_iload (i := 4) (idL_40 (1485, .iload 4, 2) (List.mem_of_getElem? (i := 34) rfl)), List.forall_mem_cons.mpr ⟨ok_iconst (n := 3) (v := 3) (by decide) (idL_40 (1487, .iconst 3, 1) (List.mem_of_getElem? (i := 35) rfl)), List.forall_mem_cons.mpr ⟨ok_iadd (idL_40 (1488, .iadd, 1) (List.mem_of_getElem? (i := 36) rfl)), List.forall_mem_cons.mpr ⟨ok_scd (idL_40 (1489, .iaload, 1) (List.mem_of_getElem? (i := 37) rfl)), List.forall_mem_cons.mpr ⟨ok_ifeq (t := 1497) (by decide) (idL_40 (1490, .ifCond .eq 7, 3) (List.mem_of_getElem? (i := 38) rfl)), List.forall_mem_cons.mpr ⟨ok_iconst (n := 1) (v := 1) (by decide) (idL_40 (1493, .iconst 1, 1) (List.mem_of_getElem? (i := 39) rfl)), List.forall_mem_cons.mpr ⟨ok_goto (t := 1498) (by decide) (idL_40 (1494, .goto 4, 3) (List.mem_of_getElem? (i := 40) rfl)), List.forall_mem_cons.mpr ⟨ok_iconst (n := 0) (v := 0) (by decide) (idL_40 (1497, .iconst 0, 1) (List.mem_of_getElem? (i := 41) rfl)), List.forall_mem_cons.mpr ⟨ok_cv (c := 7) (T := TX7) (N := 44) cw_X7_odds rfl (by decide) mlL_188 (idL_40 (1498, .invokevirtual 188, 3) (List.mem_of_getElem? (i := 42) rfl)), List.forall_mem_cons.mpr ⟨ok_pop2 (idL_40 (1501, .pop2, 1) (List.mem_of_getElem? (i := 43) rfl)), List.forall_mem_cons.mpr ⟨ok_goto (t := 1885) (by decide) (idL_40 (1502, .goto 383, 3) (List.mem_of_getElem? (i := 44) rfl)), fun _ h => absurd h List.not_mem_nil⟩⟩⟩⟩⟩⟩⟩⟩⟩⟩⟩⟩⟩⟩⟩⟩⟩⟩⟩⟩⟩⟩⟩⟩⟩⟩⟩⟩⟩⟩⟩⟩⟩⟩⟩⟩⟩⟩⟩⟩⟩⟩⟩⟩⟩
noncomputable def ilL_41 : List (Nat × Instr × Nat) := [(1505, .aload_n 1, 1), (1506, .aload_n 0, 1), (1507, .iload 4, 2), (1509, .iconst 1, 1), (1510, .iadd, 1), (1511, .iaload, 1), (1512, .aload_n 0, 1), (1513, .iload 4, 2), (1515, .iconst 2, 1), (1516, .iadd, 1), (1517, .iaload, 1), (1518, .aload_n 0, 1), (1519, .iload 4, 2), (1521, .iconst 3, 1), (1522, .iadd, 1), (1523, .iaload, 1), (1524, .ifCond .eq 7, 3), (1527, .iconst 1, 1), (1528, .goto 4, 3), (1531, .iconst 0, 1), (1532, .invokevirtual 189, 3), (1535, .pop2, 1), (1536, .aload_n 2, 1), (1537, .aload_n 0, 1), (1538, .iload 4, 2), (1540, .iconst 1, 1), (1541, .iadd, 1), (1542, .iaload, 1), (1543, .aload_n 0, 1), (1544, .iload 4, 2), (1546, .iconst 2, 1), (1547, .iadd, 1), (1548, .iaload, 1), (1549, .aload_n 0, 1), (1550, .iload 4, 2), (1552, .iconst 3, 1), (1553, .iadd, 1), (1554, .iaload, 1), (1555, .ifCond .eq 7, 3), (1558, .iconst 1, 1), (1559, .goto 4, 3), (1562, .iconst 0, 1), (1563, .invokevirtual 192, 3), (1566, .pop2, 1), (1567, .goto 318, 3)]
theorem idL_41 : ∀ x ∈ ilL_41, decode cL_law x.1 = .ok x.2 := sq_ok (B := 1505) rfl (by decide +kernel : sqI cL_law 1505 (cL_law.data.toList.drop 1505) ilL_41 = true)
noncomputable def tbL_41 (l : Launch) (X : Nat × (Nat → Int32)) (d : Nat) (b : Nat × Nat) : List (Nat × OP) := [(1505, oAl 1505 1 1), (1506, oAl 1506 1 0), (1507, oIl 1507 2 4), (1509, oIc 1509 1 1), (1510, o2 1510 (fun x y => x + y)), (1511, oScd X 1511), (1512, oAl 1512 1 0), (1513, oIl 1513 2 4), (1515, oIc 1515 1 2), (1516, o2 1516 (fun x y => x + y)), (1517, oScd X 1517), (1518, oAl 1518 1 0), (1519, oIl 1519 2 4), (1521, oIc 1521 1 3), (1522, o2 1522 (fun x y => x + y)), (1523, oScd X 1523), (1524, oIf 1524 1531 (fun x => x = 0) (fun x => ¬ x = 0)), (1527, oIc 1527 1 1), (1528, oGo 1532), (1531, oIc 1531 1 0), (1532, oCv l X d 1532 uX6_mean 6 3), (1535, oPop2 1535), (1536, oAl 1536 1 2), (1537, oAl 1537 1 0), (1538, oIl 1538 2 4), (1540, oIc 1540 1 1), (1541, o2 1541 (fun x y => x + y)), (1542, oScd X 1542), (1543, oAl 1543 1 0), (1544, oIl 1544 2 4), (1546, oIc 1546 1 2), (1547, o2 1547 (fun x y => x + y)), (1548, oScd X 1548), (1549, oAl 1549 1 0), (1550, oIl 1550 2 4), (1552, oIc 1552 1 3), (1553, o2 1553 (fun x y => x + y)), (1554, oScd X 1554), (1555, oIf 1555 1562 (fun x => x = 0) (fun x => ¬ x = 0)), (1558, oIc 1558 1 1), (1559, oGo 1563), (1562, oIc 1562 1 0), (1563, oCv l X d 1563 uX7_mean 7 3), (1566, oPop2 1566), (1567, oGo 1885)]
set_option maxRecDepth 20000 in
theorem tkL_41 {l : Launch} {X : Nat × (Nat → Int32)} {d : Nat} {b : Nat × Nat} : ∀ x ∈ tbL_41 l X d b, OK l X uL (d + 1) false b x.1 x.2 :=
  List.forall_mem_cons.mpr ⟨ok_aload_n (i := 1) (k := 1) rfl (idL_41 (1505, .aload_n 1, 1) (List.mem_of_getElem? (i := 0) rfl)), List.forall_mem_cons.mpr ⟨ok_aload_n (i := 0) (k := 0) rfl (idL_41 (1506, .aload_n 0, 1) (List.mem_of_getElem? (i := 1) rfl)), List.forall_mem_cons.mpr ⟨ok_iload (i := 4) (idL_41 (1507, .iload 4, 2) (List.mem_of_getElem? (i := 2) rfl)), List.forall_mem_cons.mpr ⟨ok_iconst (n := 1) (v := 1) (by decide) (idL_41 (1509, .iconst 1, 1) (List.mem_of_getElem? (i := 3) rfl)), List.forall_mem_cons.mpr ⟨ok_iadd (idL_41 (1510, .iadd, 1) (List.mem_of_getElem? (i := 4) rfl)), List.forall_mem_cons.mpr ⟨ok_scd (idL_41 (1511, .iaload, 1) (List.mem_of_getElem? (i := 5) rfl)), List.forall_mem_cons.mpr ⟨ok_aload_n (i := 0) (k := 0) rfl (idL_41 (1512, .aload_n 0, 1) (List.mem_of_getElem? (i := 6) rfl)), List.forall_mem_cons.mpr ⟨ok_iload (i := 4) (idL_41 (1513, .iload 4, 2) (List.mem_of_getElem? (i := 7) rfl)), List.forall_mem_cons.mpr ⟨ok_iconst (n := 2) (v := 2) (by decide) (idL_41 (1515, .iconst 2, 1) (List.mem_of_getElem? (i := 8) rfl)), List.forall_mem_cons.mpr ⟨ok_iadd (idL_41 (1516, .iadd, 1) (List.mem_of_getElem? (i := 9) rfl)), List.forall_mem_cons.mpr ⟨ok_scd (idL_41 (1517, .iaload, 1) (List.mem_of_getElem? (i := 10) rfl)), List.forall_mem_cons.mpr ⟨ok_aload_n (i := 0) (k := 0) rfl (idL_41 (1518, .aload_n 0, 1) (List.mem_of_getElem? (i := 11) rfl)), List.forall_mem_cons.mpr ⟨ok_iload (i := 4) (idL_41 (1519, .iload 4, 2) (List.mem_of_getElem? (i := 12) rfl)), List.forall_mem_cons.mpr ⟨ok_iconst (n := 3) (v := 3) (by decide) (idL_41 (1521, .iconst 3, 1) (List.mem_of_getElem? (i := 13) rfl)), List.forall_mem_cons.mpr ⟨ok_iadd (idL_41 (1522, .iadd, 1) (List.mem_of_getElem? (i := 14) rfl)), List.forall_mem_cons.mpr ⟨ok_scd (idL_41 (1523, .iaload, 1) (List.mem_of_getElem? (i := 15) rfl)), List.forall_mem_cons.mpr ⟨ok_ifeq (t := 1531) (by decide) (idL_41 (1524, .ifCond .eq 7, 3) (List.mem_of_getElem? (i := 16) rfl)), List.forall_mem_cons.mpr ⟨ok_iconst (n := 1) (v := 1) (by decide) (idL_41 (1527, .iconst 1, 1) (List.mem_of_getElem? (i := 17) rfl)), List.forall_mem_cons.mpr ⟨ok_goto (t := 1532) (by decide) (idL_41 (1528, .goto 4, 3) (List.mem_of_getElem? (i := 18) rfl)), List.forall_mem_cons.mpr ⟨ok_iconst (n := 0) (v := 0) (by decide) (idL_41 (1531, .iconst 0, 1) (List.mem_of_getElem? (i := 19) rfl)), List.forall_mem_cons.mpr ⟨ok_cv (c := 6) (T := TX6) (N := 14) cw_X6_mean rfl (by decide) mlL_189 (idL_41 (1532, .invokevirtual 189, 3) (List.mem_of_getElem? (i := 20) rfl)), List.forall_mem_cons.mpr ⟨ok_pop2 (idL_41 (1535, .pop2, 1) (List.mem_of_getElem? (i := 21) rfl)), List.forall_mem_cons.mpr ⟨ok_aload_n (i := 2) (k := 2) rfl (idL_41 (1536, .aload_n 2, 1) (List.mem_of_getElem? (i := 22) rfl)), List.forall_mem_cons.mpr ⟨ok_aload_n (i := 0) (k := 0) rfl (idL_41 (1537, .aload_n 0, 1) (List.mem_of_getElem? (i := 23) rfl)), List.forall_mem_cons.mpr ⟨ok_iload (i := 4) (idL_41 (1538, .iload 4, 2) (List.mem_of_getElem? (i := 24) rfl)), List.forall_mem_cons.mpr ⟨ok_iconst (n := 1) (v := 1) (by decide) (idL_41 (1540, .iconst 1, 1) (List.mem_of_getElem? (i := 25) rfl)), List.forall_mem_cons.mpr ⟨ok_iadd (idL_41 (1541, .iadd, 1) (List.mem_of_getElem? (i := 26) rfl)), List.forall_mem_cons.mpr ⟨ok_scd (idL_41 (1542, .iaload, 1) (List.mem_of_getElem? (i := 27) rfl)), List.forall_mem_cons.mpr ⟨ok_aload_n (i := 0) (k := 0) rfl (idL_41 (1543, .aload_n 0, 1) (List.mem_of_getElem? (i := 28) rfl)), List.forall_mem_cons.mpr ⟨ok_iload (i := 4) (idL_41 (1544, .iload 4, 2) (List.mem_of_getElem? (i := 29) rfl)), List.forall_mem_cons.mpr ⟨ok_iconst (n := 2) (v := 2) (by decide) (idL_41 (1546, .iconst 2, 1) (List.mem_of_getElem? (i := 30) rfl)), List.forall_mem_cons.mpr ⟨ok_iadd (idL_41 (1547, .iadd, 1) (List.mem_of_getElem? (i := 31) rfl)), List.forall_mem_cons.mpr ⟨ok_scd (idL_41 (1548, .iaload, 1) (List.mem_of_getElem? (i := 32) rfl)), List.forall_mem_cons.mpr ⟨ok_aload_n (i := 0) (k := 0) rfl (idL_41 (1549, .aload_n 0, 1) (List.mem_of_getElem? (i := 33) rfl)), List.forall_mem_cons.mpr ⟨ok_iload (i := 4) (idL_41 (1550, .iload 4, 2) (List.mem_of_getElem? (i := 34) rfl)), List.forall_mem_cons.mpr ⟨ok_iconst (n := 3) (v := 3) (by decide) (idL_41 (1552, .iconst 3, 1) (List.mem_of_getElem? (i := 35) rfl)), List.forall_mem_cons.mpr ⟨ok_iadd (idL_41 (1553, .iadd, 1) (List.mem_of_getElem? (i := 36) rfl)), List.forall_mem_cons.mpr ⟨ok_scd (idL_41 (1554, .iaload, 1) (List.mem_of_getElem? (i := 37) rfl)), List.forall_mem_cons.mpr ⟨ok_ifeq (t := 1562) (by decide) (idL_41 (1555, .ifCond .eq 7, 3) (List.mem_of_getElem? (i := 38) rfl)), List.forall_mem_cons.mpr ⟨ok_iconst (n := 1) (v := 1) (by decide) (idL_41 (1558, .iconst 1, 1) (List.mem_of_getElem? (i := 39) rfl)), List.forall_mem_cons.mpr ⟨ok_goto (t := 1563) (by decide) (idL_41 (1559, .goto 4, 3) (List.mem_of_getElem? (i := 40) rfl)), List.forall_mem_cons.mpr ⟨ok_iconst (n := 0) (v := 0) (by decide) (idL_41 (1562, .iconst 0, 1) (List.mem_of_getElem? (i := 41) rfl)), List.forall_mem_cons.mpr ⟨ok_cv (c := 7) (T := TX7) (N := 44) cw_X7_mean rfl (by decide) mlL_192 (idL_41 (1563, .invokevirtual 192, 3) (List.mem_of_getElem? (i := 42) rfl)), List.forall_mem_cons.mpr ⟨ok_pop2 (idL_41 (1566, .pop2, 1) (List.mem_of_getElem? (i := 43) rfl)), List.forall_mem_cons.mpr ⟨ok_goto (t := 1885) (by decide) (idL_41 (1567, .goto 318, 3) (List.mem_of_getElem? (i := 44) rfl)), fun _ h => absurd h List.not_mem_nil⟩⟩⟩⟩⟩⟩⟩⟩⟩⟩⟩⟩⟩⟩⟩⟩⟩⟩⟩⟩⟩⟩⟩⟩⟩⟩⟩⟩⟩⟩⟩⟩⟩⟩⟩⟩⟩⟩⟩⟩⟩⟩⟩⟩⟩
noncomputable def ilL_42 : List (Nat × Instr × Nat) := [(1570, .aload_n 1, 1), (1571, .aload_n 0, 1), (1572, .iload 4, 2), (1574, .iconst 1, 1), (1575, .iadd, 1), (1576, .iaload, 1), (1577, .aload_n 0, 1), (1578, .iload 4, 2), (1580, .iconst 2, 1), (1581, .iadd, 1), (1582, .iaload, 1), (1583, .aload_n 0, 1), (1584, .iload 4, 2), (1586, .iconst 3, 1), (1587, .iadd, 1), (1588, .iaload, 1), (1589, .invokevirtual 193, 3), (1592, .pop, 1), (1593, .aload_n 2, 1), (1594, .aload_n 0, 1), (1595, .iload 4, 2), (1597, .iconst 1, 1), (1598, .iadd, 1), (1599, .iaload, 1), (1600, .aload_n 0, 1), (1601, .iload 4, 2), (1603, .iconst 2, 1), (1604, .iadd, 1), (1605, .iaload, 1), (1606, .aload_n 0, 1), (1607, .iload 4, 2), (1609, .iconst 3, 1), (1610, .iadd, 1), (1611, .iaload, 1), (1612, .invokevirtual 196, 3), (1615, .pop, 1), (1616, .goto 269, 3)]
theorem idL_42 : ∀ x ∈ ilL_42, decode cL_law x.1 = .ok x.2 := sq_ok (B := 1570) rfl (by decide +kernel : sqI cL_law 1570 (cL_law.data.toList.drop 1570) ilL_42 = true)
noncomputable def tbL_42 (l : Launch) (X : Nat × (Nat → Int32)) (d : Nat) (b : Nat × Nat) : List (Nat × OP) := [(1570, oAl 1570 1 1), (1571, oAl 1571 1 0), (1572, oIl 1572 2 4), (1574, oIc 1574 1 1), (1575, o2 1575 (fun x y => x + y)), (1576, oScd X 1576), (1577, oAl 1577 1 0), (1578, oIl 1578 2 4), (1580, oIc 1580 1 2), (1581, o2 1581 (fun x y => x + y)), (1582, oScd X 1582), (1583, oAl 1583 1 0), (1584, oIl 1584 2 4), (1586, oIc 1586 1 3), (1587, o2 1587 (fun x y => x + y)), (1588, oScd X 1588), (1589, oCv l X d 1589 uX6_borne 6 3), (1592, oPop 1592), (1593, oAl 1593 1 2), (1594, oAl 1594 1 0), (1595, oIl 1595 2 4), (1597, oIc 1597 1 1), (1598, o2 1598 (fun x y => x + y)), (1599, oScd X 1599), (1600, oAl 1600 1 0), (1601, oIl 1601 2 4), (1603, oIc 1603 1 2), (1604, o2 1604 (fun x y => x + y)), (1605, oScd X 1605), (1606, oAl 1606 1 0), (1607, oIl 1607 2 4), (1609, oIc 1609 1 3), (1610, o2 1610 (fun x y => x + y)), (1611, oScd X 1611), (1612, oCv l X d 1612 uX7_borne 7 3), (1615, oPop 1615), (1616, oGo 1885)]
set_option maxRecDepth 20000 in
theorem tkL_42 {l : Launch} {X : Nat × (Nat → Int32)} {d : Nat} {b : Nat × Nat} : ∀ x ∈ tbL_42 l X d b, OK l X uL (d + 1) false b x.1 x.2 :=
  List.forall_mem_cons.mpr ⟨ok_aload_n (i := 1) (k := 1) rfl (idL_42 (1570, .aload_n 1, 1) (List.mem_of_getElem? (i := 0) rfl)), List.forall_mem_cons.mpr ⟨ok_aload_n (i := 0) (k := 0) rfl (idL_42 (1571, .aload_n 0, 1) (List.mem_of_getElem? (i := 1) rfl)), List.forall_mem_cons.mpr ⟨ok_iload (i := 4) (idL_42 (1572, .iload 4, 2) (List.mem_of_getElem? (i := 2) rfl)), List.forall_mem_cons.mpr ⟨ok_iconst (n := 1) (v := 1) (by decide) (idL_42 (1574, .iconst 1, 1) (List.mem_of_getElem? (i := 3) rfl)), List.forall_mem_cons.mpr ⟨ok_iadd (idL_42 (1575, .iadd, 1) (List.mem_of_getElem? (i := 4) rfl)), List.forall_mem_cons.mpr ⟨ok_scd (idL_42 (1576, .iaload, 1) (List.mem_of_getElem? (i := 5) rfl)), List.forall_mem_cons.mpr ⟨ok_aload_n (i := 0) (k := 0) rfl (idL_42 (1577, .aload_n 0, 1) (List.mem_of_getElem? (i := 6) rfl)), List.forall_mem_cons.mpr ⟨ok_iload (i := 4) (idL_42 (1578, .iload 4, 2) (List.mem_of_getElem? (i := 7) rfl)), List.forall_mem_cons.mpr ⟨ok_iconst (n := 2) (v := 2) (by decide) (idL_42 (1580, .iconst 2, 1) (List.mem_of_getElem? (i := 8) rfl)), List.forall_mem_cons.mpr ⟨ok_iadd (idL_42 (1581, .iadd, 1) (List.mem_of_getElem? (i := 9) rfl)), List.forall_mem_cons.mpr ⟨ok_scd (idL_42 (1582, .iaload, 1) (List.mem_of_getElem? (i := 10) rfl)), List.forall_mem_cons.mpr ⟨ok_aload_n (i := 0) (k := 0) rfl (idL_42 (1583, .aload_n 0, 1) (List.mem_of_getElem? (i := 11) rfl)), List.forall_mem_cons.mpr ⟨ok_iload (i := 4) (idL_42 (1584, .iload 4, 2) (List.mem_of_getElem? (i := 12) rfl)), List.forall_mem_cons.mpr ⟨ok_iconst (n := 3) (v := 3) (by decide) (idL_42 (1586, .iconst 3, 1) (List.mem_of_getElem? (i := 13) rfl)), List.forall_mem_cons.mpr ⟨ok_iadd (idL_42 (1587, .iadd, 1) (List.mem_of_getElem? (i := 14) rfl)), List.forall_mem_cons.mpr ⟨ok_scd (idL_42 (1588, .iaload, 1) (List.mem_of_getElem? (i := 15) rfl)), List.forall_mem_cons.mpr ⟨ok_cv (c := 6) (T := TX6) (N := 14) cw_X6_borne rfl (by decide) mlL_193 (idL_42 (1589, .invokevirtual 193, 3) (List.mem_of_getElem? (i := 16) rfl)), List.forall_mem_cons.mpr ⟨ok_pop (idL_42 (1592, .pop, 1) (List.mem_of_getElem? (i := 17) rfl)), List.forall_mem_cons.mpr ⟨ok_aload_n (i := 2) (k := 2) rfl (idL_42 (1593, .aload_n 2, 1) (List.mem_of_getElem? (i := 18) rfl)), List.forall_mem_cons.mpr ⟨ok_aload_n (i := 0) (k := 0) rfl (idL_42 (1594, .aload_n 0, 1) (List.mem_of_getElem? (i := 19) rfl)), List.forall_mem_cons.mpr ⟨ok_iload (i := 4) (idL_42 (1595, .iload 4, 2) (List.mem_of_getElem? (i := 20) rfl)), List.forall_mem_cons.mpr ⟨ok_iconst (n := 1) (v := 1) (by decide) (idL_42 (1597, .iconst 1, 1) (List.mem_of_getElem? (i := 21) rfl)), List.forall_mem_cons.mpr ⟨ok_iadd (idL_42 (1598, .iadd, 1) (List.mem_of_getElem? (i := 22) rfl)), List.forall_mem_cons.mpr ⟨ok_scd (idL_42 (1599, .iaload, 1) (List.mem_of_getElem? (i := 23) rfl)), List.forall_mem_cons.mpr ⟨ok_aload_n (i := 0) (k := 0) rfl (idL_42 (1600, .aload_n 0, 1) (List.mem_of_getElem? (i := 24) rfl)), List.forall_mem_cons.mpr ⟨ok_iload (i := 4) (idL_42 (1601, .iload 4, 2) (List.mem_of_getElem? (i := 25) rfl)), List.forall_mem_cons.mpr ⟨ok_iconst (n := 2) (v := 2) (by decide) (idL_42 (1603, .iconst 2, 1) (List.mem_of_getElem? (i := 26) rfl)), List.forall_mem_cons.mpr ⟨ok_iadd (idL_42 (1604, .iadd, 1) (List.mem_of_getElem? (i := 27) rfl)), List.forall_mem_cons.mpr ⟨ok_scd (idL_42 (1605, .iaload, 1) (List.mem_of_getElem? (i := 28) rfl)), List.forall_mem_cons.mpr ⟨ok_aload_n (i := 0) (k := 0) rfl (idL_42 (1606, .aload_n 0, 1) (List.mem_of_getElem? (i := 29) rfl)), List.forall_mem_cons.mpr ⟨ok_iload (i := 4) (idL_42 (1607, .iload 4, 2) (List.mem_of_getElem? (i := 30) rfl)), List.forall_mem_cons.mpr ⟨ok_iconst (n := 3) (v := 3) (by decide) (idL_42 (1609, .iconst 3, 1) (List.mem_of_getElem? (i := 31) rfl)), List.forall_mem_cons.mpr ⟨ok_iadd (idL_42 (1610, .iadd, 1) (List.mem_of_getElem? (i := 32) rfl)), List.forall_mem_cons.mpr ⟨ok_scd (idL_42 (1611, .iaload, 1) (List.mem_of_getElem? (i := 33) rfl)), List.forall_mem_cons.mpr ⟨ok_cv (c := 7) (T := TX7) (N := 44) cw_X7_borne rfl (by decide) mlL_196 (idL_42 (1612, .invokevirtual 196, 3) (List.mem_of_getElem? (i := 34) rfl)), List.forall_mem_cons.mpr ⟨ok_pop (idL_42 (1615, .pop, 1) (List.mem_of_getElem? (i := 35) rfl)), List.forall_mem_cons.mpr ⟨ok_goto (t := 1885) (by decide) (idL_42 (1616, .goto 269, 3) (List.mem_of_getElem? (i := 36) rfl)), fun _ h => absurd h List.not_mem_nil⟩⟩⟩⟩⟩⟩⟩⟩⟩⟩⟩⟩⟩⟩⟩⟩⟩⟩⟩⟩⟩⟩⟩⟩⟩⟩⟩⟩⟩⟩⟩⟩⟩⟩⟩⟩⟩
noncomputable def ilL_43 : List (Nat × Instr × Nat) := [(1619, .aload_n 1, 1), (1620, .aload_n 0, 1), (1621, .iload 4, 2), (1623, .iconst 1, 1), (1624, .iadd, 1), (1625, .iaload, 1), (1626, .aload_n 0, 1), (1627, .iload 4, 2), (1629, .iconst 2, 1), (1630, .iadd, 1), (1631, .iaload, 1), (1632, .invokevirtual 197, 3), (1635, .pop, 1), (1636, .aload_n 2, 1), (1637, .aload_n 0, 1), (1638, .iload 4, 2), (1640, .iconst 1, 1), (1641, .iadd, 1), (1642, .iaload, 1), (1643, .aload_n 0, 1), (1644, .iload 4, 2), (1646, .iconst 2, 1), (1647, .iadd, 1), (1648, .iaload, 1), (1649, .invokevirtual 200, 3), (1652, .pop, 1), (1653, .goto 232, 3)]
theorem idL_43 : ∀ x ∈ ilL_43, decode cL_law x.1 = .ok x.2 := sq_ok (B := 1619) rfl (by decide +kernel : sqI cL_law 1619 (cL_law.data.toList.drop 1619) ilL_43 = true)
noncomputable def tbL_43 (l : Launch) (X : Nat × (Nat → Int32)) (d : Nat) (b : Nat × Nat) : List (Nat × OP) := [(1619, oAl 1619 1 1), (1620, oAl 1620 1 0), (1621, oIl 1621 2 4), (1623, oIc 1623 1 1), (1624, o2 1624 (fun x y => x + y)), (1625, oScd X 1625), (1626, oAl 1626 1 0), (1627, oIl 1627 2 4), (1629, oIc 1629 1 2), (1630, o2 1630 (fun x y => x + y)), (1631, oScd X 1631), (1632, oCv l X d 1632 uX6_firstWet 6 2), (1635, oPop 1635), (1636, oAl 1636 1 2), (1637, oAl 1637 1 0), (1638, oIl 1638 2 4), (1640, oIc 1640 1 1), (1641, o2 1641 (fun x y => x + y)), (1642, oScd X 1642), (1643, oAl 1643 1 0), (1644, oIl 1644 2 4), (1646, oIc 1646 1 2), (1647, o2 1647 (fun x y => x + y)), (1648, oScd X 1648), (1649, oCv l X d 1649 uX7_firstWet 7 2), (1652, oPop 1652), (1653, oGo 1885)]
set_option maxRecDepth 20000 in
theorem tkL_43 {l : Launch} {X : Nat × (Nat → Int32)} {d : Nat} {b : Nat × Nat} : ∀ x ∈ tbL_43 l X d b, OK l X uL (d + 1) false b x.1 x.2 :=
  List.forall_mem_cons.mpr ⟨ok_aload_n (i := 1) (k := 1) rfl (idL_43 (1619, .aload_n 1, 1) (List.mem_of_getElem? (i := 0) rfl)), List.forall_mem_cons.mpr ⟨ok_aload_n (i := 0) (k := 0) rfl (idL_43 (1620, .aload_n 0, 1) (List.mem_of_getElem? (i := 1) rfl)), List.forall_mem_cons.mpr ⟨ok_iload (i := 4) (idL_43 (1621, .iload 4, 2) (List.mem_of_getElem? (i := 2) rfl)), List.forall_mem_cons.mpr ⟨ok_iconst (n := 1) (v := 1) (by decide) (idL_43 (1623, .iconst 1, 1) (List.mem_of_getElem? (i := 3) rfl)), List.forall_mem_cons.mpr ⟨ok_iadd (idL_43 (1624, .iadd, 1) (List.mem_of_getElem? (i := 4) rfl)), List.forall_mem_cons.mpr ⟨ok_scd (idL_43 (1625, .iaload, 1) (List.mem_of_getElem? (i := 5) rfl)), List.forall_mem_cons.mpr ⟨ok_aload_n (i := 0) (k := 0) rfl (idL_43 (1626, .aload_n 0, 1) (List.mem_of_getElem? (i := 6) rfl)), List.forall_mem_cons.mpr ⟨ok_iload (i := 4) (idL_43 (1627, .iload 4, 2) (List.mem_of_getElem? (i := 7) rfl)), List.forall_mem_cons.mpr ⟨ok_iconst (n := 2) (v := 2) (by decide) (idL_43 (1629, .iconst 2, 1) (List.mem_of_getElem? (i := 8) rfl)), List.forall_mem_cons.mpr ⟨ok_iadd (idL_43 (1630, .iadd, 1) (List.mem_of_getElem? (i := 9) rfl)), List.forall_mem_cons.mpr ⟨ok_scd (idL_43 (1631, .iaload, 1) (List.mem_of_getElem? (i := 10) rfl)), List.forall_mem_cons.mpr ⟨ok_cv (c := 6) (T := TX6) (N := 14) cw_X6_firstWet rfl (by decide) mlL_197 (idL_43 (1632, .invokevirtual 197, 3) (List.mem_of_getElem? (i := 11) rfl)), List.forall_mem_cons.mpr ⟨ok_pop (idL_43 (1635, .pop, 1) (List.mem_of_getElem? (i := 12) rfl)), List.forall_mem_cons.mpr ⟨ok_aload_n (i := 2) (k := 2) rfl (idL_43 (1636, .aload_n 2, 1) (List.mem_of_getElem? (i := 13) rfl)), List.forall_mem_cons.mpr ⟨ok_aload_n (i := 0) (k := 0) rfl (idL_43 (1637, .aload_n 0, 1) (List.mem_of_getElem? (i := 14) rfl)), List.forall_mem_cons.mpr ⟨ok_iload (i := 4) (idL_43 (1638, .iload 4, 2) (List.mem_of_getElem? (i := 15) rfl)), List.forall_mem_cons.mpr ⟨ok_iconst (n := 1) (v := 1) (by decide) (idL_43 (1640, .iconst 1, 1) (List.mem_of_getElem? (i := 16) rfl)), List.forall_mem_cons.mpr ⟨ok_iadd (idL_43 (1641, .iadd, 1) (List.mem_of_getElem? (i := 17) rfl)), List.forall_mem_cons.mpr ⟨ok_scd (idL_43 (1642, .iaload, 1) (List.mem_of_getElem? (i := 18) rfl)), List.forall_mem_cons.mpr ⟨ok_aload_n (i := 0) (k := 0) rfl (idL_43 (1643, .aload_n 0, 1) (List.mem_of_getElem? (i := 19) rfl)), List.forall_mem_cons.mpr ⟨ok_iload (i := 4) (idL_43 (1644, .iload 4, 2) (List.mem_of_getElem? (i := 20) rfl)), List.forall_mem_cons.mpr ⟨ok_iconst (n := 2) (v := 2) (by decide) (idL_43 (1646, .iconst 2, 1) (List.mem_of_getElem? (i := 21) rfl)), List.forall_mem_cons.mpr ⟨ok_iadd (idL_43 (1647, .iadd, 1) (List.mem_of_getElem? (i := 22) rfl)), List.forall_mem_cons.mpr ⟨ok_scd (idL_43 (1648, .iaload, 1) (List.mem_of_getElem? (i := 23) rfl)), List.forall_mem_cons.mpr ⟨ok_cv (c := 7) (T := TX7) (N := 44) cw_X7_firstWet rfl (by decide) mlL_200 (idL_43 (1649, .invokevirtual 200, 3) (List.mem_of_getElem? (i := 24) rfl)), List.forall_mem_cons.mpr ⟨ok_pop (idL_43 (1652, .pop, 1) (List.mem_of_getElem? (i := 25) rfl)), List.forall_mem_cons.mpr ⟨ok_goto (t := 1885) (by decide) (idL_43 (1653, .goto 232, 3) (List.mem_of_getElem? (i := 26) rfl)), fun _ h => absurd h List.not_mem_nil⟩⟩⟩⟩⟩⟩⟩⟩⟩⟩⟩⟩⟩⟩⟩⟩⟩⟩⟩⟩⟩⟩⟩⟩⟩⟩⟩
noncomputable def ilL_44 : List (Nat × Instr × Nat) := [(1656, .aload_n 1, 1), (1657, .invokevirtual 201, 3), (1660, .pop, 1), (1661, .aload_n 2, 1), (1662, .invokevirtual 204, 3), (1665, .pop, 1), (1666, .goto 219, 3)]
theorem idL_44 : ∀ x ∈ ilL_44, decode cL_law x.1 = .ok x.2 := sq_ok (B := 1656) rfl (by decide +kernel : sqI cL_law 1656 (cL_law.data.toList.drop 1656) ilL_44 = true)
noncomputable def tbL_44 (l : Launch) (X : Nat × (Nat → Int32)) (d : Nat) (b : Nat × Nat) : List (Nat × OP) := [(1656, oAl 1656 1 1), (1657, oCv l X d 1657 uX6_day 6 0), (1660, oPop 1660), (1661, oAl 1661 1 2), (1662, oCv l X d 1662 uX7_day 7 0), (1665, oPop 1665), (1666, oGo 1885)]
set_option maxRecDepth 20000 in
theorem tkL_44 {l : Launch} {X : Nat × (Nat → Int32)} {d : Nat} {b : Nat × Nat} : ∀ x ∈ tbL_44 l X d b, OK l X uL (d + 1) false b x.1 x.2 :=
  List.forall_mem_cons.mpr ⟨ok_aload_n (i := 1) (k := 1) rfl (idL_44 (1656, .aload_n 1, 1) (List.mem_of_getElem? (i := 0) rfl)), List.forall_mem_cons.mpr ⟨ok_cv (c := 6) (T := TX6) (N := 14) cw_X6_day rfl (by decide) mlL_201 (idL_44 (1657, .invokevirtual 201, 3) (List.mem_of_getElem? (i := 1) rfl)), List.forall_mem_cons.mpr ⟨ok_pop (idL_44 (1660, .pop, 1) (List.mem_of_getElem? (i := 2) rfl)), List.forall_mem_cons.mpr ⟨ok_aload_n (i := 2) (k := 2) rfl (idL_44 (1661, .aload_n 2, 1) (List.mem_of_getElem? (i := 3) rfl)), List.forall_mem_cons.mpr ⟨ok_cv (c := 7) (T := TX7) (N := 44) cw_X7_day rfl (by decide) mlL_204 (idL_44 (1662, .invokevirtual 204, 3) (List.mem_of_getElem? (i := 4) rfl)), List.forall_mem_cons.mpr ⟨ok_pop (idL_44 (1665, .pop, 1) (List.mem_of_getElem? (i := 5) rfl)), List.forall_mem_cons.mpr ⟨ok_goto (t := 1885) (by decide) (idL_44 (1666, .goto 219, 3) (List.mem_of_getElem? (i := 6) rfl)), fun _ h => absurd h List.not_mem_nil⟩⟩⟩⟩⟩⟩⟩
noncomputable def ilL_45 : List (Nat × Instr × Nat) := [(1669, .aload_n 1, 1), (1670, .aload_n 0, 1), (1671, .iload 4, 2), (1673, .iconst 1, 1), (1674, .iadd, 1), (1675, .iaload, 1), (1676, .aload_n 0, 1), (1677, .iload 4, 2), (1679, .iconst 2, 1), (1680, .iadd, 1), (1681, .iaload, 1), (1682, .invokevirtual 205, 3), (1685, .pop, 1), (1686, .aload_n 2, 1), (1687, .aload_n 0, 1), (1688, .iload 4, 2), (1690, .iconst 1, 1), (1691, .iadd, 1), (1692, .iaload, 1), (1693, .aload_n 0, 1), (1694, .iload 4, 2), (1696, .iconst 2, 1), (1697, .iadd, 1), (1698, .iaload, 1), (1699, .invokevirtual 208, 3), (1702, .pop, 1), (1703, .goto 182, 3)]
theorem idL_45 : ∀ x ∈ ilL_45, decode cL_law x.1 = .ok x.2 := sq_ok (B := 1669) rfl (by decide +kernel : sqI cL_law 1669 (cL_law.data.toList.drop 1669) ilL_45 = true)
noncomputable def tbL_45 (l : Launch) (X : Nat × (Nat → Int32)) (d : Nat) (b : Nat × Nat) : List (Nat × OP) := [(1669, oAl 1669 1 1), (1670, oAl 1670 1 0), (1671, oIl 1671 2 4), (1673, oIc 1673 1 1), (1674, o2 1674 (fun x y => x + y)), (1675, oScd X 1675), (1676, oAl 1676 1 0), (1677, oIl 1677 2 4), (1679, oIc 1679 1 2), (1680, o2 1680 (fun x y => x + y)), (1681, oScd X 1681), (1682, oCv l X d 1682 uX6_give 6 2), (1685, oPop 1685), (1686, oAl 1686 1 2), (1687, oAl 1687 1 0), (1688, oIl 1688 2 4), (1690, oIc 1690 1 1), (1691, o2 1691 (fun x y => x + y)), (1692, oScd X 1692), (1693, oAl 1693 1 0), (1694, oIl 1694 2 4), (1696, oIc 1696 1 2), (1697, o2 1697 (fun x y => x + y)), (1698, oScd X 1698), (1699, oCv l X d 1699 uX7_give 7 2), (1702, oPop 1702), (1703, oGo 1885)]
set_option maxRecDepth 20000 in
theorem tkL_45 {l : Launch} {X : Nat × (Nat → Int32)} {d : Nat} {b : Nat × Nat} : ∀ x ∈ tbL_45 l X d b, OK l X uL (d + 1) false b x.1 x.2 :=
  List.forall_mem_cons.mpr ⟨ok_aload_n (i := 1) (k := 1) rfl (idL_45 (1669, .aload_n 1, 1) (List.mem_of_getElem? (i := 0) rfl)), List.forall_mem_cons.mpr ⟨ok_aload_n (i := 0) (k := 0) rfl (idL_45 (1670, .aload_n 0, 1) (List.mem_of_getElem? (i := 1) rfl)), List.forall_mem_cons.mpr ⟨ok_iload (i := 4) (idL_45 (1671, .iload 4, 2) (List.mem_of_getElem? (i := 2) rfl)), List.forall_mem_cons.mpr ⟨ok_iconst (n := 1) (v := 1) (by decide) (idL_45 (1673, .iconst 1, 1) (List.mem_of_getElem? (i := 3) rfl)), List.forall_mem_cons.mpr ⟨ok_iadd (idL_45 (1674, .iadd, 1) (List.mem_of_getElem? (i := 4) rfl)), List.forall_mem_cons.mpr ⟨ok_scd (idL_45 (1675, .iaload, 1) (List.mem_of_getElem? (i := 5) rfl)), List.forall_mem_cons.mpr ⟨ok_aload_n (i := 0) (k := 0) rfl (idL_45 (1676, .aload_n 0, 1) (List.mem_of_getElem? (i := 6) rfl)), List.forall_mem_cons.mpr ⟨ok_iload (i := 4) (idL_45 (1677, .iload 4, 2) (List.mem_of_getElem? (i := 7) rfl)), List.forall_mem_cons.mpr ⟨ok_iconst (n := 2) (v := 2) (by decide) (idL_45 (1679, .iconst 2, 1) (List.mem_of_getElem? (i := 8) rfl)), List.forall_mem_cons.mpr ⟨ok_iadd (idL_45 (1680, .iadd, 1) (List.mem_of_getElem? (i := 9) rfl)), List.forall_mem_cons.mpr ⟨ok_scd (idL_45 (1681, .iaload, 1) (List.mem_of_getElem? (i := 10) rfl)), List.forall_mem_cons.mpr ⟨ok_cv (c := 6) (T := TX6) (N := 14) cw_X6_give rfl (by decide) mlL_205 (idL_45 (1682, .invokevirtual 205, 3) (List.mem_of_getElem? (i := 11) rfl)), List.forall_mem_cons.mpr ⟨ok_pop (idL_45 (1685, .pop, 1) (List.mem_of_getElem? (i := 12) rfl)), List.forall_mem_cons.mpr ⟨ok_aload_n (i := 2) (k := 2) rfl (idL_45 (1686, .aload_n 2, 1) (List.mem_of_getElem? (i := 13) rfl)), List.forall_mem_cons.mpr ⟨ok_aload_n (i := 0) (k := 0) rfl (idL_45 (1687, .aload_n 0, 1) (List.mem_of_getElem? (i := 14) rfl)), List.forall_mem_cons.mpr ⟨ok_iload (i := 4) (idL_45 (1688, .iload 4, 2) (List.mem_of_getElem? (i := 15) rfl)), List.forall_mem_cons.mpr ⟨ok_iconst (n := 1) (v := 1) (by decide) (idL_45 (1690, .iconst 1, 1) (List.mem_of_getElem? (i := 16) rfl)), List.forall_mem_cons.mpr ⟨ok_iadd (idL_45 (1691, .iadd, 1) (List.mem_of_getElem? (i := 17) rfl)), List.forall_mem_cons.mpr ⟨ok_scd (idL_45 (1692, .iaload, 1) (List.mem_of_getElem? (i := 18) rfl)), List.forall_mem_cons.mpr ⟨ok_aload_n (i := 0) (k := 0) rfl (idL_45 (1693, .aload_n 0, 1) (List.mem_of_getElem? (i := 19) rfl)), List.forall_mem_cons.mpr ⟨ok_iload (i := 4) (idL_45 (1694, .iload 4, 2) (List.mem_of_getElem? (i := 20) rfl)), List.forall_mem_cons.mpr ⟨ok_iconst (n := 2) (v := 2) (by decide) (idL_45 (1696, .iconst 2, 1) (List.mem_of_getElem? (i := 21) rfl)), List.forall_mem_cons.mpr ⟨ok_iadd (idL_45 (1697, .iadd, 1) (List.mem_of_getElem? (i := 22) rfl)), List.forall_mem_cons.mpr ⟨ok_scd (idL_45 (1698, .iaload, 1) (List.mem_of_getElem? (i := 23) rfl)), List.forall_mem_cons.mpr ⟨ok_cv (c := 7) (T := TX7) (N := 44) cw_X7_give rfl (by decide) mlL_208 (idL_45 (1699, .invokevirtual 208, 3) (List.mem_of_getElem? (i := 24) rfl)), List.forall_mem_cons.mpr ⟨ok_pop (idL_45 (1702, .pop, 1) (List.mem_of_getElem? (i := 25) rfl)), List.forall_mem_cons.mpr ⟨ok_goto (t := 1885) (by decide) (idL_45 (1703, .goto 182, 3) (List.mem_of_getElem? (i := 26) rfl)), fun _ h => absurd h List.not_mem_nil⟩⟩⟩⟩⟩⟩⟩⟩⟩⟩⟩⟩⟩⟩⟩⟩⟩⟩⟩⟩⟩⟩⟩⟩⟩⟩⟩
noncomputable def ilL_46 : List (Nat × Instr × Nat) := [(1706, .aload_n 1, 1), (1707, .aload_n 0, 1), (1708, .iload 4, 2), (1710, .iconst 1, 1), (1711, .iadd, 1), (1712, .iaload, 1), (1713, .invokevirtual 209, 3), (1716, .pop, 1), (1717, .aload_n 2, 1), (1718, .aload_n 0, 1), (1719, .iload 4, 2), (1721, .iconst 1, 1), (1722, .iadd, 1), (1723, .iaload, 1), (1724, .invokevirtual 213, 3), (1727, .pop, 1), (1728, .goto 157, 3)]
theorem idL_46 : ∀ x ∈ ilL_46, decode cL_law x.1 = .ok x.2 := sq_ok (B := 1706) rfl (by decide +kernel : sqI cL_law 1706 (cL_law.data.toList.drop 1706) ilL_46 = true)
noncomputable def tbL_46 (l : Launch) (X : Nat × (Nat → Int32)) (d : Nat) (b : Nat × Nat) : List (Nat × OP) := [(1706, oAl 1706 1 1), (1707, oAl 1707 1 0), (1708, oIl 1708 2 4), (1710, oIc 1710 1 1), (1711, o2 1711 (fun x y => x + y)), (1712, oScd X 1712), (1713, oCv l X d 1713 uX6_mend 6 1), (1716, oPop 1716), (1717, oAl 1717 1 2), (1718, oAl 1718 1 0), (1719, oIl 1719 2 4), (1721, oIc 1721 1 1), (1722, o2 1722 (fun x y => x + y)), (1723, oScd X 1723), (1724, oCv l X d 1724 uX7_mend 7 1), (1727, oPop 1727), (1728, oGo 1885)]
set_option maxRecDepth 20000 in
theorem tkL_46 {l : Launch} {X : Nat × (Nat → Int32)} {d : Nat} {b : Nat × Nat} : ∀ x ∈ tbL_46 l X d b, OK l X uL (d + 1) false b x.1 x.2 :=
  List.forall_mem_cons.mpr ⟨ok_aload_n (i := 1) (k := 1) rfl (idL_46 (1706, .aload_n 1, 1) (List.mem_of_getElem? (i := 0) rfl)), List.forall_mem_cons.mpr ⟨ok_aload_n (i := 0) (k := 0) rfl (idL_46 (1707, .aload_n 0, 1) (List.mem_of_getElem? (i := 1) rfl)), List.forall_mem_cons.mpr ⟨ok_iload (i := 4) (idL_46 (1708, .iload 4, 2) (List.mem_of_getElem? (i := 2) rfl)), List.forall_mem_cons.mpr ⟨ok_iconst (n := 1) (v := 1) (by decide) (idL_46 (1710, .iconst 1, 1) (List.mem_of_getElem? (i := 3) rfl)), List.forall_mem_cons.mpr ⟨ok_iadd (idL_46 (1711, .iadd, 1) (List.mem_of_getElem? (i := 4) rfl)), List.forall_mem_cons.mpr ⟨ok_scd (idL_46 (1712, .iaload, 1) (List.mem_of_getElem? (i := 5) rfl)), List.forall_mem_cons.mpr ⟨ok_cv (c := 6) (T := TX6) (N := 14) cw_X6_mend rfl (by decide) mlL_209 (idL_46 (1713, .invokevirtual 209, 3) (List.mem_of_getElem? (i := 6) rfl)), List.forall_mem_cons.mpr ⟨ok_pop (idL_46 (1716, .pop, 1) (List.mem_of_getElem? (i := 7) rfl)), List.forall_mem_cons.mpr ⟨ok_aload_n (i := 2) (k := 2) rfl (idL_46 (1717, .aload_n 2, 1) (List.mem_of_getElem? (i := 8) rfl)), List.forall_mem_cons.mpr ⟨ok_aload_n (i := 0) (k := 0) rfl (idL_46 (1718, .aload_n 0, 1) (List.mem_of_getElem? (i := 9) rfl)), List.forall_mem_cons.mpr ⟨ok_iload (i := 4) (idL_46 (1719, .iload 4, 2) (List.mem_of_getElem? (i := 10) rfl)), List.forall_mem_cons.mpr ⟨ok_iconst (n := 1) (v := 1) (by decide) (idL_46 (1721, .iconst 1, 1) (List.mem_of_getElem? (i := 11) rfl)), List.forall_mem_cons.mpr ⟨ok_iadd (idL_46 (1722, .iadd, 1) (List.mem_of_getElem? (i := 12) rfl)), List.forall_mem_cons.mpr ⟨ok_scd (idL_46 (1723, .iaload, 1) (List.mem_of_getElem? (i := 13) rfl)), List.forall_mem_cons.mpr ⟨ok_cv (c := 7) (T := TX7) (N := 44) cw_X7_mend rfl (by decide) mlL_213 (idL_46 (1724, .invokevirtual 213, 3) (List.mem_of_getElem? (i := 14) rfl)), List.forall_mem_cons.mpr ⟨ok_pop (idL_46 (1727, .pop, 1) (List.mem_of_getElem? (i := 15) rfl)), List.forall_mem_cons.mpr ⟨ok_goto (t := 1885) (by decide) (idL_46 (1728, .goto 157, 3) (List.mem_of_getElem? (i := 16) rfl)), fun _ h => absurd h List.not_mem_nil⟩⟩⟩⟩⟩⟩⟩⟩⟩⟩⟩⟩⟩⟩⟩⟩⟩
noncomputable def ilL_47 : List (Nat × Instr × Nat) := [(1731, .aload_n 1, 1), (1732, .aload_n 0, 1), (1733, .iload 4, 2), (1735, .iconst 1, 1), (1736, .iadd, 1), (1737, .iaload, 1), (1738, .aload_n 0, 1), (1739, .iload 4, 2), (1741, .iconst 2, 1), (1742, .iadd, 1), (1743, .iaload, 1), (1744, .invokevirtual 214, 3), (1747, .pop, 1), (1748, .aload_n 2, 1), (1749, .aload_n 0, 1), (1750, .iload 4, 2), (1752, .iconst 1, 1), (1753, .iadd, 1), (1754, .iaload, 1), (1755, .aload_n 0, 1), (1756, .iload 4, 2), (1758, .iconst 2, 1), (1759, .iadd, 1), (1760, .iaload, 1), (1761, .invokevirtual 217, 3), (1764, .pop, 1), (1765, .goto 120, 3)]
theorem idL_47 : ∀ x ∈ ilL_47, decode cL_law x.1 = .ok x.2 := sq_ok (B := 1731) rfl (by decide +kernel : sqI cL_law 1731 (cL_law.data.toList.drop 1731) ilL_47 = true)
noncomputable def tbL_47 (l : Launch) (X : Nat × (Nat → Int32)) (d : Nat) (b : Nat × Nat) : List (Nat × OP) := [(1731, oAl 1731 1 1), (1732, oAl 1732 1 0), (1733, oIl 1733 2 4), (1735, oIc 1735 1 1), (1736, o2 1736 (fun x y => x + y)), (1737, oScd X 1737), (1738, oAl 1738 1 0), (1739, oIl 1739 2 4), (1741, oIc 1741 1 2), (1742, o2 1742 (fun x y => x + y)), (1743, oScd X 1743), (1744, oCv l X d 1744 uX6_vex 6 2), (1747, oPop 1747), (1748, oAl 1748 1 2), (1749, oAl 1749 1 0), (1750, oIl 1750 2 4), (1752, oIc 1752 1 1), (1753, o2 1753 (fun x y => x + y)), (1754, oScd X 1754), (1755, oAl 1755 1 0), (1756, oIl 1756 2 4), (1758, oIc 1758 1 2), (1759, o2 1759 (fun x y => x + y)), (1760, oScd X 1760), (1761, oCv l X d 1761 uX7_vex 7 2), (1764, oPop 1764), (1765, oGo 1885)]
set_option maxRecDepth 20000 in
theorem tkL_47 {l : Launch} {X : Nat × (Nat → Int32)} {d : Nat} {b : Nat × Nat} : ∀ x ∈ tbL_47 l X d b, OK l X uL (d + 1) false b x.1 x.2 :=
  List.forall_mem_cons.mpr ⟨ok_aload_n (i := 1) (k := 1) rfl (idL_47 (1731, .aload_n 1, 1) (List.mem_of_getElem? (i := 0) rfl)), List.forall_mem_cons.mpr ⟨ok_aload_n (i := 0) (k := 0) rfl (idL_47 (1732, .aload_n 0, 1) (List.mem_of_getElem? (i := 1) rfl)), List.forall_mem_cons.mpr ⟨ok_iload (i := 4) (idL_47 (1733, .iload 4, 2) (List.mem_of_getElem? (i := 2) rfl)), List.forall_mem_cons.mpr ⟨ok_iconst (n := 1) (v := 1) (by decide) (idL_47 (1735, .iconst 1, 1) (List.mem_of_getElem? (i := 3) rfl)), List.forall_mem_cons.mpr ⟨ok_iadd (idL_47 (1736, .iadd, 1) (List.mem_of_getElem? (i := 4) rfl)), List.forall_mem_cons.mpr ⟨ok_scd (idL_47 (1737, .iaload, 1) (List.mem_of_getElem? (i := 5) rfl)), List.forall_mem_cons.mpr ⟨ok_aload_n (i := 0) (k := 0) rfl (idL_47 (1738, .aload_n 0, 1) (List.mem_of_getElem? (i := 6) rfl)), List.forall_mem_cons.mpr ⟨ok_iload (i := 4) (idL_47 (1739, .iload 4, 2) (List.mem_of_getElem? (i := 7) rfl)), List.forall_mem_cons.mpr ⟨ok_iconst (n := 2) (v := 2) (by decide) (idL_47 (1741, .iconst 2, 1) (List.mem_of_getElem? (i := 8) rfl)), List.forall_mem_cons.mpr ⟨ok_iadd (idL_47 (1742, .iadd, 1) (List.mem_of_getElem? (i := 9) rfl)), List.forall_mem_cons.mpr ⟨ok_scd (idL_47 (1743, .iaload, 1) (List.mem_of_getElem? (i := 10) rfl)), List.forall_mem_cons.mpr ⟨ok_cv (c := 6) (T := TX6) (N := 14) cw_X6_vex rfl (by decide) mlL_214 (idL_47 (1744, .invokevirtual 214, 3) (List.mem_of_getElem? (i := 11) rfl)), List.forall_mem_cons.mpr ⟨ok_pop (idL_47 (1747, .pop, 1) (List.mem_of_getElem? (i := 12) rfl)), List.forall_mem_cons.mpr ⟨ok_aload_n (i := 2) (k := 2) rfl (idL_47 (1748, .aload_n 2, 1) (List.mem_of_getElem? (i := 13) rfl)), List.forall_mem_cons.mpr ⟨ok_aload_n (i := 0) (k := 0) rfl (idL_47 (1749, .aload_n 0, 1) (List.mem_of_getElem? (i := 14) rfl)), List.forall_mem_cons.mpr ⟨ok_iload (i := 4) (idL_47 (1750, .iload 4, 2) (List.mem_of_getElem? (i := 15) rfl)), List.forall_mem_cons.mpr ⟨ok_iconst (n := 1) (v := 1) (by decide) (idL_47 (1752, .iconst 1, 1) (List.mem_of_getElem? (i := 16) rfl)), List.forall_mem_cons.mpr ⟨ok_iadd (idL_47 (1753, .iadd, 1) (List.mem_of_getElem? (i := 17) rfl)), List.forall_mem_cons.mpr ⟨ok_scd (idL_47 (1754, .iaload, 1) (List.mem_of_getElem? (i := 18) rfl)), List.forall_mem_cons.mpr ⟨ok_aload_n (i := 0) (k := 0) rfl (idL_47 (1755, .aload_n 0, 1) (List.mem_of_getElem? (i := 19) rfl)), List.forall_mem_cons.mpr ⟨ok_iload (i := 4) (idL_47 (1756, .iload 4, 2) (List.mem_of_getElem? (i := 20) rfl)), List.forall_mem_cons.mpr ⟨ok_iconst (n := 2) (v := 2) (by decide) (idL_47 (1758, .iconst 2, 1) (List.mem_of_getElem? (i := 21) rfl)), List.forall_mem_cons.mpr ⟨ok_iadd (idL_47 (1759, .iadd, 1) (List.mem_of_getElem? (i := 22) rfl)), List.forall_mem_cons.mpr ⟨ok_scd (idL_47 (1760, .iaload, 1) (List.mem_of_getElem? (i := 23) rfl)), List.forall_mem_cons.mpr ⟨ok_cv (c := 7) (T := TX7) (N := 44) cw_X7_vex rfl (by decide) mlL_217 (idL_47 (1761, .invokevirtual 217, 3) (List.mem_of_getElem? (i := 24) rfl)), List.forall_mem_cons.mpr ⟨ok_pop (idL_47 (1764, .pop, 1) (List.mem_of_getElem? (i := 25) rfl)), List.forall_mem_cons.mpr ⟨ok_goto (t := 1885) (by decide) (idL_47 (1765, .goto 120, 3) (List.mem_of_getElem? (i := 26) rfl)), fun _ h => absurd h List.not_mem_nil⟩⟩⟩⟩⟩⟩⟩⟩⟩⟩⟩⟩⟩⟩⟩⟩⟩⟩⟩⟩⟩⟩⟩⟩⟩⟩⟩
noncomputable def ilL_48 : List (Nat × Instr × Nat) := [(1768, .aload_n 1, 1), (1769, .invokevirtual 218, 3), (1772, .pop, 1), (1773, .aload_n 2, 1), (1774, .invokevirtual 222, 3), (1777, .pop, 1), (1778, .goto 107, 3)]
theorem idL_48 : ∀ x ∈ ilL_48, decode cL_law x.1 = .ok x.2 := sq_ok (B := 1768) rfl (by decide +kernel : sqI cL_law 1768 (cL_law.data.toList.drop 1768) ilL_48 = true)
noncomputable def tbL_48 (l : Launch) (X : Nat × (Nat → Int32)) (d : Nat) (b : Nat × Nat) : List (Nat × OP) := [(1768, oAl 1768 1 1), (1769, oCv l X d 1769 uX6_undo 6 0), (1772, oPop 1772), (1773, oAl 1773 1 2), (1774, oCv l X d 1774 uX7_undo 7 0), (1777, oPop 1777), (1778, oGo 1885)]
set_option maxRecDepth 20000 in
theorem tkL_48 {l : Launch} {X : Nat × (Nat → Int32)} {d : Nat} {b : Nat × Nat} : ∀ x ∈ tbL_48 l X d b, OK l X uL (d + 1) false b x.1 x.2 :=
  List.forall_mem_cons.mpr ⟨ok_aload_n (i := 1) (k := 1) rfl (idL_48 (1768, .aload_n 1, 1) (List.mem_of_getElem? (i := 0) rfl)), List.forall_mem_cons.mpr ⟨ok_cv (c := 6) (T := TX6) (N := 14) cw_X6_undo rfl (by decide) mlL_218 (idL_48 (1769, .invokevirtual 218, 3) (List.mem_of_getElem? (i := 1) rfl)), List.forall_mem_cons.mpr ⟨ok_pop (idL_48 (1772, .pop, 1) (List.mem_of_getElem? (i := 2) rfl)), List.forall_mem_cons.mpr ⟨ok_aload_n (i := 2) (k := 2) rfl (idL_48 (1773, .aload_n 2, 1) (List.mem_of_getElem? (i := 3) rfl)), List.forall_mem_cons.mpr ⟨ok_cv (c := 7) (T := TX7) (N := 44) cw_X7_undo rfl (by decide) mlL_222 (idL_48 (1774, .invokevirtual 222, 3) (List.mem_of_getElem? (i := 4) rfl)), List.forall_mem_cons.mpr ⟨ok_pop (idL_48 (1777, .pop, 1) (List.mem_of_getElem? (i := 5) rfl)), List.forall_mem_cons.mpr ⟨ok_goto (t := 1885) (by decide) (idL_48 (1778, .goto 107, 3) (List.mem_of_getElem? (i := 6) rfl)), fun _ h => absurd h List.not_mem_nil⟩⟩⟩⟩⟩⟩⟩
noncomputable def ilL_49 : List (Nat × Instr × Nat) := [(1781, .aload_n 1, 1), (1782, .invokevirtual 223, 3), (1785, .pop, 1), (1786, .aload_n 2, 1), (1787, .invokevirtual 226, 3), (1790, .pop, 1), (1791, .goto 94, 3)]
theorem idL_49 : ∀ x ∈ ilL_49, decode cL_law x.1 = .ok x.2 := sq_ok (B := 1781) rfl (by decide +kernel : sqI cL_law 1781 (cL_law.data.toList.drop 1781) ilL_49 = true)
noncomputable def tbL_49 (l : Launch) (X : Nat × (Nat → Int32)) (d : Nat) (b : Nat × Nat) : List (Nat × OP) := [(1781, oAl 1781 1 1), (1782, oCv l X d 1782 uX6_image 6 0), (1785, oPop 1785), (1786, oAl 1786 1 2), (1787, oCv l X d 1787 uX7_image 7 0), (1790, oPop 1790), (1791, oGo 1885)]
set_option maxRecDepth 20000 in
theorem tkL_49 {l : Launch} {X : Nat × (Nat → Int32)} {d : Nat} {b : Nat × Nat} : ∀ x ∈ tbL_49 l X d b, OK l X uL (d + 1) false b x.1 x.2 :=
  List.forall_mem_cons.mpr ⟨ok_aload_n (i := 1) (k := 1) rfl (idL_49 (1781, .aload_n 1, 1) (List.mem_of_getElem? (i := 0) rfl)), List.forall_mem_cons.mpr ⟨ok_cv (c := 6) (T := TX6) (N := 14) cw_X6_image rfl (by decide) mlL_223 (idL_49 (1782, .invokevirtual 223, 3) (List.mem_of_getElem? (i := 1) rfl)), List.forall_mem_cons.mpr ⟨ok_pop (idL_49 (1785, .pop, 1) (List.mem_of_getElem? (i := 2) rfl)), List.forall_mem_cons.mpr ⟨ok_aload_n (i := 2) (k := 2) rfl (idL_49 (1786, .aload_n 2, 1) (List.mem_of_getElem? (i := 3) rfl)), List.forall_mem_cons.mpr ⟨ok_cv (c := 7) (T := TX7) (N := 44) cw_X7_image rfl (by decide) mlL_226 (idL_49 (1787, .invokevirtual 226, 3) (List.mem_of_getElem? (i := 4) rfl)), List.forall_mem_cons.mpr ⟨ok_pop (idL_49 (1790, .pop, 1) (List.mem_of_getElem? (i := 5) rfl)), List.forall_mem_cons.mpr ⟨ok_goto (t := 1885) (by decide) (idL_49 (1791, .goto 94, 3) (List.mem_of_getElem? (i := 6) rfl)), fun _ h => absurd h List.not_mem_nil⟩⟩⟩⟩⟩⟩⟩
noncomputable def ilL_50 : List (Nat × Instr × Nat) := [(1794, .aload_n 1, 1), (1795, .aload_n 0, 1), (1796, .iload 4, 2), (1798, .iconst 1, 1), (1799, .iadd, 1), (1800, .iaload, 1), (1801, .invokevirtual 227, 3), (1804, .pop, 1), (1805, .aload_n 2, 1), (1806, .aload_n 0, 1), (1807, .iload 4, 2), (1809, .iconst 1, 1), (1810, .iadd, 1), (1811, .iaload, 1), (1812, .invokevirtual 230, 3), (1815, .pop, 1), (1816, .goto 69, 3)]
theorem idL_50 : ∀ x ∈ ilL_50, decode cL_law x.1 = .ok x.2 := sq_ok (B := 1794) rfl (by decide +kernel : sqI cL_law 1794 (cL_law.data.toList.drop 1794) ilL_50 = true)
noncomputable def tbL_50 (l : Launch) (X : Nat × (Nat → Int32)) (d : Nat) (b : Nat × Nat) : List (Nat × OP) := [(1794, oAl 1794 1 1), (1795, oAl 1795 1 0), (1796, oIl 1796 2 4), (1798, oIc 1798 1 1), (1799, o2 1799 (fun x y => x + y)), (1800, oScd X 1800), (1801, oCv l X d 1801 uX6_back 6 1), (1804, oPop 1804), (1805, oAl 1805 1 2), (1806, oAl 1806 1 0), (1807, oIl 1807 2 4), (1809, oIc 1809 1 1), (1810, o2 1810 (fun x y => x + y)), (1811, oScd X 1811), (1812, oCv l X d 1812 uX7_back 7 1), (1815, oPop 1815), (1816, oGo 1885)]
set_option maxRecDepth 20000 in
theorem tkL_50 {l : Launch} {X : Nat × (Nat → Int32)} {d : Nat} {b : Nat × Nat} : ∀ x ∈ tbL_50 l X d b, OK l X uL (d + 1) false b x.1 x.2 :=
  List.forall_mem_cons.mpr ⟨ok_aload_n (i := 1) (k := 1) rfl (idL_50 (1794, .aload_n 1, 1) (List.mem_of_getElem? (i := 0) rfl)), List.forall_mem_cons.mpr ⟨ok_aload_n (i := 0) (k := 0) rfl (idL_50 (1795, .aload_n 0, 1) (List.mem_of_getElem? (i := 1) rfl)), List.forall_mem_cons.mpr ⟨ok_iload (i := 4) (idL_50 (1796, .iload 4, 2) (List.mem_of_getElem? (i := 2) rfl)), List.forall_mem_cons.mpr ⟨ok_iconst (n := 1) (v := 1) (by decide) (idL_50 (1798, .iconst 1, 1) (List.mem_of_getElem? (i := 3) rfl)), List.forall_mem_cons.mpr ⟨ok_iadd (idL_50 (1799, .iadd, 1) (List.mem_of_getElem? (i := 4) rfl)), List.forall_mem_cons.mpr ⟨ok_scd (idL_50 (1800, .iaload, 1) (List.mem_of_getElem? (i := 5) rfl)), List.forall_mem_cons.mpr ⟨ok_cv (c := 6) (T := TX6) (N := 14) cw_X6_back rfl (by decide) mlL_227 (idL_50 (1801, .invokevirtual 227, 3) (List.mem_of_getElem? (i := 6) rfl)), List.forall_mem_cons.mpr ⟨ok_pop (idL_50 (1804, .pop, 1) (List.mem_of_getElem? (i := 7) rfl)), List.forall_mem_cons.mpr ⟨ok_aload_n (i := 2) (k := 2) rfl (idL_50 (1805, .aload_n 2, 1) (List.mem_of_getElem? (i := 8) rfl)), List.forall_mem_cons.mpr ⟨ok_aload_n (i := 0) (k := 0) rfl (idL_50 (1806, .aload_n 0, 1) (List.mem_of_getElem? (i := 9) rfl)), List.forall_mem_cons.mpr ⟨ok_iload (i := 4) (idL_50 (1807, .iload 4, 2) (List.mem_of_getElem? (i := 10) rfl)), List.forall_mem_cons.mpr ⟨ok_iconst (n := 1) (v := 1) (by decide) (idL_50 (1809, .iconst 1, 1) (List.mem_of_getElem? (i := 11) rfl)), List.forall_mem_cons.mpr ⟨ok_iadd (idL_50 (1810, .iadd, 1) (List.mem_of_getElem? (i := 12) rfl)), List.forall_mem_cons.mpr ⟨ok_scd (idL_50 (1811, .iaload, 1) (List.mem_of_getElem? (i := 13) rfl)), List.forall_mem_cons.mpr ⟨ok_cv (c := 7) (T := TX7) (N := 44) cw_X7_back rfl (by decide) mlL_230 (idL_50 (1812, .invokevirtual 230, 3) (List.mem_of_getElem? (i := 14) rfl)), List.forall_mem_cons.mpr ⟨ok_pop (idL_50 (1815, .pop, 1) (List.mem_of_getElem? (i := 15) rfl)), List.forall_mem_cons.mpr ⟨ok_goto (t := 1885) (by decide) (idL_50 (1816, .goto 69, 3) (List.mem_of_getElem? (i := 16) rfl)), fun _ h => absurd h List.not_mem_nil⟩⟩⟩⟩⟩⟩⟩⟩⟩⟩⟩⟩⟩⟩⟩⟩⟩
noncomputable def ilL_51 : List (Nat × Instr × Nat) := [(1819, .aload_n 1, 1), (1820, .aload_n 0, 1), (1821, .iload 4, 2), (1823, .iconst 1, 1), (1824, .iadd, 1), (1825, .iaload, 1), (1826, .aload_n 3, 1), (1827, .invokestatic 231, 3), (1830, .istore 5, 2), (1832, .aload_n 2, 1), (1833, .aload_n 0, 1), (1834, .iload 4, 2), (1836, .iconst 1, 1), (1837, .iadd, 1), (1838, .iaload, 1), (1839, .invokevirtual 236, 3), (1842, .istore 6, 2), (1844, .goto 41, 3)]
theorem idL_51 : ∀ x ∈ ilL_51, decode cL_law x.1 = .ok x.2 := sq_ok (B := 1819) rfl (by decide +kernel : sqI cL_law 1819 (cL_law.data.toList.drop 1819) ilL_51 = true)
noncomputable def tbL_51 (l : Launch) (X : Nat × (Nat → Int32)) (d : Nat) (b : Nat × Nat) : List (Nat × OP) := [(1819, oAl 1819 1 1), (1820, oAl 1820 1 0), (1821, oIl 1821 2 4), (1823, oIc 1823 1 1), (1824, o2 1824 (fun x y => x + y)), (1825, oScd X 1825), (1826, oAl 1826 1 3), (1827, oCl l X d b 1827), (1830, oIs 1830 2 5), (1832, oAl 1832 1 2), (1833, oAl 1833 1 0), (1834, oIl 1834 2 4), (1836, oIc 1836 1 1), (1837, o2 1837 (fun x y => x + y)), (1838, oScd X 1838), (1839, oCv l X d 1839 uX7_led 7 1), (1842, oIs 1842 2 6), (1844, oGo 1885)]
set_option maxRecDepth 20000 in
theorem tkL_51 {l : Launch} {X : Nat × (Nat → Int32)} {d : Nat} {b : Nat × Nat} : ∀ x ∈ tbL_51 l X d b, OK l X uL (d + 1) false b x.1 x.2 :=
  List.forall_mem_cons.mpr ⟨ok_aload_n (i := 1) (k := 1) rfl (idL_51 (1819, .aload_n 1, 1) (List.mem_of_getElem? (i := 0) rfl)), List.forall_mem_cons.mpr ⟨ok_aload_n (i := 0) (k := 0) rfl (idL_51 (1820, .aload_n 0, 1) (List.mem_of_getElem? (i := 1) rfl)), List.forall_mem_cons.mpr ⟨ok_iload (i := 4) (idL_51 (1821, .iload 4, 2) (List.mem_of_getElem? (i := 2) rfl)), List.forall_mem_cons.mpr ⟨ok_iconst (n := 1) (v := 1) (by decide) (idL_51 (1823, .iconst 1, 1) (List.mem_of_getElem? (i := 3) rfl)), List.forall_mem_cons.mpr ⟨ok_iadd (idL_51 (1824, .iadd, 1) (List.mem_of_getElem? (i := 4) rfl)), List.forall_mem_cons.mpr ⟨ok_scd (idL_51 (1825, .iaload, 1) (List.mem_of_getElem? (i := 5) rfl)), List.forall_mem_cons.mpr ⟨ok_aload_n (i := 3) (k := 3) rfl (idL_51 (1826, .aload_n 3, 1) (List.mem_of_getElem? (i := 6) rfl)), List.forall_mem_cons.mpr ⟨ok_cl (idL_51 (1827, .invokestatic 231, 3) (List.mem_of_getElem? (i := 7) rfl)), List.forall_mem_cons.mpr ⟨ok_istore (i := 5) (by decide) (idL_51 (1830, .istore 5, 2) (List.mem_of_getElem? (i := 8) rfl)), List.forall_mem_cons.mpr ⟨ok_aload_n (i := 2) (k := 2) rfl (idL_51 (1832, .aload_n 2, 1) (List.mem_of_getElem? (i := 9) rfl)), List.forall_mem_cons.mpr ⟨ok_aload_n (i := 0) (k := 0) rfl (idL_51 (1833, .aload_n 0, 1) (List.mem_of_getElem? (i := 10) rfl)), List.forall_mem_cons.mpr ⟨ok_iload (i := 4) (idL_51 (1834, .iload 4, 2) (List.mem_of_getElem? (i := 11) rfl)), List.forall_mem_cons.mpr ⟨ok_iconst (n := 1) (v := 1) (by decide) (idL_51 (1836, .iconst 1, 1) (List.mem_of_getElem? (i := 12) rfl)), List.forall_mem_cons.mpr ⟨ok_iadd (idL_51 (1837, .iadd, 1) (List.mem_of_getElem? (i := 13) rfl)), List.forall_mem_cons.mpr ⟨ok_scd (idL_51 (1838, .iaload, 1) (List.mem_of_getElem? (i := 14) rfl)), List.forall_mem_cons.mpr ⟨ok_cv (c := 7) (T := TX7) (N := 44) cw_X7_led rfl (by decide) mlL_236 (idL_51 (1839, .invokevirtual 236, 3) (List.mem_of_getElem? (i := 15) rfl)), List.forall_mem_cons.mpr ⟨ok_istore (i := 6) (by decide) (idL_51 (1842, .istore 6, 2) (List.mem_of_getElem? (i := 16) rfl)), List.forall_mem_cons.mpr ⟨ok_goto (t := 1885) (by decide) (idL_51 (1844, .goto 41, 3) (List.mem_of_getElem? (i := 17) rfl)), fun _ h => absurd h List.not_mem_nil⟩⟩⟩⟩⟩⟩⟩⟩⟩⟩⟩⟩⟩⟩⟩⟩⟩⟩
noncomputable def ilL_52 : List (Nat × Instr × Nat) := [(1847, .aload_n 1, 1), (1848, .aload_n 0, 1), (1849, .iload 4, 2), (1851, .iconst 1, 1), (1852, .iadd, 1), (1853, .iaload, 1), (1854, .invokevirtual 237, 3), (1857, .pop, 1), (1858, .aload_n 2, 1), (1859, .aload_n 0, 1), (1860, .iload 4, 2), (1862, .iconst 1, 1), (1863, .iadd, 1), (1864, .iaload, 1), (1865, .invokevirtual 240, 3), (1868, .pop, 1), (1869, .goto 16, 3)]
theorem idL_52 : ∀ x ∈ ilL_52, decode cL_law x.1 = .ok x.2 := sq_ok (B := 1847) rfl (by decide +kernel : sqI cL_law 1847 (cL_law.data.toList.drop 1847) ilL_52 = true)
noncomputable def tbL_52 (l : Launch) (X : Nat × (Nat → Int32)) (d : Nat) (b : Nat × Nat) : List (Nat × OP) := [(1847, oAl 1847 1 1), (1848, oAl 1848 1 0), (1849, oIl 1849 2 4), (1851, oIc 1851 1 1), (1852, o2 1852 (fun x y => x + y)), (1853, oScd X 1853), (1854, oCv l X d 1854 uX6_size 6 1), (1857, oPop 1857), (1858, oAl 1858 1 2), (1859, oAl 1859 1 0), (1860, oIl 1860 2 4), (1862, oIc 1862 1 1), (1863, o2 1863 (fun x y => x + y)), (1864, oScd X 1864), (1865, oCv l X d 1865 uX7_size 7 1), (1868, oPop 1868), (1869, oGo 1885)]
set_option maxRecDepth 20000 in
theorem tkL_52 {l : Launch} {X : Nat × (Nat → Int32)} {d : Nat} {b : Nat × Nat} : ∀ x ∈ tbL_52 l X d b, OK l X uL (d + 1) false b x.1 x.2 :=
  List.forall_mem_cons.mpr ⟨ok_aload_n (i := 1) (k := 1) rfl (idL_52 (1847, .aload_n 1, 1) (List.mem_of_getElem? (i := 0) rfl)), List.forall_mem_cons.mpr ⟨ok_aload_n (i := 0) (k := 0) rfl (idL_52 (1848, .aload_n 0, 1) (List.mem_of_getElem? (i := 1) rfl)), List.forall_mem_cons.mpr ⟨ok_iload (i := 4) (idL_52 (1849, .iload 4, 2) (List.mem_of_getElem? (i := 2) rfl)), List.forall_mem_cons.mpr ⟨ok_iconst (n := 1) (v := 1) (by decide) (idL_52 (1851, .iconst 1, 1) (List.mem_of_getElem? (i := 3) rfl)), List.forall_mem_cons.mpr ⟨ok_iadd (idL_52 (1852, .iadd, 1) (List.mem_of_getElem? (i := 4) rfl)), List.forall_mem_cons.mpr ⟨ok_scd (idL_52 (1853, .iaload, 1) (List.mem_of_getElem? (i := 5) rfl)), List.forall_mem_cons.mpr ⟨ok_cv (c := 6) (T := TX6) (N := 14) cw_X6_size rfl (by decide) mlL_237 (idL_52 (1854, .invokevirtual 237, 3) (List.mem_of_getElem? (i := 6) rfl)), List.forall_mem_cons.mpr ⟨ok_pop (idL_52 (1857, .pop, 1) (List.mem_of_getElem? (i := 7) rfl)), List.forall_mem_cons.mpr ⟨ok_aload_n (i := 2) (k := 2) rfl (idL_52 (1858, .aload_n 2, 1) (List.mem_of_getElem? (i := 8) rfl)), List.forall_mem_cons.mpr ⟨ok_aload_n (i := 0) (k := 0) rfl (idL_52 (1859, .aload_n 0, 1) (List.mem_of_getElem? (i := 9) rfl)), List.forall_mem_cons.mpr ⟨ok_iload (i := 4) (idL_52 (1860, .iload 4, 2) (List.mem_of_getElem? (i := 10) rfl)), List.forall_mem_cons.mpr ⟨ok_iconst (n := 1) (v := 1) (by decide) (idL_52 (1862, .iconst 1, 1) (List.mem_of_getElem? (i := 11) rfl)), List.forall_mem_cons.mpr ⟨ok_iadd (idL_52 (1863, .iadd, 1) (List.mem_of_getElem? (i := 12) rfl)), List.forall_mem_cons.mpr ⟨ok_scd (idL_52 (1864, .iaload, 1) (List.mem_of_getElem? (i := 13) rfl)), List.forall_mem_cons.mpr ⟨ok_cv (c := 7) (T := TX7) (N := 44) cw_X7_size rfl (by decide) mlL_240 (idL_52 (1865, .invokevirtual 240, 3) (List.mem_of_getElem? (i := 14) rfl)), List.forall_mem_cons.mpr ⟨ok_pop (idL_52 (1868, .pop, 1) (List.mem_of_getElem? (i := 15) rfl)), List.forall_mem_cons.mpr ⟨ok_goto (t := 1885) (by decide) (idL_52 (1869, .goto 16, 3) (List.mem_of_getElem? (i := 16) rfl)), fun _ h => absurd h List.not_mem_nil⟩⟩⟩⟩⟩⟩⟩⟩⟩⟩⟩⟩⟩⟩⟩⟩⟩
noncomputable def ilL_53 : List (Nat × Instr × Nat) := [(1872, .aload_n 1, 1), (1873, .invokevirtual 241, 3), (1876, .pop, 1), (1877, .aload_n 2, 1), (1878, .invokevirtual 244, 3), (1881, .pop, 1), (1882, .goto 3, 3)]
theorem idL_53 : ∀ x ∈ ilL_53, decode cL_law x.1 = .ok x.2 := sq_ok (B := 1872) rfl (by decide +kernel : sqI cL_law 1872 (cL_law.data.toList.drop 1872) ilL_53 = true)
noncomputable def tbL_53 (l : Launch) (X : Nat × (Nat → Int32)) (d : Nat) (b : Nat × Nat) : List (Nat × OP) := [(1872, oAl 1872 1 1), (1873, oCv l X d 1873 uX6_trouble 6 0), (1876, oPop 1876), (1877, oAl 1877 1 2), (1878, oCv l X d 1878 uX7_trouble 7 0), (1881, oPop 1881), (1882, oGo 1885)]
set_option maxRecDepth 20000 in
theorem tkL_53 {l : Launch} {X : Nat × (Nat → Int32)} {d : Nat} {b : Nat × Nat} : ∀ x ∈ tbL_53 l X d b, OK l X uL (d + 1) false b x.1 x.2 :=
  List.forall_mem_cons.mpr ⟨ok_aload_n (i := 1) (k := 1) rfl (idL_53 (1872, .aload_n 1, 1) (List.mem_of_getElem? (i := 0) rfl)), List.forall_mem_cons.mpr ⟨ok_cv (c := 6) (T := TX6) (N := 14) cw_X6_trouble rfl (by decide) mlL_241 (idL_53 (1873, .invokevirtual 241, 3) (List.mem_of_getElem? (i := 1) rfl)), List.forall_mem_cons.mpr ⟨ok_pop (idL_53 (1876, .pop, 1) (List.mem_of_getElem? (i := 2) rfl)), List.forall_mem_cons.mpr ⟨ok_aload_n (i := 2) (k := 2) rfl (idL_53 (1877, .aload_n 2, 1) (List.mem_of_getElem? (i := 3) rfl)), List.forall_mem_cons.mpr ⟨ok_cv (c := 7) (T := TX7) (N := 44) cw_X7_trouble rfl (by decide) mlL_244 (idL_53 (1878, .invokevirtual 244, 3) (List.mem_of_getElem? (i := 4) rfl)), List.forall_mem_cons.mpr ⟨ok_pop (idL_53 (1881, .pop, 1) (List.mem_of_getElem? (i := 5) rfl)), List.forall_mem_cons.mpr ⟨ok_goto (t := 1885) (by decide) (idL_53 (1882, .goto 3, 3) (List.mem_of_getElem? (i := 6) rfl)), fun _ h => absurd h List.not_mem_nil⟩⟩⟩⟩⟩⟩⟩
noncomputable def ilL_T : List (Nat × Instr × Nat) := [(1885, .iinc 4 6, 3), (1888, .goto (-1865), 3), (1891, .iconst 1, 1), (1892, .ireturn, 1)]
theorem idL_T : ∀ x ∈ ilL_T, decode cL_law x.1 = .ok x.2 := sq_ok (B := 1885) rfl (by decide +kernel : sqI cL_law 1885 (cL_law.data.toList.drop 1885) ilL_T = true)
noncomputable def tbL_T (l : Launch) (X : Nat × (Nat → Int32)) (d : Nat) (b : Nat × Nat) : List (Nat × OP) := [(1885, oInc 1885 4 6), (1888, oGo 23), (1891, oIc 1891 1 1), (1892, oZr)]
set_option maxRecDepth 20000 in
theorem tkL_T {l : Launch} {X : Nat × (Nat → Int32)} {d : Nat} {b : Nat × Nat} : ∀ x ∈ tbL_T l X d b, OK l X uL (d + 1) false b x.1 x.2 :=
  List.forall_mem_cons.mpr ⟨ok_iinc (n := 6) (v := 6) (by decide) (by decide) (idL_T (1885, .iinc 4 6, 3) (List.mem_of_getElem? (i := 0) rfl)), List.forall_mem_cons.mpr ⟨ok_goto (t := 23) (by decide) (idL_T (1888, .goto (-1865), 3) (List.mem_of_getElem? (i := 1) rfl)), List.forall_mem_cons.mpr ⟨ok_iconst (n := 1) (v := 1) (by decide) (idL_T (1891, .iconst 1, 1) (List.mem_of_getElem? (i := 2) rfl)), List.forall_mem_cons.mpr ⟨ok_zr rfl (idL_T (1892, .ireturn, 1) (List.mem_of_getElem? (i := 3) rfl)), fun _ h => absurd h List.not_mem_nil⟩⟩⟩⟩
end
section
/-! the law's script, counters, states -/
section LAWV
variable {i n : Nat} {M M' : Mm}
theorem vi1 (h : i + 6 ≤ n) (hn : n ≤ 3072) : vp_in (nI i + 1) n := by
  rw [show (nI i + 1 : Int32) = nI (i + 1) from nI_add i 1]
  exact vp_in_nI (by omega) (by omega)
theorem vi2 (h : i + 6 ≤ n) (hn : n ≤ 3072) : vp_in (nI i + 2) n := by
  rw [show (nI i + 2 : Int32) = nI (i + 2) from nI_add i 2]
  exact vp_in_nI (by omega) (by omega)
theorem vi3 (h : i + 6 ≤ n) (hn : n ≤ 3072) : vp_in (nI i + 3) n := by
  rw [show (nI i + 3 : Int32) = nI (i + 3) from nI_add i 3]
  exact vp_in_nI (by omega) (by omega)
theorem vi4 (h : i + 6 ≤ n) (hn : n ≤ 3072) : vp_in (nI i + 4) n := by
  rw [show (nI i + 4 : Int32) = nI (i + 4) from nI_add i 4]
  exact vp_in_nI (by omega) (by omega)
theorem vi5 (h : i + 6 ≤ n) (hn : n ≤ 3072) : vp_in (nI i + 5) n := by
  rw [show (nI i + 5 : Int32) = nI (i + 5) from nI_add i 5]
  exact vp_in_nI (by omega) (by omega)
theorem vi0 (h : i + 6 ≤ n) (hn : n ≤ 3072) : vp_in (nI i) n := vp_in_nI (by omega) (by omega)
theorem mC_1 (h : M'.1 = M.1) : mC M' = mC M := congrArg (fun x => x.2.1) h
theorem mS_1 (h : M'.1 = M.1) : mS M' = mS M := congrArg (fun x => x.2.2.1) h
noncomputable def bz (x : Int32) : Int32 := if x = 0 then 0 else 1
theorem bz_0 {x : Int32} (h : x = 0) : bz x = 0 := if_pos h
theorem bz_1 {x : Int32} (h : ¬ x = 0) : bz x = 1 := if_neg h
theorem LX_gw (h : LX M) : LX (gw M) := h
theorem LX_wL {a j : Nat} {w : Int64} (h : LX M) : LX (wL M a j w) := h
theorem rj_LS (hN : 167 ≤ mN M) (hC : mC M + 1 ≤ 1000) (hS : mS M + 6 ≤ 10000) : rj (1000, 10000) M [(0, .ref 4999), (1, .ref 1), (2, .ref 150), (3, .ref 167), (4, .int (nI i))] [] 1 6 = true := by
  have e : ∀ a : Nat, a ≤ 167 → rk (mN M) (.ref a) = true := fun a ha => by
    show (Nat.ble a (mN M) || Nat.ble 4999 a) = true
    rw [Nat.ble_eq_true_of_le (show a ≤ mN M by omega)]
    rfl
  have e9 : rk (mN M) (.ref 4999) = true := by
    show (Nat.ble 4999 (mN M) || true) = true
    exact Bool.or_true _
  refine Bool.and_eq_true_iff.mpr ⟨rfl, Bool.and_eq_true_iff.mpr ⟨?_, Bool.and_eq_true_iff.mpr ⟨rfl, Bool.and_eq_true_iff.mpr ⟨Nat.ble_eq_true_of_le hC, Nat.ble_eq_true_of_le hS⟩⟩⟩⟩
  exact Bool.and_eq_true_iff.mpr ⟨e9, Bool.and_eq_true_iff.mpr ⟨e 1 (by decide), Bool.and_eq_true_iff.mpr ⟨e 150 (by decide), Bool.and_eq_true_iff.mpr ⟨e 167 (by decide), rfl⟩⟩⟩⟩
theorem hd_small : ∀ n : Nat, n < 6 → ∀ i : Nat, i < 6 → (nI n - 6 : Int32) < nI i := by decide
theorem hd_gt (hi : i ≤ n) (hn : n ≤ 3072) : (nI n - 6 : Int32) < nI i ↔ n < i + 6 := by
  by_cases h6 : 6 ≤ n
  · have e : (nI n - 6 : Int32) = nI (n - 6) := by
      have z : nI (n - 6) + 6 = nI n := by
        rw [show (nI (n - 6) + 6 : Int32) = nI (n - 6 + 6) from nI_add (n - 6) 6, Nat.sub_add_cancel h6]
      rw [← z]
      exact Int32.add_sub_cancel _ _
    rw [e, nI_ltI (by omega) (by omega)]
    omega
  · exact ⟨fun _ => by omega, fun _ => hd_small n (by omega) i (by omega)⟩
end LAWV
end
section
/-! the law's cases over its states -/
section LAWC
variable {l : Launch} {xs : Nat → Int32} {kr : KR} {i n : Nat} {M : Mm}
set_option maxRecDepth 20000 in
theorem lawc_0 (hi : i + 6 ≤ n) (hn : n ≤ 3072) (hL0 : LX M) (h : ∀ M', LX M' → mC M' ≤ mC M + 1 → mS M' ≤ mS M + 6 → Wf l (n, xs) uL 20 false (1000, 10000) 1885 [(0, .ref 4999), (1, .ref 1), (2, .ref 150), (3, .ref 167), (4, .int (nI i))] [] M' kr) : Wf l (n, xs) uL 20 false (1000, 10000) 272 [(0, .ref 4999), (1, .ref 1), (2, .ref 150), (3, .ref 167), (4, .int (nI i))] [] M kr := by
  have c00 : mC M ≤ mC M + 1 := Nat.le_succ _
  have s00 : mS M ≤ mS M + 6 := Nat.le_add_right _ _
  obtain ⟨lp, ⟨t, b, ht, t6, t7⟩, ft⟩ := hL0.q
  refine Wf.sAl (tkL_0 (d := 19)) rfl rfl rfl ?_
  refine Wf.sAl (tkL_0 (d := 19)) rfl rfl rfl ?_
  refine Wf.sIl (tkL_0 (d := 19)) rfl rfl ?_
  refine Wf.sIc (tkL_0 (d := 19)) rfl ?_
  refine Wf.s2 (tkL_0 (d := 19)) rfl ?_
  refine Wf.sScd (tkL_0 (d := 19)) rfl (vi1 hi hn) ?_
  show Wf l (n, xs) uL 20 false (1000, 10000) 279 [(0, .ref 4999), (1, .ref 1), (2, .ref 150), (3, .ref 167), (4, .int (nI i))] [.int (xs (nI i + 1 : Int32).toNatClampNeg), .ref 1] M kr
  refine Wf.sAl (tkL_0 (d := 19)) rfl rfl rfl ?_
  refine Wf.sIl (tkL_0 (d := 19)) rfl rfl ?_
  refine Wf.sIc (tkL_0 (d := 19)) rfl ?_
  refine Wf.s2 (tkL_0 (d := 19)) rfl ?_
  refine Wf.sScd (tkL_0 (d := 19)) rfl (vi2 hi hn) ?_
  show Wf l (n, xs) uL 20 false (1000, 10000) 285 [(0, .ref 4999), (1, .ref 1), (2, .ref 150), (3, .ref 167), (4, .int (nI i))] [.int (xs (nI i + 2 : Int32).toNatClampNeg), .int (xs (nI i + 1 : Int32).toNatClampNeg), .ref 1] M kr
  refine Wf.sAl (tkL_0 (d := 19)) rfl rfl rfl ?_
  refine Wf.sIl (tkL_0 (d := 19)) rfl rfl ?_
  refine Wf.sIc (tkL_0 (d := 19)) rfl ?_
  refine Wf.s2 (tkL_0 (d := 19)) rfl ?_
  refine Wf.sScd (tkL_0 (d := 19)) rfl (vi3 hi hn) ?_
  show Wf l (n, xs) uL 20 false (1000, 10000) 291 [(0, .ref 4999), (1, .ref 1), (2, .ref 150), (3, .ref 167), (4, .int (nI i))] [.int (xs (nI i + 3 : Int32).toNatClampNeg), .int (xs (nI i + 2 : Int32).toNatClampNeg), .int (xs (nI i + 1 : Int32).toNatClampNeg), .ref 1] M kr
  refine Wf.sAl (tkL_0 (d := 19)) rfl rfl rfl ?_
  refine Wf.sIl (tkL_0 (d := 19)) rfl rfl ?_
  refine Wf.sIc (tkL_0 (d := 19)) rfl ?_
  refine Wf.s2 (tkL_0 (d := 19)) rfl ?_
  refine Wf.sScd (tkL_0 (d := 19)) rfl (vi4 hi hn) ?_
  show Wf l (n, xs) uL 20 false (1000, 10000) 297 [(0, .ref 4999), (1, .ref 1), (2, .ref 150), (3, .ref 167), (4, .int (nI i))] [.int (xs (nI i + 4 : Int32).toNatClampNeg), .int (xs (nI i + 3 : Int32).toNatClampNeg), .int (xs (nI i + 2 : Int32).toNatClampNeg), .int (xs (nI i + 1 : Int32).toNatClampNeg), .ref 1] M kr
  refine Wf.sAl (tkL_0 (d := 19)) rfl rfl rfl ?_
  refine Wf.sIl (tkL_0 (d := 19)) rfl rfl ?_
  refine Wf.sIc (tkL_0 (d := 19)) rfl ?_
  refine Wf.s2 (tkL_0 (d := 19)) rfl ?_
  refine Wf.sScd (tkL_0 (d := 19)) rfl (vi5 hi hn) ?_
  show Wf l (n, xs) uL 20 false (1000, 10000) 303 [(0, .ref 4999), (1, .ref 1), (2, .ref 150), (3, .ref 167), (4, .int (nI i))] [.int (xs (nI i + 5 : Int32).toNatClampNeg), .int (xs (nI i + 4 : Int32).toNatClampNeg), .int (xs (nI i + 3 : Int32).toNatClampNeg), .int (xs (nI i + 2 : Int32).toNatClampNeg), .int (xs (nI i + 1 : Int32).toNatClampNeg), .ref 1] M kr
  refine Wf.sCv (as := [.int (xs (nI i + 1 : Int32).toNatClampNeg), .int (xs (nI i + 2 : Int32).toNatClampNeg), .int (xs (nI i + 3 : Int32).toNatClampNeg), .int (xs (nI i + 4 : Int32).toNatClampNeg), .int (xs (nI i + 5 : Int32).toNatClampNeg)]) (rest := []) (tkL_0 (d := 19)) rfl rfl (kk_ok lp.1 rfl) rfl ?_
  refine j6_feed 7 lp t6 ht (fun M1 hL2 e3 k6 t61 => ?_)
  have t71 := T7_6 t7 k6 rfl (fun _ => rfl)
  have c6 : mC M1 ≤ mC M + 1 := by rw [mC_1 e3]; exact c00
  have s7 : mS M1 ≤ mS M + 6 := by rw [mS_1 e3]; exact s00
  show Wf l (n, xs) uL 20 false (1000, 10000) 306 [(0, .ref 4999), (1, .ref 1), (2, .ref 150), (3, .ref 167), (4, .int (nI i))] [.int (fdR t)] M1 kr
  refine Wf.sPop (tkL_0 (d := 19)) rfl rfl ?_
  refine Wf.sAl (tkL_0 (d := 19)) rfl rfl rfl ?_
  refine Wf.sAl (tkL_0 (d := 19)) rfl rfl rfl ?_
  refine Wf.sIl (tkL_0 (d := 19)) rfl rfl ?_
  refine Wf.sIc (tkL_0 (d := 19)) rfl ?_
  refine Wf.s2 (tkL_0 (d := 19)) rfl ?_
  refine Wf.sScd (tkL_0 (d := 19)) rfl (vi1 hi hn) ?_
  show Wf l (n, xs) uL 20 false (1000, 10000) 314 [(0, .ref 4999), (1, .ref 1), (2, .ref 150), (3, .ref 167), (4, .int (nI i))] [.int (xs (nI i + 1 : Int32).toNatClampNeg), .ref 150] M1 kr
  refine Wf.sAl (tkL_0 (d := 19)) rfl rfl rfl ?_
  refine Wf.sIl (tkL_0 (d := 19)) rfl rfl ?_
  refine Wf.sIc (tkL_0 (d := 19)) rfl ?_
  refine Wf.s2 (tkL_0 (d := 19)) rfl ?_
  refine Wf.sScd (tkL_0 (d := 19)) rfl (vi2 hi hn) ?_
  show Wf l (n, xs) uL 20 false (1000, 10000) 320 [(0, .ref 4999), (1, .ref 1), (2, .ref 150), (3, .ref 167), (4, .int (nI i))] [.int (xs (nI i + 2 : Int32).toNatClampNeg), .int (xs (nI i + 1 : Int32).toNatClampNeg), .ref 150] M1 kr
  refine Wf.sAl (tkL_0 (d := 19)) rfl rfl rfl ?_
  refine Wf.sIl (tkL_0 (d := 19)) rfl rfl ?_
  refine Wf.sIc (tkL_0 (d := 19)) rfl ?_
  refine Wf.s2 (tkL_0 (d := 19)) rfl ?_
  refine Wf.sScd (tkL_0 (d := 19)) rfl (vi3 hi hn) ?_
  show Wf l (n, xs) uL 20 false (1000, 10000) 326 [(0, .ref 4999), (1, .ref 1), (2, .ref 150), (3, .ref 167), (4, .int (nI i))] [.int (xs (nI i + 3 : Int32).toNatClampNeg), .int (xs (nI i + 2 : Int32).toNatClampNeg), .int (xs (nI i + 1 : Int32).toNatClampNeg), .ref 150] M1 kr
  refine Wf.sAl (tkL_0 (d := 19)) rfl rfl rfl ?_
  refine Wf.sIl (tkL_0 (d := 19)) rfl rfl ?_
  refine Wf.sIc (tkL_0 (d := 19)) rfl ?_
  refine Wf.s2 (tkL_0 (d := 19)) rfl ?_
  refine Wf.sScd (tkL_0 (d := 19)) rfl (vi4 hi hn) ?_
  show Wf l (n, xs) uL 20 false (1000, 10000) 332 [(0, .ref 4999), (1, .ref 1), (2, .ref 150), (3, .ref 167), (4, .int (nI i))] [.int (xs (nI i + 4 : Int32).toNatClampNeg), .int (xs (nI i + 3 : Int32).toNatClampNeg), .int (xs (nI i + 2 : Int32).toNatClampNeg), .int (xs (nI i + 1 : Int32).toNatClampNeg), .ref 150] M1 kr
  refine Wf.sAl (tkL_0 (d := 19)) rfl rfl rfl ?_
  refine Wf.sIl (tkL_0 (d := 19)) rfl rfl ?_
  refine Wf.sIc (tkL_0 (d := 19)) rfl ?_
  refine Wf.s2 (tkL_0 (d := 19)) rfl ?_
  refine Wf.sScd (tkL_0 (d := 19)) rfl (vi5 hi hn) ?_
  show Wf l (n, xs) uL 20 false (1000, 10000) 338 [(0, .ref 4999), (1, .ref 1), (2, .ref 150), (3, .ref 167), (4, .int (nI i))] [.int (xs (nI i + 5 : Int32).toNatClampNeg), .int (xs (nI i + 4 : Int32).toNatClampNeg), .int (xs (nI i + 3 : Int32).toNatClampNeg), .int (xs (nI i + 2 : Int32).toNatClampNeg), .int (xs (nI i + 1 : Int32).toNatClampNeg), .ref 150] M1 kr
  refine Wf.sCv (as := [.int (xs (nI i + 1 : Int32).toNatClampNeg), .int (xs (nI i + 2 : Int32).toNatClampNeg), .int (xs (nI i + 3 : Int32).toNatClampNeg), .int (xs (nI i + 4 : Int32).toNatClampNeg), .int (xs (nI i + 5 : Int32).toNatClampNeg)]) (rest := []) (tkL_0 (d := 19)) rfl rfl (kk_ok hL2.1 rfl) rfl ?_
  refine j7_feed 7 hL2 t71 ht (fun M8 hL9 e10 k7 t72 => ?_)
  have hq15 := LX_feed hL0 ht k6 t61 hL9 k7 t72
  have c13 : mC M8 ≤ mC M + 1 := by rw [mC_1 e10]; exact c6
  have s14 : mS M8 ≤ mS M + 6 := by rw [mS_1 e10]; exact s7
  show Wf l (n, xs) uL 20 false (1000, 10000) 341 [(0, .ref 4999), (1, .ref 1), (2, .ref 150), (3, .ref 167), (4, .int (nI i))] [.int (fdR t)] M8 kr
  refine Wf.sPop (tkL_0 (d := 19)) rfl rfl ?_
  refine Wf.sGo (tkL_0 (d := 19)) rfl ?_
  show Wf l (n, xs) uL 20 false (1000, 10000) 1885 [(0, .ref 4999), (1, .ref 1), (2, .ref 150), (3, .ref 167), (4, .int (nI i))] [] M8 kr
  exact h M8 hq15 c13 s14
set_option maxRecDepth 20000 in
theorem lawc_1 (hi : i + 6 ≤ n) (hn : n ≤ 3072) (hL0 : LX M) (h : ∀ M', LX M' → mC M' ≤ mC M + 1 → mS M' ≤ mS M + 6 → Wf l (n, xs) uL 20 false (1000, 10000) 1885 [(0, .ref 4999), (1, .ref 1), (2, .ref 150), (3, .ref 167), (4, .int (nI i))] [] M' kr) : Wf l (n, xs) uL 20 false (1000, 10000) 345 [(0, .ref 4999), (1, .ref 1), (2, .ref 150), (3, .ref 167), (4, .int (nI i))] [] M kr := by
  have c00 : mC M ≤ mC M + 1 := Nat.le_succ _
  have s00 : mS M ≤ mS M + 6 := Nat.le_add_right _ _
  obtain ⟨lp, ⟨t, b, ht, t6, t7⟩, ft⟩ := hL0.q
  refine Wf.sAl (tkL_1 (d := 19)) rfl rfl rfl ?_
  refine Wf.sAl (tkL_1 (d := 19)) rfl rfl rfl ?_
  refine Wf.sIl (tkL_1 (d := 19)) rfl rfl ?_
  refine Wf.sIc (tkL_1 (d := 19)) rfl ?_
  refine Wf.s2 (tkL_1 (d := 19)) rfl ?_
  refine Wf.sScd (tkL_1 (d := 19)) rfl (vi1 hi hn) ?_
  show Wf l (n, xs) uL 20 false (1000, 10000) 352 [(0, .ref 4999), (1, .ref 1), (2, .ref 150), (3, .ref 167), (4, .int (nI i))] [.int (xs (nI i + 1 : Int32).toNatClampNeg), .ref 1] M kr
  refine Wf.sCv (as := [.int (xs (nI i + 1 : Int32).toNatClampNeg)]) (rest := []) (tkL_1 (d := 19)) rfl rfl (kk_ok lp.1 rfl) rfl ?_
  refine k6_close 7 lp t6 ht (fun M1 hL2 e3 k6 t61 f6 g6 z6 => ?_)
  have t71 := T7_6 t7 k6 rfl (fun _ => rfl)
  have c6 : mC M1 ≤ mC M + 1 := by rw [mC_1 e3]; exact c00
  have s7 : mS M1 ≤ mS M + 6 := by rw [mS_1 e3]; exact s00
  show Wf l (n, xs) uL 20 false (1000, 10000) 355 [(0, .ref 4999), (1, .ref 1), (2, .ref 150), (3, .ref 167), (4, .int (nI i))] [.int (cA (cO b (xs (nI i + 1 : Int32).toNatClampNeg) t))] M1 kr
  refine Wf.sPop (tkL_1 (d := 19)) rfl rfl ?_
  refine Wf.sAl (tkL_1 (d := 19)) rfl rfl rfl ?_
  refine Wf.sAl (tkL_1 (d := 19)) rfl rfl rfl ?_
  refine Wf.sIl (tkL_1 (d := 19)) rfl rfl ?_
  refine Wf.sIc (tkL_1 (d := 19)) rfl ?_
  refine Wf.s2 (tkL_1 (d := 19)) rfl ?_
  refine Wf.sScd (tkL_1 (d := 19)) rfl (vi1 hi hn) ?_
  show Wf l (n, xs) uL 20 false (1000, 10000) 363 [(0, .ref 4999), (1, .ref 1), (2, .ref 150), (3, .ref 167), (4, .int (nI i))] [.int (xs (nI i + 1 : Int32).toNatClampNeg), .ref 150] M1 kr
  refine Wf.sCv (as := [.int (xs (nI i + 1 : Int32).toNatClampNeg)]) (rest := []) (tkL_1 (d := 19)) rfl rfl (kk_ok hL2.1 rfl) rfl ?_
  refine k7_close 7 hL2 t71 ht (fun M8 hL9 e10 k7 t72 f7 g7 z7 => ?_)
  have hq15 := LX_close hL0 ht k6 t61 f6 hL2 z6 hL9 k7 t72 f7 z7
  have c13 : mC M8 ≤ mC M + 1 := by rw [mC_1 e10]; exact c6
  have s14 : mS M8 ≤ mS M + 6 := by rw [mS_1 e10]; exact s7
  show Wf l (n, xs) uL 20 false (1000, 10000) 366 [(0, .ref 4999), (1, .ref 1), (2, .ref 150), (3, .ref 167), (4, .int (nI i))] [.int (cA (cO b (xs (nI i + 1 : Int32).toNatClampNeg) t))] M8 kr
  refine Wf.sPop (tkL_1 (d := 19)) rfl rfl ?_
  refine Wf.sGo (tkL_1 (d := 19)) rfl ?_
  show Wf l (n, xs) uL 20 false (1000, 10000) 1885 [(0, .ref 4999), (1, .ref 1), (2, .ref 150), (3, .ref 167), (4, .int (nI i))] [] M8 kr
  exact h M8 hq15 c13 s14
set_option maxRecDepth 20000 in
theorem lawc_2 (hi : i + 6 ≤ n) (hn : n ≤ 3072) (hL0 : LX M) (h : ∀ M', LX M' → mC M' ≤ mC M + 1 → mS M' ≤ mS M + 6 → Wf l (n, xs) uL 20 false (1000, 10000) 1885 [(0, .ref 4999), (1, .ref 1), (2, .ref 150), (3, .ref 167), (4, .int (nI i))] [] M' kr) : Wf l (n, xs) uL 20 false (1000, 10000) 370 [(0, .ref 4999), (1, .ref 1), (2, .ref 150), (3, .ref 167), (4, .int (nI i))] [] M kr := by
  have c00 : mC M ≤ mC M + 1 := Nat.le_succ _
  have s00 : mS M ≤ mS M + 6 := Nat.le_add_right _ _
  refine Wf.sAl (tkL_2 (d := 19)) rfl rfl rfl ?_
  refine Wf.sCv (as := []) (rest := []) (tkL_2 (d := 19)) rfl rfl (kk_ok hL0.iv rfl) rfl ?_
  refine p6_fault 7 hL0.li (fun x4 M1 hl9 e3 k5 => ?_)
  have hq8 := LX_k hL0 hl9 e3 k5 (by decide +kernel)
  have c6 : mC M1 ≤ mC M + 1 := by rw [mC_1 e3]; exact c00
  have s7 : mS M1 ≤ mS M + 6 := by rw [mS_1 e3]; exact s00
  show Wf l (n, xs) uL 20 false (1000, 10000) 374 [(0, .ref 4999), (1, .ref 1), (2, .ref 150), (3, .ref 167), (4, .int (nI i))] [.int x4] M1 kr
  refine Wf.sPop (tkL_2 (d := 19)) rfl rfl ?_
  refine Wf.sAl (tkL_2 (d := 19)) rfl rfl rfl ?_
  refine Wf.sCv (as := []) (rest := []) (tkL_2 (d := 19)) rfl rfl (kk_ok hq8.iv rfl) rfl ?_
  refine p7_fault 7 hq8.li (fun x13 M10 hl18 e12 k14 => ?_)
  have hq17 := LX_k hq8 hl18 e12 k14 (by decide +kernel)
  have c15 : mC M10 ≤ mC M + 1 := by rw [mC_1 e12]; exact c6
  have s16 : mS M10 ≤ mS M + 6 := by rw [mS_1 e12]; exact s7
  show Wf l (n, xs) uL 20 false (1000, 10000) 379 [(0, .ref 4999), (1, .ref 1), (2, .ref 150), (3, .ref 167), (4, .int (nI i))] [.int x13] M10 kr
  refine Wf.sPop (tkL_2 (d := 19)) rfl rfl ?_
  refine Wf.sGo (tkL_2 (d := 19)) rfl ?_
  show Wf l (n, xs) uL 20 false (1000, 10000) 1885 [(0, .ref 4999), (1, .ref 1), (2, .ref 150), (3, .ref 167), (4, .int (nI i))] [] M10 kr
  exact h M10 hq17 c15 s16
set_option maxRecDepth 20000 in
theorem lawc_3 (hi : i + 6 ≤ n) (hn : n ≤ 3072) (hL0 : LX M) (h : ∀ M', LX M' → mC M' ≤ mC M + 1 → mS M' ≤ mS M + 6 → Wf l (n, xs) uL 20 false (1000, 10000) 1885 [(0, .ref 4999), (1, .ref 1), (2, .ref 150), (3, .ref 167), (4, .int (nI i))] [] M' kr) : Wf l (n, xs) uL 20 false (1000, 10000) 383 [(0, .ref 4999), (1, .ref 1), (2, .ref 150), (3, .ref 167), (4, .int (nI i))] [] M kr := by
  have c00 : mC M ≤ mC M + 1 := Nat.le_succ _
  have s00 : mS M ≤ mS M + 6 := Nat.le_add_right _ _
  refine Wf.sAl (tkL_3 (d := 19)) rfl rfl rfl ?_
  refine Wf.sCv (as := []) (rest := []) (tkL_3 (d := 19)) rfl rfl (kk_ok hL0.iv rfl) rfl ?_
  refine p6_where 7 hL0.li (fun x4 M1 hl9 e3 k5 => ?_)
  have hq8 := LX_k hL0 hl9 e3 k5 (by decide +kernel)
  have c6 : mC M1 ≤ mC M + 1 := by rw [mC_1 e3]; exact c00
  have s7 : mS M1 ≤ mS M + 6 := by rw [mS_1 e3]; exact s00
  show Wf l (n, xs) uL 20 false (1000, 10000) 387 [(0, .ref 4999), (1, .ref 1), (2, .ref 150), (3, .ref 167), (4, .int (nI i))] [.int x4] M1 kr
  refine Wf.sPop (tkL_3 (d := 19)) rfl rfl ?_
  refine Wf.sAl (tkL_3 (d := 19)) rfl rfl rfl ?_
  refine Wf.sCv (as := []) (rest := []) (tkL_3 (d := 19)) rfl rfl (kk_ok hq8.iv rfl) rfl ?_
  refine p7_where 7 hq8.li (fun x13 M10 hl18 e12 k14 => ?_)
  have hq17 := LX_k hq8 hl18 e12 k14 (by decide +kernel)
  have c15 : mC M10 ≤ mC M + 1 := by rw [mC_1 e12]; exact c6
  have s16 : mS M10 ≤ mS M + 6 := by rw [mS_1 e12]; exact s7
  show Wf l (n, xs) uL 20 false (1000, 10000) 392 [(0, .ref 4999), (1, .ref 1), (2, .ref 150), (3, .ref 167), (4, .int (nI i))] [.int x13] M10 kr
  refine Wf.sPop (tkL_3 (d := 19)) rfl rfl ?_
  refine Wf.sGo (tkL_3 (d := 19)) rfl ?_
  show Wf l (n, xs) uL 20 false (1000, 10000) 1885 [(0, .ref 4999), (1, .ref 1), (2, .ref 150), (3, .ref 167), (4, .int (nI i))] [] M10 kr
  exact h M10 hq17 c15 s16
set_option maxRecDepth 20000 in
theorem lawc_4 (hi : i + 6 ≤ n) (hn : n ≤ 3072) (hL0 : LX M) (h : ∀ M', LX M' → mC M' ≤ mC M + 1 → mS M' ≤ mS M + 6 → Wf l (n, xs) uL 20 false (1000, 10000) 1885 [(0, .ref 4999), (1, .ref 1), (2, .ref 150), (3, .ref 167), (4, .int (nI i))] [] M' kr) : Wf l (n, xs) uL 20 false (1000, 10000) 396 [(0, .ref 4999), (1, .ref 1), (2, .ref 150), (3, .ref 167), (4, .int (nI i))] [] M kr := by
  have c00 : mC M ≤ mC M + 1 := Nat.le_succ _
  have s00 : mS M ≤ mS M + 6 := Nat.le_add_right _ _
  refine Wf.sAl (tkL_4 (d := 19)) rfl rfl rfl ?_
  refine Wf.sAl (tkL_4 (d := 19)) rfl rfl rfl ?_
  refine Wf.sIl (tkL_4 (d := 19)) rfl rfl ?_
  refine Wf.sIc (tkL_4 (d := 19)) rfl ?_
  refine Wf.s2 (tkL_4 (d := 19)) rfl ?_
  refine Wf.sScd (tkL_4 (d := 19)) rfl (vi1 hi hn) ?_
  show Wf l (n, xs) uL 20 false (1000, 10000) 403 [(0, .ref 4999), (1, .ref 1), (2, .ref 150), (3, .ref 167), (4, .int (nI i))] [.int (xs (nI i + 1 : Int32).toNatClampNeg), .ref 1] M kr
  refine Wf.sAl (tkL_4 (d := 19)) rfl rfl rfl ?_
  refine Wf.sIl (tkL_4 (d := 19)) rfl rfl ?_
  refine Wf.sIc (tkL_4 (d := 19)) rfl ?_
  refine Wf.s2 (tkL_4 (d := 19)) rfl ?_
  refine Wf.sScd (tkL_4 (d := 19)) rfl (vi2 hi hn) ?_
  show Wf l (n, xs) uL 20 false (1000, 10000) 409 [(0, .ref 4999), (1, .ref 1), (2, .ref 150), (3, .ref 167), (4, .int (nI i))] [.int (xs (nI i + 2 : Int32).toNatClampNeg), .int (xs (nI i + 1 : Int32).toNatClampNeg), .ref 1] M kr
  refine Wf.sCv (as := [.int (xs (nI i + 1 : Int32).toNatClampNeg), .int (xs (nI i + 2 : Int32).toNatClampNeg)]) (rest := []) (tkL_4 (d := 19)) rfl rfl (kk_ok hL0.iv rfl) rfl ?_
  refine p6_face 7 hL0.li (fun x4 M1 hl9 e3 k5 => ?_)
  have hq8 := LX_k hL0 hl9 e3 k5 (by decide +kernel)
  have c6 : mC M1 ≤ mC M + 1 := by rw [mC_1 e3]; exact c00
  have s7 : mS M1 ≤ mS M + 6 := by rw [mS_1 e3]; exact s00
  show Wf l (n, xs) uL 20 false (1000, 10000) 412 [(0, .ref 4999), (1, .ref 1), (2, .ref 150), (3, .ref 167), (4, .int (nI i))] [.int x4] M1 kr
  refine Wf.sPop (tkL_4 (d := 19)) rfl rfl ?_
  refine Wf.sAl (tkL_4 (d := 19)) rfl rfl rfl ?_
  refine Wf.sAl (tkL_4 (d := 19)) rfl rfl rfl ?_
  refine Wf.sIl (tkL_4 (d := 19)) rfl rfl ?_
  refine Wf.sIc (tkL_4 (d := 19)) rfl ?_
  refine Wf.s2 (tkL_4 (d := 19)) rfl ?_
  refine Wf.sScd (tkL_4 (d := 19)) rfl (vi1 hi hn) ?_
  show Wf l (n, xs) uL 20 false (1000, 10000) 420 [(0, .ref 4999), (1, .ref 1), (2, .ref 150), (3, .ref 167), (4, .int (nI i))] [.int (xs (nI i + 1 : Int32).toNatClampNeg), .ref 150] M1 kr
  refine Wf.sAl (tkL_4 (d := 19)) rfl rfl rfl ?_
  refine Wf.sIl (tkL_4 (d := 19)) rfl rfl ?_
  refine Wf.sIc (tkL_4 (d := 19)) rfl ?_
  refine Wf.s2 (tkL_4 (d := 19)) rfl ?_
  refine Wf.sScd (tkL_4 (d := 19)) rfl (vi2 hi hn) ?_
  show Wf l (n, xs) uL 20 false (1000, 10000) 426 [(0, .ref 4999), (1, .ref 1), (2, .ref 150), (3, .ref 167), (4, .int (nI i))] [.int (xs (nI i + 2 : Int32).toNatClampNeg), .int (xs (nI i + 1 : Int32).toNatClampNeg), .ref 150] M1 kr
  refine Wf.sCv (as := [.int (xs (nI i + 1 : Int32).toNatClampNeg), .int (xs (nI i + 2 : Int32).toNatClampNeg)]) (rest := []) (tkL_4 (d := 19)) rfl rfl (kk_ok hq8.iv rfl) rfl ?_
  refine p7_face 7 hq8.li (fun x13 M10 hl18 e12 k14 => ?_)
  have hq17 := LX_k hq8 hl18 e12 k14 (by decide +kernel)
  have c15 : mC M10 ≤ mC M + 1 := by rw [mC_1 e12]; exact c6
  have s16 : mS M10 ≤ mS M + 6 := by rw [mS_1 e12]; exact s7
  show Wf l (n, xs) uL 20 false (1000, 10000) 429 [(0, .ref 4999), (1, .ref 1), (2, .ref 150), (3, .ref 167), (4, .int (nI i))] [.int x13] M10 kr
  refine Wf.sPop (tkL_4 (d := 19)) rfl rfl ?_
  refine Wf.sGo (tkL_4 (d := 19)) rfl ?_
  show Wf l (n, xs) uL 20 false (1000, 10000) 1885 [(0, .ref 4999), (1, .ref 1), (2, .ref 150), (3, .ref 167), (4, .int (nI i))] [] M10 kr
  exact h M10 hq17 c15 s16
set_option maxRecDepth 20000 in
theorem lawc_5 (hi : i + 6 ≤ n) (hn : n ≤ 3072) (hL0 : LX M) (h : ∀ M', LX M' → mC M' ≤ mC M + 1 → mS M' ≤ mS M + 6 → Wf l (n, xs) uL 20 false (1000, 10000) 1885 [(0, .ref 4999), (1, .ref 1), (2, .ref 150), (3, .ref 167), (4, .int (nI i))] [] M' kr) : Wf l (n, xs) uL 20 false (1000, 10000) 433 [(0, .ref 4999), (1, .ref 1), (2, .ref 150), (3, .ref 167), (4, .int (nI i))] [] M kr := by
  have c00 : mC M ≤ mC M + 1 := Nat.le_succ _
  have s00 : mS M ≤ mS M + 6 := Nat.le_add_right _ _
  refine Wf.sAl (tkL_5 (d := 19)) rfl rfl rfl ?_
  refine Wf.sAl (tkL_5 (d := 19)) rfl rfl rfl ?_
  refine Wf.sIl (tkL_5 (d := 19)) rfl rfl ?_
  refine Wf.sIc (tkL_5 (d := 19)) rfl ?_
  refine Wf.s2 (tkL_5 (d := 19)) rfl ?_
  refine Wf.sScd (tkL_5 (d := 19)) rfl (vi1 hi hn) ?_
  show Wf l (n, xs) uL 20 false (1000, 10000) 440 [(0, .ref 4999), (1, .ref 1), (2, .ref 150), (3, .ref 167), (4, .int (nI i))] [.int (xs (nI i + 1 : Int32).toNatClampNeg), .ref 1] M kr
  refine Wf.sAl (tkL_5 (d := 19)) rfl rfl rfl ?_
  refine Wf.sIl (tkL_5 (d := 19)) rfl rfl ?_
  refine Wf.sIc (tkL_5 (d := 19)) rfl ?_
  refine Wf.s2 (tkL_5 (d := 19)) rfl ?_
  refine Wf.sScd (tkL_5 (d := 19)) rfl (vi2 hi hn) ?_
  show Wf l (n, xs) uL 20 false (1000, 10000) 446 [(0, .ref 4999), (1, .ref 1), (2, .ref 150), (3, .ref 167), (4, .int (nI i))] [.int (xs (nI i + 2 : Int32).toNatClampNeg), .int (xs (nI i + 1 : Int32).toNatClampNeg), .ref 1] M kr
  refine Wf.sCv (as := [.int (xs (nI i + 1 : Int32).toNatClampNeg), .int (xs (nI i + 2 : Int32).toNatClampNeg)]) (rest := []) (tkL_5 (d := 19)) rfl rfl (kk_ok hL0.iv rfl) rfl ?_
  refine p6_canon 7 hL0.li (fun x4 M1 hl9 e3 k5 => ?_)
  have hq8 := LX_k hL0 hl9 e3 k5 (by decide +kernel)
  have c6 : mC M1 ≤ mC M + 1 := by rw [mC_1 e3]; exact c00
  have s7 : mS M1 ≤ mS M + 6 := by rw [mS_1 e3]; exact s00
  show Wf l (n, xs) uL 20 false (1000, 10000) 449 [(0, .ref 4999), (1, .ref 1), (2, .ref 150), (3, .ref 167), (4, .int (nI i))] [.int x4] M1 kr
  refine Wf.sPop (tkL_5 (d := 19)) rfl rfl ?_
  refine Wf.sAl (tkL_5 (d := 19)) rfl rfl rfl ?_
  refine Wf.sAl (tkL_5 (d := 19)) rfl rfl rfl ?_
  refine Wf.sIl (tkL_5 (d := 19)) rfl rfl ?_
  refine Wf.sIc (tkL_5 (d := 19)) rfl ?_
  refine Wf.s2 (tkL_5 (d := 19)) rfl ?_
  refine Wf.sScd (tkL_5 (d := 19)) rfl (vi1 hi hn) ?_
  show Wf l (n, xs) uL 20 false (1000, 10000) 457 [(0, .ref 4999), (1, .ref 1), (2, .ref 150), (3, .ref 167), (4, .int (nI i))] [.int (xs (nI i + 1 : Int32).toNatClampNeg), .ref 150] M1 kr
  refine Wf.sAl (tkL_5 (d := 19)) rfl rfl rfl ?_
  refine Wf.sIl (tkL_5 (d := 19)) rfl rfl ?_
  refine Wf.sIc (tkL_5 (d := 19)) rfl ?_
  refine Wf.s2 (tkL_5 (d := 19)) rfl ?_
  refine Wf.sScd (tkL_5 (d := 19)) rfl (vi2 hi hn) ?_
  show Wf l (n, xs) uL 20 false (1000, 10000) 463 [(0, .ref 4999), (1, .ref 1), (2, .ref 150), (3, .ref 167), (4, .int (nI i))] [.int (xs (nI i + 2 : Int32).toNatClampNeg), .int (xs (nI i + 1 : Int32).toNatClampNeg), .ref 150] M1 kr
  refine Wf.sCv (as := [.int (xs (nI i + 1 : Int32).toNatClampNeg), .int (xs (nI i + 2 : Int32).toNatClampNeg)]) (rest := []) (tkL_5 (d := 19)) rfl rfl (kk_ok hq8.iv rfl) rfl ?_
  refine p7_canon 7 hq8.li (fun x13 M10 hl18 e12 k14 => ?_)
  have hq17 := LX_k hq8 hl18 e12 k14 (by decide +kernel)
  have c15 : mC M10 ≤ mC M + 1 := by rw [mC_1 e12]; exact c6
  have s16 : mS M10 ≤ mS M + 6 := by rw [mS_1 e12]; exact s7
  show Wf l (n, xs) uL 20 false (1000, 10000) 466 [(0, .ref 4999), (1, .ref 1), (2, .ref 150), (3, .ref 167), (4, .int (nI i))] [.int x13] M10 kr
  refine Wf.sPop (tkL_5 (d := 19)) rfl rfl ?_
  refine Wf.sGo (tkL_5 (d := 19)) rfl ?_
  show Wf l (n, xs) uL 20 false (1000, 10000) 1885 [(0, .ref 4999), (1, .ref 1), (2, .ref 150), (3, .ref 167), (4, .int (nI i))] [] M10 kr
  exact h M10 hq17 c15 s16
set_option maxRecDepth 20000 in
theorem lawc_6 (hi : i + 6 ≤ n) (hn : n ≤ 3072) (hL0 : LX M) (h : ∀ M', LX M' → mC M' ≤ mC M + 1 → mS M' ≤ mS M + 6 → Wf l (n, xs) uL 20 false (1000, 10000) 1885 [(0, .ref 4999), (1, .ref 1), (2, .ref 150), (3, .ref 167), (4, .int (nI i))] [] M' kr) : Wf l (n, xs) uL 20 false (1000, 10000) 470 [(0, .ref 4999), (1, .ref 1), (2, .ref 150), (3, .ref 167), (4, .int (nI i))] [] M kr := by
  have c00 : mC M ≤ mC M + 1 := Nat.le_succ _
  have s00 : mS M ≤ mS M + 6 := Nat.le_add_right _ _
  refine Wf.sAl (tkL_6 (d := 19)) rfl rfl rfl ?_
  refine Wf.sAl (tkL_6 (d := 19)) rfl rfl rfl ?_
  refine Wf.sIl (tkL_6 (d := 19)) rfl rfl ?_
  refine Wf.sIc (tkL_6 (d := 19)) rfl ?_
  refine Wf.s2 (tkL_6 (d := 19)) rfl ?_
  refine Wf.sScd (tkL_6 (d := 19)) rfl (vi1 hi hn) ?_
  show Wf l (n, xs) uL 20 false (1000, 10000) 477 [(0, .ref 4999), (1, .ref 1), (2, .ref 150), (3, .ref 167), (4, .int (nI i))] [.int (xs (nI i + 1 : Int32).toNatClampNeg), .ref 1] M kr
  refine Wf.sAl (tkL_6 (d := 19)) rfl rfl rfl ?_
  refine Wf.sIl (tkL_6 (d := 19)) rfl rfl ?_
  refine Wf.sIc (tkL_6 (d := 19)) rfl ?_
  refine Wf.s2 (tkL_6 (d := 19)) rfl ?_
  refine Wf.sScd (tkL_6 (d := 19)) rfl (vi2 hi hn) ?_
  show Wf l (n, xs) uL 20 false (1000, 10000) 483 [(0, .ref 4999), (1, .ref 1), (2, .ref 150), (3, .ref 167), (4, .int (nI i))] [.int (xs (nI i + 2 : Int32).toNatClampNeg), .int (xs (nI i + 1 : Int32).toNatClampNeg), .ref 1] M kr
  refine Wf.sCv (as := [.int (xs (nI i + 1 : Int32).toNatClampNeg), .int (xs (nI i + 2 : Int32).toNatClampNeg)]) (rest := []) (tkL_6 (d := 19)) rfl rfl (kk_ok hL0.iv rfl) rfl ?_
  refine p6_cell 7 hL0.li (fun x4 M1 hl9 e3 k5 => ?_)
  have hq8 := LX_k hL0 hl9 e3 k5 (by decide +kernel)
  have c6 : mC M1 ≤ mC M + 1 := by rw [mC_1 e3]; exact c00
  have s7 : mS M1 ≤ mS M + 6 := by rw [mS_1 e3]; exact s00
  show Wf l (n, xs) uL 20 false (1000, 10000) 486 [(0, .ref 4999), (1, .ref 1), (2, .ref 150), (3, .ref 167), (4, .int (nI i))] [.int x4] M1 kr
  refine Wf.sPop (tkL_6 (d := 19)) rfl rfl ?_
  refine Wf.sAl (tkL_6 (d := 19)) rfl rfl rfl ?_
  refine Wf.sAl (tkL_6 (d := 19)) rfl rfl rfl ?_
  refine Wf.sIl (tkL_6 (d := 19)) rfl rfl ?_
  refine Wf.sIc (tkL_6 (d := 19)) rfl ?_
  refine Wf.s2 (tkL_6 (d := 19)) rfl ?_
  refine Wf.sScd (tkL_6 (d := 19)) rfl (vi1 hi hn) ?_
  show Wf l (n, xs) uL 20 false (1000, 10000) 494 [(0, .ref 4999), (1, .ref 1), (2, .ref 150), (3, .ref 167), (4, .int (nI i))] [.int (xs (nI i + 1 : Int32).toNatClampNeg), .ref 150] M1 kr
  refine Wf.sAl (tkL_6 (d := 19)) rfl rfl rfl ?_
  refine Wf.sIl (tkL_6 (d := 19)) rfl rfl ?_
  refine Wf.sIc (tkL_6 (d := 19)) rfl ?_
  refine Wf.s2 (tkL_6 (d := 19)) rfl ?_
  refine Wf.sScd (tkL_6 (d := 19)) rfl (vi2 hi hn) ?_
  show Wf l (n, xs) uL 20 false (1000, 10000) 500 [(0, .ref 4999), (1, .ref 1), (2, .ref 150), (3, .ref 167), (4, .int (nI i))] [.int (xs (nI i + 2 : Int32).toNatClampNeg), .int (xs (nI i + 1 : Int32).toNatClampNeg), .ref 150] M1 kr
  refine Wf.sCv (as := [.int (xs (nI i + 1 : Int32).toNatClampNeg), .int (xs (nI i + 2 : Int32).toNatClampNeg)]) (rest := []) (tkL_6 (d := 19)) rfl rfl (kk_ok hq8.iv rfl) rfl ?_
  refine p7_cell 7 hq8.li (fun x13 M10 hl18 e12 k14 => ?_)
  have hq17 := LX_k hq8 hl18 e12 k14 (by decide +kernel)
  have c15 : mC M10 ≤ mC M + 1 := by rw [mC_1 e12]; exact c6
  have s16 : mS M10 ≤ mS M + 6 := by rw [mS_1 e12]; exact s7
  show Wf l (n, xs) uL 20 false (1000, 10000) 503 [(0, .ref 4999), (1, .ref 1), (2, .ref 150), (3, .ref 167), (4, .int (nI i))] [.int x13] M10 kr
  refine Wf.sPop (tkL_6 (d := 19)) rfl rfl ?_
  refine Wf.sGo (tkL_6 (d := 19)) rfl ?_
  show Wf l (n, xs) uL 20 false (1000, 10000) 1885 [(0, .ref 4999), (1, .ref 1), (2, .ref 150), (3, .ref 167), (4, .int (nI i))] [] M10 kr
  exact h M10 hq17 c15 s16
set_option maxRecDepth 20000 in
theorem lawc_7 (hi : i + 6 ≤ n) (hn : n ≤ 3072) (hL0 : LX M) (h : ∀ M', LX M' → mC M' ≤ mC M + 1 → mS M' ≤ mS M + 6 → Wf l (n, xs) uL 20 false (1000, 10000) 1885 [(0, .ref 4999), (1, .ref 1), (2, .ref 150), (3, .ref 167), (4, .int (nI i))] [] M' kr) : Wf l (n, xs) uL 20 false (1000, 10000) 507 [(0, .ref 4999), (1, .ref 1), (2, .ref 150), (3, .ref 167), (4, .int (nI i))] [] M kr := by
  have c00 : mC M ≤ mC M + 1 := Nat.le_succ _
  have s00 : mS M ≤ mS M + 6 := Nat.le_add_right _ _
  refine Wf.sAl (tkL_7 (d := 19)) rfl rfl rfl ?_
  refine Wf.sCv (as := []) (rest := []) (tkL_7 (d := 19)) rfl rfl (kk_ok hL0.iv rfl) rfl ?_
  refine p6_burden 7 hL0.li (fun x4 M1 hl9 e3 k5 => ?_)
  have hq8 := LX_k hL0 hl9 e3 k5 (by decide +kernel)
  have c6 : mC M1 ≤ mC M + 1 := by rw [mC_1 e3]; exact c00
  have s7 : mS M1 ≤ mS M + 6 := by rw [mS_1 e3]; exact s00
  show Wf l (n, xs) uL 20 false (1000, 10000) 511 [(0, .ref 4999), (1, .ref 1), (2, .ref 150), (3, .ref 167), (4, .int (nI i))] [.int x4] M1 kr
  refine Wf.sPop (tkL_7 (d := 19)) rfl rfl ?_
  refine Wf.sAl (tkL_7 (d := 19)) rfl rfl rfl ?_
  refine Wf.sCv (as := []) (rest := []) (tkL_7 (d := 19)) rfl rfl (kk_ok hq8.iv rfl) rfl ?_
  refine p7_burden 7 hq8.li (fun x13 M10 hl18 e12 k14 => ?_)
  have hq17 := LX_k hq8 hl18 e12 k14 (by decide +kernel)
  have c15 : mC M10 ≤ mC M + 1 := by rw [mC_1 e12]; exact c6
  have s16 : mS M10 ≤ mS M + 6 := by rw [mS_1 e12]; exact s7
  show Wf l (n, xs) uL 20 false (1000, 10000) 516 [(0, .ref 4999), (1, .ref 1), (2, .ref 150), (3, .ref 167), (4, .int (nI i))] [.int x13] M10 kr
  refine Wf.sPop (tkL_7 (d := 19)) rfl rfl ?_
  refine Wf.sGo (tkL_7 (d := 19)) rfl ?_
  show Wf l (n, xs) uL 20 false (1000, 10000) 1885 [(0, .ref 4999), (1, .ref 1), (2, .ref 150), (3, .ref 167), (4, .int (nI i))] [] M10 kr
  exact h M10 hq17 c15 s16
end LAWC
end
