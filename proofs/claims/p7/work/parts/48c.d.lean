theorem cr_u2 {J : Nat → Nat → Int32} {k w v e n h b d x : Int32} {a i : Nat} (ha : a ≠ 40) : u2 (cr J k w v e n h b d) a i x = cr (u2 J a i x) k w v e n h b d := by
  funext c j
  unfold u2 cr
  by_cases hc : c = 40
  · subst hc
    rw [if_neg (fun z => ha z.1.symm), if_pos rfl, if_pos rfl]
    match j with
    | 0 => rfl
    | 1 => rfl
    | 2 => rfl
    | 3 => rfl
    | 4 => rfl
    | 5 => rfl
    | 6 => rfl
    | 7 => rfl
    | j + 8 =>
      show J 40 (j + 8) = if 40 = a ∧ j + 8 = i then x else J 40 (j + 8)
      rw [if_neg (fun z => ha z.1.symm)]
  · rw [if_neg hc, if_neg hc]
theorem crf_u2 {J : Nat → Nat → Int32} {k w v e x : Int32} {y : Fc} {a i : Nat} (ha : a ≠ 40) : u2 (crf J k w v e y) a i x = crf (u2 J a i x) k w v e y := cr_u2 ha
theorem sc_u2 {I J : Nat → Nat → Int32} {a i : Nat} {x : Int32} (h : sc I J) (h1 : 40 ≤ a) (h2 : a ≤ 54) : sc I (u2 J a i x) := fun c hc => by rw [u2_oa (by omega)]; exact h c hc
theorem sc_crf {I J : Nat → Nat → Int32} {k w v e : Int32} {y : Fc} (h : sc I J) : sc I (crf J k w v e y) := h.tr cr_sc
theorem cOf_sc {I J : Nat → Nat → Int32} {C : Nat} {f : Int32} (h : sc I J) : cOf J C f = cOf I C f := by
  unfold cOf
  rw [h 37 (by decide)]
theorem crs_eq {I J : Nat → Nat → Int32} {p f : Nat} {o : Option Nat} {y : Fc} (hp : p = 7 ∨ p = 20) (h : sc I J) : crs J p f o y = crf J (I (p + 1) f) (I (p + 3) f) (vxO I p o) (evO I p o) y := by
  unfold crs
  have e1 : J (p + 1) = I (p + 1) := h _ (by omega)
  have e3 : J (p + 3) = I (p + 3) := h _ (by omega)
  have e7 : J (p + 7) = I (p + 7) := h _ (by omega)
  have e8 : J (p + 8) = I (p + 8) := h _ (by omega)
  have ev : vxO J p o = vxO I p o := by cases o with
    | none => rfl
    | some c => show J (p + 7) c = I (p + 7) c; rw [e7]
  have ee : evO J p o = evO I p o := by cases o with
    | none => rfl
    | some c => show J (p + 8) c = I (p + 8) c; rw [e8]
  rw [e1, e3, ev, ee]
theorem nowF_sc {I J : Nat → Nat → Int32} {f : Nat} (h : sc I J) : nowF J f = nowF I f := by
  unfold nowF
  rw [h 33 (by decide), h 34 (by decide), h 35 (by decide)]
theorem fw_sc {I J : Nat → Nat → Int32} {p f : Nat} {o : Option Nat} {n : Nat} (hp : p = 7 ∨ p = 20) (h : sc I J) : fw J p f o n = fw I p f o n := by
  have e1 : J (p + 1) = I (p + 1) := h _ (by omega)
  have e3 : J (p + 3) = I (p + 3) := h _ (by omega)
  have e7 : J (p + 7) = I (p + 7) := h _ (by omega)
  have e8 : J (p + 8) = I (p + 8) := h _ (by omega)
  have ev : vxO J p o = vxO I p o := by cases o with
    | none => rfl
    | some c => show J (p + 7) c = I (p + 7) c; rw [e7]
  have ee : evO J p o = evO I p o := by cases o with
    | none => rfl
    | some c => show J (p + 8) c = I (p + 8) c; rw [e8]
  unfold fw
  rw [e1, e3, ev, ee, nowF_sc h]
/-- whether face f lets go on the day behind n days -/
def lets (I : Nat → Nat → Int32) (p C f n : Nat) : Bool := cLt (I (p + 1) f) (vxO I p (cOf I C (nI f))) (evO I p (cOf I C (nI f))) false (fw I p f (cOf I C (nI f)) n)
/-- the cells that the first f faces wet on the day behind n days -/
def wtF (I : Nat → Nat → Int32) (p C n : Nat) : Nat → Int32
  | 0 => 0
  | f + 1 => if lets I p C f n = true then wtF I p C n f ||| ((1 : Int32) <<< (I (p + 4) f &&& 31)) else wtF I p C n f
section SD
variable {l : Launch} {X : Nat × (Nat → Int32)} {d : Nat} {w : Nat × Nat} {p r : Nat} {I : Nat → Nat → Int32} {L : Nat → Nat → Int64} {kr : KR}
set_option maxRecDepth 20000 in
theorem pX6_dropsIn {f : Int32} {F C : Nat} (hv : vC p I F C) (h : ∀ I', qC I (match ixO F f with | none => (1 : Int32) | some _ => 0) I' → kr (some (.int (match ixO F f with | none => -1 | some j => oI ((ff (fun i => lets I p C j i) 60 0).map (· + 1))))) (mk w p r I' L)) : Ev l X uX6_dropsIn (d + 2) true 0 0 [.ref 1, .int f] (mk w p r I L) kr := by
  refine Ev.of (by decide) (Nat.le_of_ble_eq_true rfl) ?_
  refine Wf.gc tkX6_dropsIn [] ?_
  obtain ⟨hp, hF, hF6, hC, hC5⟩ := id hv
  conv => whnf
  refine sX6_isFace hp hF (by omega) (fun j hj e => ?_) (fun c => ?_)
  · subst e
    rw [ixO_some hj (by omega)] at h
    conv => whnf
    refine b1 (by decide) ?_
    conv => whnf
    refine sX6_canonOf hp hC hC5 ?_
    conv => whnf
    refine sX6_startNow hp (by omega) (cOf_lt hC5) ?_
    conv => whnf
    refine sX0_firstDrop (N := 60) (by decide) (fun y' => ?_)
    conv => whnf
    refine sX6_answer ?_
    conv => whnf
    exact h _ (qC_of (sc_crf sc.rf))
  · rw [ixO_none (by omega) c] at h
    conv => whnf
    refine b2 (fun z => z rfl) ?_
    conv => whnf
    refine sX6_refuse ?_
    conv => whnf
    exact h _ (qC_of sc.rf)
set_option maxRecDepth 20000 in
theorem pX6_fallsIn {f : Int32} {F C : Nat} (hv : vC p I F C) (h : ∀ I', qC I (match ixO F f with | none => (1 : Int32) | some _ => 0) I' → kr (some (.int (match ixO F f with | none => -1 | some j => oI (ff (fun n => decide ((fw I p j (cOf I C (nI j)) n).2.1 = 0)) 61 0)))) (mk w p r I' L)) : Ev l X uX6_fallsIn (d + 2) true 0 0 [.ref 1, .int f] (mk w p r I L) kr := by
  refine Ev.of (by decide) (Nat.le_of_ble_eq_true rfl) ?_
  refine Wf.gc tkX6_fallsIn [26] ?_
  obtain ⟨hp, hF, hF6, hC, hC5⟩ := id hv
  conv => whnf
  refine sX6_isFace hp hF (by omega) (fun j hj e => ?_) (fun c => ?_)
  · subst e
    rw [ixO_some hj (by omega)] at h
    conv => whnf
    refine b1 (by decide) ?_
    conv => whnf
    refine sX6_canonOf hp hC hC5 ?_
    conv => whnf
    refine sX6_startNow hp (by omega) (cOf_lt hC5) ?_
    conv => whnf
    refine srch (e := 61) (P := fun n => decide ((fw I p j (cOf I C (nI j)) n).2.1 = 0)) (Wi := fun i => Wf l X uX6_fallsIn (d + 2) true _ 26 [(0, .ref 1), (1, .int (nI j)), (2, .int (nI i))] [] (mk w p r (crs I p j (cOf I C (nI j)) (fw I p j (cOf I C (nI j)) i)) L) kr) (K := fun o => ∀ I', qC I 0 I' → kr (some (.int (oI o))) (mk w p r I' L)) (fun hk => ?_) (fun i hi => ⟨fun hP hk => ?_, fun hP hw => ?_⟩) 0 (Nat.zero_le _) h
    · refine Wf.gc tkX6_fallsIn [26] ?_
      conv => whnf
      refine b1 (by decide) ?_
      conv => whnf
      refine sX6_answer ?_
      conv => whnf
      exact hk _ (qC_of (sc_crf sc.rf))
    · refine Wf.gc tkX6_fallsIn [26] ?_
      conv => whnf
      refine b2 (nI_nlt (a := 60) (by omega) (by decide)) ?_
      conv => whnf
      refine b2 (fun z => z (of_decide_eq_true hP)) ?_
      conv => whnf
      refine sX6_answer ?_
      conv => whnf
      exact hk _ (qC_of (sc_crf sc.rf))
    · refine Wf.gc tkX6_fallsIn [26] ?_
      conv => whnf
      refine b2 (nI_nlt (a := 60) (by omega) (by decide)) ?_
      conv => whnf
      refine b1 (of_decide_eq_false hP) ?_
      conv => whnf
      refine sX0_pass (calm := false) ?_
      conv => whnf
      rw [nI_s]
      exact hw
  · rw [ixO_none (by omega) c] at h
    conv => whnf
    refine b2 (fun z => z rfl) ?_
    conv => whnf
    refine sX6_refuse ?_
    conv => whnf
    exact h _ (qC_of sc.rf)
set_option maxRecDepth 20000 in
theorem sX6_foretellWet {F C N : Nat} (hv : vC p I F C) (hN : N ≤ 60) (h : ∀ I', sc I I' → (∀ n, n < N → I' 54 (n + 1) = wtF I p C n F) → kr none (mk w p r I' L)) : Ev l X uX6_foretellWet (d + 2) true 0 0 [.ref 1, .int (nI N)] (mk w p r I L) kr := by
  refine Ev.of (by decide) (Nat.le_of_ble_eq_true rfl) ?_
  refine Wf.gc tkX6_foretellWet [2] ?_
  obtain ⟨hp, hF, hF6, hC, hC5⟩ := id hv
  have outer : ∀ f, f ≤ F → ∀ J, sc I J → (∀ n, n < N → J 54 (n + 1) = wtF I p C n f) → Wf l X uX6_foretellWet (d + 2) true (mC (mk w p r I L) + 0, mS (mk w p r I L) + 0) 22 [(0, .ref 1), (1, .int (nI N)), (2, .int (nI f))] [] (mk w p r J L) kr := by
    refine down (fun f => ∀ J, sc I J → (∀ n, n < N → J 54 (n + 1) = wtF I p C n f) → Wf l X uX6_foretellWet (d + 2) true (mC (mk w p r I L) + 0, mS (mk w p r I L) + 0) 22 [(0, .ref 1), (1, .int (nI N)), (2, .int (nI f))] [] (mk w p r J L) kr) F ?_ ?_
    · intro J hJ hr
      have hF' : J p 4 = nI F := by rw [hJ p (by omega)]; exact hF
      rcases hp with rfl | rfl
      all_goals
        refine Wf.gc tkX6_foretellWet [22] ?_
        conv => whnf
        refine b1 (fun z => z (cle hF' (Nat.le_refl _) (by omega))) ?_
        conv => whnf
        exact h J hJ hr
    · intro f hf ih J hJ hr
      have hF' : J p 4 = nI F := by rw [hJ p (by omega)]; exact hF
      have hC' : J p 10 = nI C := by rw [hJ p (by omega)]; exact hC
      have inner : ∀ i, i ≤ N → ∀ K, sc I K → (∀ n, n < i → K 54 (n + 1) = wtF I p C n (f + 1)) → (∀ n, i ≤ n → n < N → K 54 (n + 1) = wtF I p C n f) → Wf l X uX6_foretellWet (d + 2) true (mC (mk w p r I L) + 0, mS (mk w p r I L) + 0) 45 [(0, .ref 1), (1, .int (nI N)), (2, .int (nI f)), (3, .int (nI (i + 1)))] [] (mk w p r (crf K (I (p + 1) f) (I (p + 3) f) (vxO I p (cOf I C (nI f))) (evO I p (cOf I C (nI f))) (fw I p f (cOf I C (nI f)) i)) L) kr := by
        refine down (fun i => ∀ K, sc I K → (∀ n, n < i → K 54 (n + 1) = wtF I p C n (f + 1)) → (∀ n, i ≤ n → n < N → K 54 (n + 1) = wtF I p C n f) → Wf l X uX6_foretellWet (d + 2) true (mC (mk w p r I L) + 0, mS (mk w p r I L) + 0) 45 [(0, .ref 1), (1, .int (nI N)), (2, .int (nI f)), (3, .int (nI (i + 1)))] [] (mk w p r (crf K (I (p + 1) f) (I (p + 3) f) (vxO I p (cOf I C (nI f))) (evO I p (cOf I C (nI f))) (fw I p f (cOf I C (nI f)) i)) L) kr) N ?_ ?_
        · intro K hK h1 h2
          refine Wf.gc tkX6_foretellWet [22, 45] ?_
          conv => whnf
          refine b1 (fun z => z (nI_lt (by omega) (by omega))) ?_
          conv => whnf
          rw [nI_s]
          exact Wf.keep [0, 1, 2] (ih _ (sc_crf hK) (fun n hn => by show cr K _ _ _ _ _ _ _ _ 54 (n + 1) = _; rw [cr_o (by decide)]; exact h1 n hn))
        · intro i hi ih2 K hK h1 h2
          refine Wf.gc tkX6_foretellWet [22, 45] ?_
          conv => whnf
          refine b2 (nI_nlt (by omega) (by omega)) ?_
          conv => whnf
          refine sX0_pass (calm := false) ?_
          have hw2 : K 54 (i + 1) = wtF I p C i f := h2 i (Nat.le_refl _) hi
          cases hl : lets I p C f i with
          | false =>
            have hl' : cLt (I (p + 1) f) (vxO I p (cOf I C (nI f))) (evO I p (cOf I C (nI f))) false (fw I p f (cOf I C (nI f)) i) = false := hl
            rw [hl']
            conv => whnf
            refine b1 (fun z => z rfl) ?_
            conv => whnf
            rw [nI_s]
            refine ih2 K hK (fun n hn => ?_) (fun n h3 h4 => h2 n (by omega) h4)
            rcases Nat.lt_or_ge n i with h5 | h5
            · exact h1 n h5
            · have e5 : n = i := by omega
              subst e5
              rw [hw2]
              show _ = if lets I p C f n = true then _ else _
              rw [hl, if_neg (by decide)]
          | true =>
            have hl' : cLt (I (p + 1) f) (vxO I p (cOf I C (nI f))) (evO I p (cOf I C (nI f))) false (fw I p f (cOf I C (nI f)) i) = true := hl
            rw [hl']
            conv => whnf
            refine b2 (by decide) ?_
            have ha : K (p + 4) f = I (p + 4) f := by rw [hK (p + 4) (by omega)]
            have fin : Wf l X uX6_foretellWet (d + 2) true (mC (mk w p r I L) + 0, mS (mk w p r I L) + 0) 45 [(0, .ref 1), (1, .int (nI N)), (2, .int (nI f)), (3, .int (nI (i + 1 + 1)))] [] (mk w p r (crf (u2 K 54 (i + 1) (K 54 (i + 1) ||| ((1 : Int32) <<< (K (p + 4) f &&& 31)))) (I (p + 1) f) (I (p + 3) f) (vxO I p (cOf I C (nI f))) (evO I p (cOf I C (nI f))) (fw I p f (cOf I C (nI f)) (i + 1))) L) kr := by
              refine ih2 _ (sc_u2 hK (by decide) (by decide)) (fun n hn => ?_) (fun n h3 h4 => ?_)
              · rcases Nat.lt_or_ge n i with h5 | h5
                · rw [u2_o (by omega)]; exact h1 n h5
                · have e5 : n = i := by omega
                  subst e5
                  rw [u2_s, hw2, ha]
                  show _ = if lets I p C f n = true then _ else _
                  rw [hl, if_pos rfl]
              · rw [u2_o (by omega)]; exact h2 n (by omega) h4
            rw [← crf_u2 (by decide)] at fin
            rcases hp with rfl | rfl
            all_goals
              conv => whnf
              refine ⟨i + 1, ix (N := 61) (by omega) (by decide), ?_⟩
              conv => whnf
              refine ⟨f, ix (N := 6) (by omega) (by decide), ?_⟩
              conv => whnf
              refine ⟨i + 1, ix (N := 61) (by omega) (by decide), ?_⟩
              conv => whnf
              rw [nI_s]
              exact fin
      rcases id hp with rfl | rfl
      all_goals
        refine Wf.gc tkX6_foretellWet [22, 45] ?_
        conv => whnf
        refine b2 (cnle hF' hf (by omega)) ?_
        conv => whnf
        refine sX6_canonOf hp hC' hC5 ?_
        conv => whnf
        refine sX6_startNow hp (by omega) (cOf_lt hC5) ?_
        conv => whnf
        rw [crs_eq hp hJ, nowF_sc hJ, cOf_sc hJ]
        exact inner 0 (Nat.zero_le _) J hJ (fun n hn => absurd hn (by omega)) (fun n _ hn => hr n hn)
  conv => whnf
  refine down (fun i => ∀ J, sc I J → (∀ n, n < i → J 54 (n + 1) = 0) → Wf l X uX6_foretellWet (d + 2) true (mC (mk w p r I L) + 0, mS (mk w p r I L) + 0) 2 [(0, .ref 1), (1, .int (nI N)), (2, .int (nI (i + 1)))] [] (mk w p r J L) kr) N ?_ ?_ 0 (Nat.zero_le _) I sc.rf (fun n hn => absurd hn (by omega))
  · intro J hJ hr
    refine Wf.gc tkX6_foretellWet [2, 22] ?_
    conv => whnf
    refine b1 (fun z => z (nI_lt (by omega) (by omega))) ?_
    conv => whnf
    exact outer 0 (Nat.zero_le _) J hJ hr
  · intro i hi ih J hJ hr
    refine Wf.gc tkX6_foretellWet [2, 22] ?_
    conv => whnf
    refine b2 (nI_nlt (by omega) (by omega)) ?_
    conv => whnf
    refine ⟨i + 1, ix (N := 61) (by omega) (by decide), ?_⟩
    conv => whnf
    rw [nI_s]
    refine ih (u2 J 54 (i + 1) 0) (sc_u2 hJ (by decide) (by decide)) (fun n hn => ?_)
    rcases Nat.lt_or_ge n i with h5 | h5
    · rw [u2_o (by omega)]; exact hr n h5
    · rw [show n = i by omega, u2_s]
set_option maxRecDepth 20000 in
theorem sX6_canLookAhead {n lo hi : Int32} {F C : Nat} (hv : vC p I F C) (h1 : 0 < F → lo ≤ n → n ≤ hi → kr (some (.int 1)) (mk w p r I L)) (h0 : ∀ t : Int32, (F = 0 ∧ t = 1 ∨ 0 < F ∧ t = 2 ∧ ¬ (lo ≤ n ∧ n ≤ hi)) → kr (some (.int 0)) (mk w p r (u2 I 1 13 t) L)) : Ev l X uX6_canLookAhead (d + 2) true 0 0 [.ref 1, .int n, .int lo, .int hi] (mk w p r I L) kr := by
  refine Ev.of (by decide) (Nat.le_of_ble_eq_true rfl) ?_
  refine Wf.gc tkX6_canLookAhead [] ?_
  obtain ⟨hp, hF, hF6, hC, hC5⟩ := id hv
  conv => whnf
  refine sX6_hasClose hp (fun c => ?_) (fun c => ?_)
  · have hF0 : 0 < F := by
      rcases Nat.eq_zero_or_pos F with z | z
      · rw [hF, z] at c; exact absurd c (by decide)
      · exact z
    conv => whnf
    refine b1 (by decide) ?_
    conv => whnf
    refine sX6_numberFits (fun c1 c2 => ?_) (fun c1 => ?_)
    · conv => whnf
      exact ⟨Or.inr rfl, h1 hF0 c1 c2⟩
    · conv => whnf
      exact ⟨Or.inl rfl, h0 2 (Or.inr ⟨hF0, rfl, c1⟩)⟩
  · have hF0 : F = 0 := by
      rcases Nat.eq_zero_or_pos F with z | z
      · exact z
      · exact absurd (by rw [hF]; exact nI_lt (a := 0) z (by omega)) c
    conv => whnf
    refine b2 (fun z => z rfl) ?_
    conv => whnf
    refine sX6_refuse ?_
    conv => whnf
    exact ⟨Or.inl rfl, h0 1 (Or.inl ⟨hF0, rfl⟩)⟩
/-- a question of the close and a number lo .. hi -/
def an1 (F : Nat) (lo hi : Nat) (n : Int32) (g : Nat → Int32) : Int32 × Int32 := if F = 0 then (-1, 1) else match ixR lo hi n with
  | none => (-1, 2)
  | some N => (g N, 0)
theorem an1_0 {F lo hi : Nat} {n t : Int32} {g : Nat → Int32} (h : F = 0 ∧ t = 1 ∨ 0 < F ∧ t = 2 ∧ ¬ (nI lo ≤ n ∧ n ≤ nI hi)) : an1 F lo hi n g = (-1, t) := by
  unfold an1
  rcases h with ⟨h1, h2⟩ | ⟨h1, h2, h3⟩
  · rw [if_pos h1, h2]
  · rw [if_neg (by omega), ixR_none h3, h2]
theorem an1_1 {F lo hi N : Nat} {g : Nat → Int32} (hF : 0 < F) (h1 : lo ≤ N) (h2 : N ≤ hi) (hh : hi < 1000) : an1 F lo hi (nI N) g = (g N, 0) := by
  unfold an1
  rw [if_neg (by omega), ixR_some h1 h2 (by omega)]
set_option maxRecDepth 20000 in
theorem pX6_wet {n : Int32} {F C : Nat} (hv : vC p I F C) (h : ∀ I', qC I (an1 F 1 60 n (fun N => wtF I p C (N - 1) F)).2 I' → kr (some (.int (an1 F 1 60 n (fun N => wtF I p C (N - 1) F)).1)) (mk w p r I' L)) : Ev l X uX6_wet (d + 3) true 0 0 [.ref 1, .int n] (mk w p r I L) kr := by
  refine Ev.of (by decide) (Nat.le_of_ble_eq_true rfl) ?_
  refine Wf.gc tkX6_wet [] ?_
  conv => whnf
  refine sX6_canLookAhead hv (fun hF0 c1 c2 => ?_) (fun t ht => ?_)
  · obtain ⟨N, hN1, hN, e⟩ := ixR_ex (lo := 1) (hi := 60) (by decide) (by decide) c1 c2
    subst e
    rw [an1_1 hF0 hN1 hN (by decide)] at h
    conv => whnf
    refine b1 (by decide) ?_
    conv => whnf
    refine sX6_foretellWet hv hN (fun I' hI hr => ?_)
    conv => whnf
    refine ⟨N, ix (N := 61) (by omega) (by decide), ?_⟩
    conv => whnf
    refine sX6_answer ?_
    conv => whnf
    have e5 := hr (N - 1) (by omega)
    rw [show N - 1 + 1 = N by omega] at e5
    have := h _ (qC_of hI)
    rw [← e5] at this
    exact this
  · rw [an1_0 (lo := 1) (hi := 60) ht] at h
    conv => whnf
    refine b2 (fun z => z rfl) ?_
    conv => whnf
    exact h _ (qC_of sc.rf)
/-- the first of the faces over a cell -/
def fOv (I : Nat → Nat → Int32) (p F : Nat) (k : Int32) : Option Nat := ff (fun f => decide (I (p + 4) f = k)) F 0
def wdO (I : Nat → Nat → Int32) (p F C : Nat) (k : Int32) (N : Nat) : Int32 := match fOv I p F k with
  | none => 0
  | some f => (fw I p f (cOf I C (nI f)) N).2.2.2
theorem sX3_faceOver2 {a N : Nat} {k : Int32} {o : Option Nat} (ha : a = 7 ∨ a = 20) (hN : I a 4 = nI N) (hb : N ≤ 6) (ho : fOv I a N k = o) (h : kr (some (.int (oI o))) (mk w p r I L)) : Ev l X uX3_faceOver d true 0 0 [.ref a, .int k] (mk w p r I L) kr := sX3_faceOver ha hN hb (by rw [show ff (fun f => decide (I (a + 4) f = k)) N 0 = o from ho]; exact h)
theorem sX6_wetDaysOf {k : Int32} {F C N : Nat} (hv : vC p I F C) (hN : N ≤ 60) (h : ∀ I', sc I I' → kr (some (.int (wdO I p F C k N))) (mk w p r I' L)) : Ev l X uX6_wetDaysOf (d + 3) true 0 0 [.ref 1, .int k, .int (nI N)] (mk w p r I L) kr := by
  refine Ev.of (by decide) (Nat.le_of_ble_eq_true rfl) ?_
  refine Wf.gc tkX6_wetDaysOf [] ?_
  obtain ⟨hp, hF, hF6, hC, hC5⟩ := id hv
  have hk : ∀ o, fOv I p F k = o → ∀ I', sc I I' → kr (some (.int (match o with | none => 0 | some f => (fw I p f (cOf I C (nI f)) N).2.2.2))) (mk w p r I' L) := by
    intro o ho
    unfold wdO at h
    rw [ho] at h
    cases o <;> exact h
  have hq := hp
  have fin : ∀ f, fOv I p F k = some f → f < 6 := fun f hf => by have := (ff_lt hf).2.1; omega
  rcases hp with rfl | rfl
  all_goals
    cases ho : fOv I _ F k with
    | none =>
      have h2 := hk none ho
      conv => whnf
      refine sX3_faceOver2 hq hF hF6 ho ?_
      conv => whnf
      refine b2 (fun z => z rfl) ?_
      conv => whnf
      exact h2 I sc.rf
    | some f =>
      have h2 := hk (some f) ho
      have hf := fin f ho
      conv => whnf
      refine sX3_faceOver2 hq hF hF6 ho ?_
      conv => whnf
      refine b1 (fun z => ?_) ?_
      · have z : nI f = -2 := z
        have : 0 ≤ nI f := nI_pos' (by omega)
        rw [z] at this
        exact absurd this (by decide)
      · conv => whnf
        refine sX6_follow hq hC hC5 hf (by omega) ?_
        conv => whnf
        exact h2 _ crs_sc
end SD
