section SE
variable {l : Launch} {X : Nat × (Nat → Int32)} {d : Nat} {w : Nat × Nat} {p r : Nat} {I : Nat → Nat → Int32} {L : Nat → Nat → Int64} {kr : KR}
theorem sX6_isCell {k : Int32} {Z : Nat} (hp : p = 7 ∨ p = 20) (hZ : I p 0 * I p 1 = nI Z) (hb : Z < 1000) (h1 : ∀ j, j < Z → k = nI j → kr (some (.int 1)) (mk w p r I L)) (h0 : (¬ ∃ j, j < Z ∧ k = nI j) → kr (some (.int 0)) (mk w p r I L)) : Ev l X uX6_isCell (d + 1) true 0 0 [.ref 1, .int k] (mk w p r I L) kr := by
  refine Ev.of (by decide) (Nat.le_of_ble_eq_true rfl) ?_
  refine Wf.gc tkX6_isCell [] ?_
  have hq := hp
  rcases hp with rfl | rfl
  all_goals
    conv => whnf
    refine ⟨fun c1 => ?_, fun c1 => ?_⟩
    · conv => whnf
      exact ⟨Or.inl rfl, h0 (not_ix (by omega) (Or.inl c1))⟩
    · conv => whnf
      refine sX3_cells hq ?_
      conv => whnf
      refine ⟨fun c2 => ?_, fun c2 => ?_⟩
      · conv => whnf
        exact ⟨Or.inl rfl, h0 (not_ix (by omega) (Or.inr (hZ ▸ c2)))⟩
      · conv => whnf
        obtain ⟨j, hj, e⟩ := le_nI (n := Z) (by omega) c1 (fun z => c2 (by rw [← hZ] at z; exact z))
        exact ⟨Or.inr rfl, h1 j hj e⟩
theorem pX6_wetDays {k n : Int32} {F C Z : Nat} (hv : vC p I F C) (hZ : I p 0 * I p 1 = nI Z) (hb : Z ≤ 20) (h : ∀ I', qC I (an2 Z k 0 60 n (fun j N => wdO I p F C (nI j) N)).2 I' → kr (some (.int (an2 Z k 0 60 n (fun j N => wdO I p F C (nI j) N)).1)) (mk w p r I' L)) : Ev l X uX6_wetDays (d + 4) true 0 0 [.ref 1, .int k, .int n] (mk w p r I L) kr := by
  refine Ev.of (by decide) (Nat.le_of_ble_eq_true rfl) ?_
  refine Wf.gc tkX6_wetDays [] ?_
  obtain ⟨hp, hF, hF6, hC, hC5⟩ := id hv
  conv => whnf
  refine sX6_isCell hp hZ (by omega) (fun j hj e => ?_) (fun c => ?_)
  · subst e
    conv => whnf
    refine b1 (by decide) ?_
    conv => whnf
    refine sX6_within (fun c1 c2 => ?_) (fun c1 => ?_)
    · obtain ⟨N, -, hN, e⟩ := ixR_ex (lo := 0) (hi := 60) (by decide) (by decide) c1 c2
      subst e
      rw [an2_1 hj (by omega) (Nat.zero_le _) hN (by omega)] at h
      conv => whnf
      refine b1 (by decide) ?_
      conv => whnf
      refine sX6_wetDaysOf hv hN (fun I' hI => ?_)
      conv => whnf
      refine sX6_answer ?_
      conv => whnf
      exact h _ (qC_of hI)
    · rw [an2_0 (t := 2) (by unfold tr2; rw [ixO_some hj (by omega)]; exact ⟨rfl, ixR_none c1⟩)] at h
      conv => whnf
      refine b2 (fun z => z rfl) ?_
      conv => whnf
      refine sX6_refuse ?_
      conv => whnf
      exact h _ (qC_of sc.rf)
  · rw [an2_0 (t := 1) (by unfold tr2; rw [ixO_none (by omega) c])] at h
    conv => whnf
    refine b2 (fun z => z rfl) ?_
    conv => whnf
    refine sX6_refuse ?_
    conv => whnf
    exact h _ (qC_of sc.rf)
/-- a question of the close alone -/
def an0 (F : Nat) (v : Int32) : Int32 × Int32 := if F = 0 then (-1, 1) else (v, 0)
theorem sX6_hasC {F C : Nat} (hv : vC p I F C) (h1 : 0 < F → kr (some (.int 1)) (mk w p r I L)) (h0 : F = 0 → kr (some (.int 0)) (mk w p r I L)) : Ev l X uX6_hasClose d true 0 0 [.ref 1] (mk w p r I L) kr := by
  obtain ⟨hp, hF, hF6, hC, hC5⟩ := id hv
  refine sX6_hasClose hp (fun c => h1 ?_) (fun c => h0 ?_)
  · rcases Nat.eq_zero_or_pos F with z | z
    · rw [hF, z] at c; exact absurd c (by decide)
    · exact z
  · rcases Nat.eq_zero_or_pos F with z | z
    · exact z
    · exact absurd (by rw [hF]; exact nI_lt (a := 0) z (by omega)) c
/-- the best cell of the first k + 1, and how often it is wet -/
def wtB (g : Nat → Int32) : Nat → Nat × Int32
  | 0 => (0, g 0)
  | k + 1 => if g (k + 1) ≤ (wtB g k).2 then wtB g k else (k + 1, g (k + 1))
theorem wdO_sc {J : Nat → Nat → Int32} {F C : Nat} {k : Int32} {N : Nat} (hp : p = 7 ∨ p = 20) (h : sc I J) : wdO J p F C k N = wdO I p F C k N := by
  unfold wdO fOv
  rw [h (p + 4) (by omega)]
  cases ff (fun f => decide (I (p + 4) f = k)) F 0 with
  | none => rfl
  | some f =>
    show (fw J p f (cOf J C (nI f)) N).2.2.2 = (fw I p f (cOf I C (nI f)) N).2.2.2
    rw [fw_sc hp h, cOf_sc h]
set_option maxRecDepth 20000 in
theorem pX6_wettest {F C Z : Nat} (hv : vC p I F C) (hZ : I p 0 * I p 1 = nI Z) (hZ0 : 0 < F → 1 ≤ Z) (hb : Z ≤ 20) (h : ∀ I', qC I (an0 F (nI (wtB (fun k => wdO I p F C (nI k) 60) (Z - 1)).1)).2 I' → kr (some (.int (an0 F (nI (wtB (fun k => wdO I p F C (nI k) 60) (Z - 1)).1)).1)) (mk w p r I' L)) : Ev l X uX6_wettest (d + 4) true 0 0 [.ref 1] (mk w p r I L) kr := by
  refine Ev.of (by decide) (Nat.le_of_ble_eq_true rfl) ?_
  refine Wf.gc tkX6_wettest [25] ?_
  obtain ⟨hp, hF, hF6, hC, hC5⟩ := id hv
  conv => whnf
  refine sX6_hasC hv (fun hF0 => ?_) (fun hF0 => ?_)
  · unfold an0 at h
    rw [if_neg (by omega)] at h
    conv => whnf
    refine b1 (by decide) ?_
    conv => whnf
    refine sX6_wetDaysOf (N := 60) hv (by decide) (fun I0 hI0 => ?_)
    conv => whnf
    have hZ1 := hZ0 hF0
    refine down (fun i => ∀ J, sc I J → Wf l X uX6_wettest (d + 4) true _ 25 [(0, .ref 1), (1, .int (nI (wtB (fun k => wdO I p F C (nI k) 60) i).1)), (2, .int (wtB (fun k => wdO I p F C (nI k) 60) i).2), (3, .int (nI (i + 1)))] [] (mk w p r J L) kr) (Z - 1) ?_ ?_ 0 (Nat.zero_le _) I0 hI0
    · intro J hJ
      have hZ' : J p 0 * J p 1 = nI Z := by rw [hJ p (by omega)]; exact hZ
      have hq := hp
      rcases hp with rfl | rfl
      all_goals
        refine Wf.gc tkX6_wettest [25] ?_
        conv => whnf
        refine sX3_cells hq ?_
        conv => whnf
        refine b1 (fun z => z (cle hZ' (by omega) (by omega))) ?_
        conv => whnf
        refine sX6_answer ?_
        conv => whnf
        exact h _ (qC_of hJ)
    · intro i hi ih J hJ
      have hZ' : J p 0 * J p 1 = nI Z := by rw [hJ p (by omega)]; exact hZ
      have hv' := hv.sc hJ
      have hq := hp
      have key : ∀ K, sc I K → Wf l X uX6_wettest (d + 4) true (mC (mk w p r I L) + 0, mS (mk w p r I L) + 0) 43 [(0, .ref 1), (1, .int (nI (wtB (fun k => wdO I p F C (nI k) 60) i).1)), (2, .int (wtB (fun k => wdO I p F C (nI k) 60) i).2), (3, .int (nI (i + 1)))] [.int (wdO I p F C (nI (i + 1)) 60)] (mk w p r K L) kr := by
        intro K hK
        refine Wf.gc tkX6_wettest [25] ?_
        conv => whnf
        have ih' := ih K hK
        refine ⟨fun c => ?_, fun c => ?_⟩
        · have e5 : wtB (fun k => wdO I p F C (nI k) 60) (i + 1) = wtB (fun k => wdO I p F C (nI k) 60) i := if_pos c
          rw [e5] at ih'
          conv => whnf
          rw [nI_s]
          exact Wf.keep [0, 1, 2, 3] ih'
        · have e5 : wtB (fun k => wdO I p F C (nI k) 60) (i + 1) = (i + 1, wdO I p F C (nI (i + 1)) 60) := if_neg c
          rw [e5] at ih'
          conv => whnf
          rw [nI_s]
          exact Wf.keep [0, 1, 2, 3] ih'
      rcases hp with rfl | rfl
      all_goals
        refine Wf.gc tkX6_wettest [25, 43] ?_
        conv => whnf
        refine sX3_cells hq ?_
        conv => whnf
        refine b2 (cnle hZ' (by omega) (by omega)) ?_
        conv => whnf
        refine sX6_wetDaysOf (N := 60) hv' (by decide) (fun I2 hI2 => ?_)
        rw [wdO_sc hq hJ]
        conv => whnf
        exact key I2 (hJ.tr hI2)
  · unfold an0 at h
    rw [if_pos hF0] at h
    conv => whnf
    refine b2 (fun z => z rfl) ?_
    conv => whnf
    refine sX6_refuse ?_
    conv => whnf
    exact h _ (qC_of sc.rf)
set_option maxRecDepth 20000 in
theorem pX6_sunny {F C : Nat} (hv : vC p I F C) (h : ∀ I', qC I (an0 F (oI ((ff (fun i => decide (wtF I p C i F = 0)) 60 0).map (· + 1)))).2 I' → kr (some (.int (an0 F (oI ((ff (fun i => decide (wtF I p C i F = 0)) 60 0).map (· + 1)))).1)) (mk w p r I' L)) : Ev l X uX6_sunny (d + 3) true 0 0 [.ref 1] (mk w p r I L) kr := by
  refine Ev.of (by decide) (Nat.le_of_ble_eq_true rfl) ?_
  refine Wf.gc tkX6_sunny [21] ?_
  conv => whnf
  refine sX6_hasC hv (fun hF0 => ?_) (fun hF0 => ?_)
  · unfold an0 at h
    rw [if_neg (by omega)] at h
    conv => whnf
    refine b1 (by decide) ?_
    conv => whnf
    refine sX6_foretellWet (N := 60) hv (by decide) (fun J hJ hr => ?_)
    conv => whnf
    refine srch (e := 60) (P := fun i => decide (wtF I p C i F = 0)) (Wi := fun i => Wf l X uX6_sunny (d + 3) true _ 21 [(0, .ref 1), (1, .int (nI (i + 1)))] [] (mk w p r J L) kr) (K := fun o => ∀ I', qC I 0 I' → kr (some (.int (oI (o.map (· + 1))))) (mk w p r I' L)) (fun hk => ?_) (fun i hi => ⟨fun hP hk => ?_, fun hP hw => ?_⟩) 0 (Nat.zero_le _) h
    · refine Wf.gc tkX6_sunny [21] ?_
      conv => whnf
      refine b1 (by decide) ?_
      conv => whnf
      refine sX6_answer ?_
      conv => whnf
      exact hk _ (qC_of hJ)
    · have hP := of_decide_eq_true hP
      rw [← hr i hi] at hP
      refine Wf.gc tkX6_sunny [21] ?_
      conv => whnf
      refine b2 (nI_nlt (a := 60) (by omega) (by decide)) ?_
      conv => whnf
      refine ⟨i + 1, ix (N := 61) (by omega) (by decide), ?_⟩
      conv => whnf
      refine b2 (fun z => z hP) ?_
      conv => whnf
      refine sX6_answer ?_
      conv => whnf
      exact hk _ (qC_of hJ)
    · have hP := of_decide_eq_false hP
      rw [← hr i hi] at hP
      refine Wf.gc tkX6_sunny [21] ?_
      conv => whnf
      refine b2 (nI_nlt (a := 60) (by omega) (by decide)) ?_
      conv => whnf
      refine ⟨i + 1, ix (N := 61) (by omega) (by decide), ?_⟩
      conv => whnf
      refine b1 hP ?_
      conv => whnf
      rw [nI_s]
      exact hw
  · unfold an0 at h
    rw [if_pos hF0] at h
    conv => whnf
    refine b2 (fun z => z rfl) ?_
    conv => whnf
    refine sX6_refuse ?_
    conv => whnf
    exact h _ (qC_of sc.rf)
/-- a set of faces: those that have fallen behind N days, of the first f -/
def flF (I : Nat → Nat → Int32) (p C N : Nat) : Nat → Int32
  | 0 => 0
  | f + 1 => if (fw I p f (cOf I C (nI f)) N).2.1 = 0 then flF I p C N f ||| ((1 : Int32) <<< (nI f &&& 31)) else flF I p C N f
set_option maxRecDepth 20000 in
theorem pX6_fallen {n : Int32} {F C : Nat} (hv : vC p I F C) (h : ∀ I', qC I (an1 F 0 60 n (fun N => flF I p C N F)).2 I' → kr (some (.int (an1 F 0 60 n (fun N => flF I p C N F)).1)) (mk w p r I' L)) : Ev l X uX6_fallen (d + 3) true 0 0 [.ref 1, .int n] (mk w p r I L) kr := by
  refine Ev.of (by decide) (Nat.le_of_ble_eq_true rfl) ?_
  refine Wf.gc tkX6_fallen [17] ?_
  obtain ⟨hp, hF, hF6, hC, hC5⟩ := id hv
  conv => whnf
  refine sX6_canLookAhead hv (fun hF0 c1 c2 => ?_) (fun t ht => ?_)
  · obtain ⟨N, -, hN, e⟩ := ixR_ex (lo := 0) (hi := 60) (by decide) (by decide) c1 c2
    subst e
    rw [an1_1 hF0 (Nat.zero_le _) hN (by decide)] at h
    conv => whnf
    refine b1 (by decide) ?_
    conv => whnf
    refine down (fun f => ∀ J, sc I J → Wf l X uX6_fallen (d + 3) true _ 17 [(0, .ref 1), (1, .int (nI N)), (2, .int (flF I p C N f)), (3, .int (nI f))] [] (mk w p r J L) kr) F ?_ ?_ 0 (Nat.zero_le _) I sc.rf
    · intro J hJ
      have hF' : J p 4 = nI F := by rw [hJ p (by omega)]; exact hF
      rcases hp with rfl | rfl
      all_goals
        refine Wf.gc tkX6_fallen [17] ?_
        conv => whnf
        refine b1 (fun z => z (cle hF' (Nat.le_refl _) (by omega))) ?_
        conv => whnf
        refine sX6_answer ?_
        conv => whnf
        exact h _ (qC_of hJ)
    · intro f hf ih J hJ
      have hF' : J p 4 = nI F := by rw [hJ p (by omega)]; exact hF
      have hC' : J p 10 = nI C := by rw [hJ p (by omega)]; exact hC
      have hq := hp
      have ih' := fun K hK => ih K hK
      rcases hp with rfl | rfl
      all_goals
        refine Wf.gc tkX6_fallen [17] ?_
        conv => whnf
        refine b2 (cnle hF' hf (by omega)) ?_
        conv => whnf
        refine sX6_follow hq hC' hC5 (by omega) (by omega) ?_
        rw [fw_sc hq hJ, cOf_sc hJ]
        conv => whnf
        refine ⟨fun c => ?_, fun c => ?_⟩
        · have c : ¬ (fw I _ f (cOf I C (nI f)) N).2.1 = 0 := c
          have ih2 := ih'
          simp only [flF, if_neg c] at ih2
          conv => whnf
          rw [nI_s]
          exact ih2 _ (hJ.tr crs_sc)
        · have c : (fw I _ f (cOf I C (nI f)) N).2.1 = 0 := c
          have ih2 := ih'
          simp only [flF, if_pos c] at ih2
          conv => whnf
          rw [nI_s]
          exact ih2 _ (hJ.tr crs_sc)
  · rw [an1_0 (lo := 0) (hi := 60) ht] at h
    conv => whnf
    refine b2 (fun z => z rfl) ?_
    conv => whnf
    exact h _ (qC_of sc.rf)
end SE
