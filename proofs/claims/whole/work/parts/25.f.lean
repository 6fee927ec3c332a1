section SF
variable {l : Launch} {X : Nat × (Nat → Int32)} {d : Nat} {w : Nat × Nat} {p r : Nat} {I : Nat → Nat → Int32} {L : Nat → Nat → Int64} {kr : KR}
theorem sJ9_max {x y : Int32} {M : Mm} (h : kr (some (.int (if x < y then y else x))) M) : Ev l X uJ9_max_7cf53 d true 0 0 [.int x, .int y] M kr := by
  refine Ev.of (by decide) (Nat.le_of_ble_eq_true rfl) ?_
  refine Wf.gc tkJ9_max_7cf53 [] ?_
  conv => whnf
  refine ⟨fun c => ?_, fun c => ?_⟩
  · rw [if_pos c] at h
    conv => whnf
    exact h
  · rw [if_neg c] at h
    conv => whnf
    exact h
theorem sJ9_min {x y : Int32} {M : Mm} (h : kr (some (.int (if y < x then y else x))) M) : Ev l X uJ9_min_7cf53 d true 0 0 [.int x, .int y] M kr := by
  refine Ev.of (by decide) (Nat.le_of_ble_eq_true rfl) ?_
  refine Wf.gc tkJ9_min_7cf53 [] ?_
  conv => whnf
  refine ⟨fun c => ?_, fun c => ?_⟩
  · rw [if_pos c] at h
    conv => whnf
    exact h
  · rw [if_neg c] at h
    conv => whnf
    exact h
def mx (x y : Int32) : Int32 := if x < y then y else x
/-- the most that face f bears behind the first n days, m before -/
def hvN (I : Nat → Nat → Int32) (p C f : Nat) (m : Int32) : Nat → Int32
  | 0 => m
  | n + 1 => mx (hvN I p C f m n) (fw I p f (cOf I C (nI f)) (n + 1)).2.2.1
def hvF (I : Nat → Nat → Int32) (p C : Nat) : Nat → Int32
  | 0 => 0
  | f + 1 => hvN I p C f (hvF I p C f) 60
set_option maxRecDepth 20000 in
theorem pX6_heaviest {F C : Nat} (hv : vC p I F C) (h : ∀ I', qC I (an0 F (hvF I p C F)).2 I' → kr (some (.int (an0 F (hvF I p C F)).1)) (mk w p r I' L)) : Ev l X uX6_heaviest (d + 2) true 0 0 [.ref 1] (mk w p r I L) kr := by
  refine Ev.of (by decide) (Nat.le_of_ble_eq_true rfl) ?_
  refine Wf.gc tkX6_heaviest [17] ?_
  obtain ⟨hp, hF, hF6, hC, hC5⟩ := id hv
  conv => whnf
  refine sX6_hasC hv (fun hF0 => ?_) (fun hF0 => ?_)
  · unfold an0 at h
    rw [if_neg (by omega)] at h
    conv => whnf
    refine b1 (by decide) ?_
    conv => whnf
    refine down (fun f => ∀ J, sc I J → Wf l X uX6_heaviest (d + 2) true _ 17 [(0, .ref 1), (1, .int (hvF I p C f)), (2, .int (nI f))] [] (mk w p r J L) kr) F ?_ ?_ 0 (Nat.zero_le _) I sc.rf
    · intro J hJ
      have hF' : J p 4 = nI F := by rw [hJ p (by omega)]; exact hF
      rcases hp with rfl | rfl
      all_goals
        refine Wf.gc tkX6_heaviest [17] ?_
        conv => whnf
        refine b1 (fun z => z (cle hF' (Nat.le_refl _) (by omega))) ?_
        conv => whnf
        refine sX6_answer ?_
        conv => whnf
        exact h _ (qC_of hJ)
    · intro f hf ih J hJ
      have hF' : J p 4 = nI F := by rw [hJ p (by omega)]; exact hF
      have hC' : J p 10 = nI C := by rw [hJ p (by omega)]; exact hC
      have inner : ∀ i, i ≤ 60 → ∀ K, sc I K → Wf l X uX6_heaviest (d + 2) true (mC (mk w p r I L) + 0, mS (mk w p r I L) + 0) 40 [(0, .ref 1), (1, .int (hvN I p C f (hvF I p C f) i)), (2, .int (nI f)), (3, .int (nI (i + 1)))] [] (mk w p r (crf K (I (p + 1) f) (I (p + 3) f) (vxO I p (cOf I C (nI f))) (evO I p (cOf I C (nI f))) (fw I p f (cOf I C (nI f)) i)) L) kr := by
        refine down (fun i => ∀ K, sc I K → Wf l X uX6_heaviest (d + 2) true (mC (mk w p r I L) + 0, mS (mk w p r I L) + 0) 40 [(0, .ref 1), (1, .int (hvN I p C f (hvF I p C f) i)), (2, .int (nI f)), (3, .int (nI (i + 1)))] [] (mk w p r (crf K (I (p + 1) f) (I (p + 3) f) (vxO I p (cOf I C (nI f))) (evO I p (cOf I C (nI f))) (fw I p f (cOf I C (nI f)) i)) L) kr) 60 ?_ ?_
        · intro K hK
          refine Wf.gc tkX6_heaviest [17, 40] ?_
          conv => whnf
          refine b1 (by decide) ?_
          conv => whnf
          rw [nI_s]
          exact Wf.keep [0, 1, 2] (ih _ (sc_crf hK))
        · intro i hi ih2 K hK
          refine Wf.gc tkX6_heaviest [17, 40] ?_
          conv => whnf
          refine b2 (nI_nlt (a := 60) (by omega) (by decide)) ?_
          conv => whnf
          refine sX0_pass (calm := false) ?_
          conv => whnf
          refine sJ9_max ?_
          conv => whnf
          rw [nI_s]
          exact ih2 K hK
      have hq := hp
      rcases hp with rfl | rfl
      all_goals
        refine Wf.gc tkX6_heaviest [17, 40] ?_
        conv => whnf
        refine b2 (cnle hF' hf (by omega)) ?_
        conv => whnf
        refine sX6_canonOf hq hC' hC5 ?_
        conv => whnf
        refine sX6_startNow hq (by omega) (cOf_lt hC5) ?_
        rw [crs_eq hq hJ, nowF_sc hJ, cOf_sc hJ]
        conv => whnf
        exact inner 0 (Nat.zero_le _) J hJ
  · unfold an0 at h
    rw [if_pos hF0] at h
    conv => whnf
    refine b2 (fun z => z rfl) ?_
    conv => whnf
    refine sX6_refuse ?_
    conv => whnf
    exact h _ (qC_of sc.rf)
/-! days by draws -/
def dw (x : Int32) : Int32 := jr (75 * x + 74) 65537
theorem sX6_draw {x : Int32} {M : Mm} (h : kr (some (.int (dw x))) M) : Ev l X uX6_draw d true 0 0 [.int x] M kr := by
  refine Ev.of (by decide) (Nat.le_of_ble_eq_true rfl) ?_
  refine Wf.gc tkX6_draw [] ?_
  conv => whnf
  refine ⟨by decide, ?_⟩
  conv => whnf
  exact h
def cm (I : Nat → Nat → Int32) (p : Nat) (x : Int32) : Bool := decide (jr x 100 < I p 2)
theorem sX6_isCalm {x : Int32} (hp : p = 7 ∨ p = 20) (h : kr (some (.int (bI (cm I p x)))) (mk w p r I L)) : Ev l X uX6_isCalm d true 0 0 [.ref 1, .int x] (mk w p r I L) kr := by
  refine Ev.of (by decide) (Nat.le_of_ble_eq_true rfl) ?_
  refine Wf.gc tkX6_isCalm [] ?_
  unfold cm at h
  rcases hp with rfl | rfl
  all_goals
    conv => whnf
    refine ⟨by decide, ?_⟩
    conv => whnf
    refine ⟨fun c => ?_, fun c => ?_⟩
    · have c : I _ 2 ≤ jr x 100 := c
      rw [decide_eq_false (Int32.not_lt.mpr c)] at h
      conv => whnf
      exact ⟨Or.inl rfl, h⟩
    · have c : ¬ I _ 2 ≤ jr x 100 := c
      rw [decide_eq_true (Int32.not_le.mp c)] at h
      conv => whnf
      exact ⟨Or.inr rfl, h⟩
/-- draws from a seed on: the n-th -/
def dwN (s : Int32) : Nat → Int32
  | 0 => s
  | n + 1 => dw (dwN s n)
/-- a face's course behind n days by a seed -/
def fs (I : Nat → Nat → Int32) (p f : Nat) (o : Option Nat) (s : Int32) : Nat → Fc
  | 0 => nowF I f
  | n + 1 => cSt (I (p + 1) f) (I (p + 3) f) (vxO I p o) (evO I p o) (cm I p (dwN s (n + 1))) (fs I p f o s n)
def letS (I : Nat → Nat → Int32) (p f : Nat) (o : Option Nat) (s : Int32) (n : Nat) : Bool := cLt (I (p + 1) f) (vxO I p o) (evO I p o) (cm I p (dwN s (n + 1))) (fs I p f o s n)
theorem cm_crf {J : Nat → Nat → Int32} {k wr v e x : Int32} {y : Fc} (hp : p = 7 ∨ p = 20) : cm (crf J k wr v e y) p x = cm J p x := by
  unfold cm crf
  rw [cr_o (by omega)]
set_option maxRecDepth 20000 in
theorem pX6_borne {f s n : Int32} {F C : Nat} (hv : vC p I F C) (h : ∀ v t I', (match ixO F f with | none => v = -1 ∧ t = 1 | some j => match ixO 65537 s with | none => v = -1 ∧ t = 2 | some _ => match ixR 0 60 n with | none => v = -1 ∧ t = 2 | some N => v = (fs I p j (cOf I C (nI j)) s N).2.2.1 ∧ t = 0) → qC I t I' → kr (some (.int v)) (mk w p r I' L)) : Ev l X uX6_borne (d + 2) true 0 0 [.ref 1, .int f, .int s, .int n] (mk w p r I L) kr := by
  refine Ev.of (by decide) (Nat.le_of_ble_eq_true rfl) ?_
  refine Wf.gc tkX6_borne [53] ?_
  obtain ⟨hp, hF, hF6, hC, hC5⟩ := id hv
  conv => whnf
  refine sX6_isFace hp hF (by omega) (fun j hj e => ?_) (fun c => ?_)
  · subst e
    rw [ixO_some hj (by omega)] at h
    conv => whnf
    refine b1 (by decide) ?_
    conv => whnf
    refine sX6_isSeed (fun sj hsj e => ?_) (fun c => ?_)
    · subst e
      rw [ixO_some hsj (by decide)] at h
      conv => whnf
      refine b2 (by decide) ?_
      conv => whnf
      refine sX6_within (fun c1 c2 => ?_) (fun c1 => ?_)
      · obtain ⟨N, -, hN, e⟩ := ixR_ex (lo := 0) (hi := 60) (by decide) (by decide) c1 c2
        subst e
        rw [ixR_some (Nat.zero_le _) hN (by decide)] at h
        conv => whnf
        refine b1 (by decide) ?_
        conv => whnf
        refine sX6_canonOf hp hC hC5 ?_
        conv => whnf
        refine sX6_startNow hp (by omega) (cOf_lt hC5) ?_
        conv => whnf
        refine down (fun i => Wf l X uX6_borne (d + 2) true _ 53 [(0, .ref 1), (1, .int (nI j)), (2, .int (nI sj)), (3, .int (nI N)), (4, .int (dwN (nI sj) i)), (5, .int (nI (i + 1)))] [] (mk w p r (crf I (I (p + 1) j) (I (p + 3) j) (vxO I p (cOf I C (nI j))) (evO I p (cOf I C (nI j))) (fs I p j (cOf I C (nI j)) (nI sj) i)) L) kr) N ?_ (fun i hi ih => ?_) 0 (Nat.zero_le _)
        · refine Wf.gc tkX6_borne [53] ?_
          conv => whnf
          refine b1 (fun z => z (nI_lt (by omega) (by omega))) ?_
          conv => whnf
          refine sX6_answer ?_
          conv => whnf
          exact h _ _ _ ⟨rfl, rfl⟩ (qC_of (sc_crf sc.rf))
        · refine Wf.gc tkX6_borne [53] ?_
          conv => whnf
          refine b2 (nI_nlt (by omega) (by omega)) ?_
          conv => whnf
          refine sX6_draw ?_
          conv => whnf
          refine sX6_isCalm hp ?_
          rw [cm_crf hp]
          conv => whnf
          refine sX0_pass ?_
          conv => whnf
          rw [nI_s]
          exact ih
      · rw [ixR_none (by exact c1)] at h
        conv => whnf
        refine b2 (fun z => z rfl) ?_
        conv => whnf
        refine sX6_refuse ?_
        conv => whnf
        exact h _ _ _ ⟨rfl, rfl⟩ (qC_of sc.rf)
    · rw [ixO_none (by decide) c] at h
      conv => whnf
      refine b1 (fun z => z rfl) ?_
      conv => whnf
      refine sX6_refuse ?_
      conv => whnf
      exact h _ _ _ ⟨rfl, rfl⟩ (qC_of sc.rf)
  · rw [ixO_none (by omega) c] at h
    conv => whnf
    refine b2 (fun z => z rfl) ?_
    conv => whnf
    refine sX6_refuse ?_
    conv => whnf
    exact h _ _ _ ⟨rfl, rfl⟩ (qC_of sc.rf)
set_option maxRecDepth 20000 in
theorem sX6_firstDropBySeed {j sj N C : Nat} (hp : p = 7 ∨ p = 20) (hC : I p 10 = nI C) (hC5 : C ≤ 5) (hj : j < 6) (hN : N ≤ 60) (h : ∀ I', sc I I' → kr (some (.int (oI ((ff (fun i => letS I p j (cOf I C (nI j)) (nI sj) i) N 0).map (· + 1))))) (mk w p r I' L)) : Ev l X uX6_firstDropBySeed (d + 2) true 0 0 [.ref 1, .int (nI j), .int (nI sj), .int (nI N)] (mk w p r I L) kr := by
  refine Ev.of (by decide) (Nat.le_of_ble_eq_true rfl) ?_
  refine Wf.gc tkX6_firstDropBySeed [16] ?_
  conv => whnf
  refine sX6_canonOf hp hC hC5 ?_
  conv => whnf
  refine sX6_startNow hp hj (cOf_lt hC5) ?_
  conv => whnf
  refine srch (e := N) (P := fun i => letS I p j (cOf I C (nI j)) (nI sj) i) (Wi := fun i => Wf l X uX6_firstDropBySeed (d + 2) true _ 16 [(0, .ref 1), (1, .int (nI j)), (2, .int (nI sj)), (3, .int (nI N)), (4, .int (dwN (nI sj) i)), (5, .int (nI (i + 1)))] [] (mk w p r (crf I (I (p + 1) j) (I (p + 3) j) (vxO I p (cOf I C (nI j))) (evO I p (cOf I C (nI j))) (fs I p j (cOf I C (nI j)) (nI sj) i)) L) kr) (K := fun o => ∀ I', sc I I' → kr (some (.int (oI (o.map (· + 1))))) (mk w p r I' L)) (fun hk => ?_) (fun i hi => ⟨fun hP hk => ?_, fun hP hw => ?_⟩) 0 (Nat.zero_le _) h
  · refine Wf.gc tkX6_firstDropBySeed [16] ?_
    conv => whnf
    refine b1 (fun z => z (nI_lt (by omega) (by omega))) ?_
    conv => whnf
    exact hk _ (sc_crf sc.rf)
  all_goals
    refine Wf.gc tkX6_firstDropBySeed [16] ?_
    conv => whnf
    refine b2 (nI_nlt (by omega) (by omega)) ?_
    conv => whnf
    refine sX6_draw ?_
    conv => whnf
    refine sX6_isCalm hp ?_
    rw [cm_crf hp]
    conv => whnf
    refine sX0_pass ?_
    have hP : cLt (I (p + 1) j) (vxO I p (cOf I C (nI j))) (evO I p (cOf I C (nI j))) (cm I p (dw (dwN (nI sj) i))) (fs I p j (cOf I C (nI j)) (nI sj) i) = _ := hP
    rw [hP]
    conv => whnf
  · refine b2 (by decide) ?_
    conv => whnf
    exact hk _ (sc_crf sc.rf)
  · refine b1 (fun z => z rfl) ?_
    conv => whnf
    rw [nI_s]
    exact hw
end SF
