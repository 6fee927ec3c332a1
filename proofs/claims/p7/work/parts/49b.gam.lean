section GAM2
variable {l : Launch} {X : Nat × (Nat → Int32)} {d : Nat} {w : Nat × Nat} {p r : Nat} {I : Nat → Nat → Int32} {L : Nat → Nat → Int64} {kr : KR} {M : Mm} {e : Int32} {F C : Nat}
def gOk (hc : Bool) (e : Int32) : Bool := hc && (decide (0 ≤ e) && decide (e ≤ 9))
theorem gOk_t {hc : Bool} (h : hc = true) (h1 : 0 ≤ e) (h2 : e ≤ 9) : gOk hc e = true := by
  unfold gOk
  rw [h, decide_eq_true h1, decide_eq_true h2]
  rfl
theorem gOk_f {hc : Bool} (h : hc = false ∨ ¬ (0 ≤ e ∧ e ≤ 9)) : gOk hc e = false := by
  unfold gOk
  cases hc with
  | false => rfl
  | true =>
    rcases h with h | h
    · cases h
    · by_cases c : 0 ≤ e
      · rw [decide_eq_true c, decide_eq_false (fun z => h ⟨c, z⟩)]
        rfl
      · rw [decide_eq_false c]
        rfl
set_option maxRecDepth 20000 in
theorem x_canGame (hv : vC p I F C) (h1 : gOk (decide (0 < F)) e = true → 0 ≤ e → e ≤ 9 → kr (some (.int 1)) (mk w p r I L)) (h0 : ∀ t : Int32, gOk (decide (0 < F)) e = false → kr (some (.int 0)) (mk w p r (u2 I 1 13 t) L)) : Ev l X uX6_canGame (d + 3) true 0 0 [.ref 1, .int e] (mk w p r I L) kr := by
  refine Ev.of (by decide) (Nat.le_of_ble_eq_true rfl) ?_
  refine Wf.gc tkX6_canGame [] ?_
  conv => whnf
  refine sX6_canLookAhead hv (fun c0 c1 c2 => ?_) (fun t ht => ?_)
  · conv => whnf
    exact ⟨Or.inr rfl, h1 (gOk_t (decide_eq_true c0) c1 c2) c1 c2⟩
  · conv => whnf
    refine ⟨Or.inl rfl, h0 t (gOk_f ?_)⟩
    rcases ht with ⟨z, -⟩ | ⟨-, -, z⟩
    · exact Or.inl (decide_eq_false (by omega))
    · exact Or.inr z
def vSu (hc : Bool) (e s u o : Int32) : Int32 := cond (gOk hc e) (shr e (decide (¬ s = 0)) (decide (¬ u = 0)) (decide (¬ o = 0))) (-100)
theorem bI_d {P : Prop} [Decidable P] (h : P) : (1 : Int32) = bI (decide P) := by rw [decide_eq_true h]; rfl
theorem bI_n {P : Prop} [Decidable P] (h : ¬ P) : (0 : Int32) = bI (decide P) := by rw [decide_eq_false h]; rfl
set_option maxRecDepth 20000 in
theorem x_sulks {s u o : Int32} (hv : vC p I F C) (h : ∀ I', kr (some (.int (vSu (decide (0 < F)) e s u o))) (mk w p r I' L)) : Ev l X uX6_sulks (d + 4) true 0 0 [.ref 1, .int e, .int s, .int u, .int o] (mk w p r I L) kr := by
  refine Ev.of (by decide) (Nat.le_of_ble_eq_true rfl) ?_
  refine Wf.gc tkX6_sulks [22, 31] ?_
  conv => whnf
  refine x_canGame hv (fun g _ _ => ?_) (fun t g => ?_)
  · conv => whnf
    refine b1 (by decide) ?_
    unfold vSu at h
    rw [g] at h
    have rest : ∀ a b : Bool, a = decide (¬ s = 0) → b = decide (¬ u = 0) → Wf l X uX6_sulks (d + 4) true (mC (mk w p r I L) + 0, mS (mk w p r I L) + 0) 31 [(0, .ref 1), (1, .int e), (2, .int s), (3, .int u), (4, .int o)] [.int (bI b), .int (bI a), .int e, .ref 1] (mk w p r I L) kr := by
      intro a b ha hb
      refine Wf.gc tkX6_sulks [] ?_
      conv => whnf
      refine x_share ?_
      conv => whnf
      refine sX6_answer ?_
      conv => whnf
      rw [ha, hb]
      exact h _
    have mid : ∀ a : Bool, a = decide (¬ s = 0) → Wf l X uX6_sulks (d + 4) true (mC (mk w p r I L) + 0, mS (mk w p r I L) + 0) 22 [(0, .ref 1), (1, .int e), (2, .int s), (3, .int u), (4, .int o)] [.int (bI a), .int e, .ref 1] (mk w p r I L) kr := by
      intro a ha
      refine Wf.gc tkX6_sulks [31] ?_
      conv => whnf
      refine ⟨fun c => ?_, fun c => ?_⟩
      · conv => whnf
        have c : u = 0 := c
        exact rest a false ha (decide_eq_false (fun z => z c)).symm
      · conv => whnf
        have c : ¬ u = 0 := c
        exact rest a true ha (decide_eq_true c).symm
    conv => whnf
    refine ⟨fun c => ?_, fun c => ?_⟩
    · conv => whnf
      have c : s = 0 := c
      exact mid false (decide_eq_false (fun z => z c)).symm
    · conv => whnf
      have c : ¬ s = 0 := c
      exact mid true (decide_eq_true c).symm
  · conv => whnf
    refine b2 (fun z => z rfl) ?_
    conv => whnf
    unfold vSu at h
    rw [g] at h
    exact h _
def isr (e : Int32) (s u : Bool) : Bool := decide (¬ shr e s u false < shr e (!s) u false) && decide (¬ shr e s u true < shr e s (!u) true)
theorem bI_c (b : Bool) : (1 - bI b : Int32) = bI (!b) := by cases b <;> rfl
set_option maxRecDepth 20000 in
theorem x_isRest {s u : Bool} (h : kr (some (.int (bI (isr e s u)))) M) : Ev l X uX6_isRest (d + 1) true 0 0 [.int e, .int (bI s), .int (bI u)] M kr := by
  refine Ev.of (by decide) (Nat.le_of_ble_eq_true rfl) ?_
  refine Wf.gc tkX6_isRest [42] ?_
  have no : isr e s u = false → Wf l X uX6_isRest (d + 1) true (mC M + 0, mS M + 0) 42 [(0, .int e), (1, .int (bI s)), (2, .int (bI u))] [] M kr := by
    intro z
    rw [z] at h
    refine Wf.gc tkX6_isRest [] ?_
    conv => whnf
    exact ⟨Or.inl rfl, h⟩
  conv => whnf
  refine x_share ?_
  conv => whnf
  show Ev l X uX6_share d true 0 0 [.int e, .int (1 - bI s), .int (bI u), .int 0] M _
  rw [bI_c]
  refine x_share ?_
  conv => whnf
  refine ⟨fun c => ?_, fun c => ?_⟩
  · conv => whnf
    have c : shr e s u false < shr e (!s) u false := c
    refine no ?_
    unfold isr
    rw [decide_eq_false (fun z => z c)]
    rfl
  · have c : ¬ shr e s u false < shr e (!s) u false := c
    conv => whnf
    refine x_share ?_
    conv => whnf
    show Ev l X uX6_share d true 0 0 [.int e, .int (bI s), .int (1 - bI u), .int 1] M _
    rw [bI_c]
    refine x_share ?_
    conv => whnf
    refine ⟨fun c2 => ?_, fun c2 => ?_⟩
    · conv => whnf
      have c2 : shr e s u true < shr e s (!u) true := c2
      refine no ?_
      unfold isr
      rw [decide_eq_false (p := ¬ shr e s u true < shr e s (!u) true) (fun z => z c2)]
      exact Bool.and_false _
    · have c2 : ¬ shr e s u true < shr e s (!u) true := c2
      have z : isr e s u = true := by
        unfold isr
        rw [decide_eq_true c, decide_eq_true c2]
        rfl
      rw [z] at h
      conv => whnf
      exact ⟨Or.inr rfl, h⟩
def isP (e : Int32) (k : Nat) : Bool := isr e (decide (k / 2 = 1)) (decide (k % 2 = 1))
def cnP (e : Int32) : Nat → Nat
  | 0 => 0
  | k + 1 => cnP e k + cond (isP e k) 1 0
theorem pr_b : ∀ k, k < 4 → (nI k >>> (1 &&& 31) : Int32) = bI (decide (k / 2 = 1)) ∧ (nI k &&& 1 : Int32) = bI (decide (k % 2 = 1)) := by decide
def vRs (hc : Bool) (e : Int32) : Int32 := cond (gOk hc e) (nI (cnP e 4)) (-1)
set_option maxRecDepth 20000 in
theorem x_rests (hv : vC p I F C) (h : ∀ I', kr (some (.int (vRs (decide (0 < F)) e))) (mk w p r I' L)) : Ev l X uX6_rests (d + 4) true 0 0 [.ref 1, .int e] (mk w p r I L) kr := by
  refine Ev.of (by decide) (Nat.le_of_ble_eq_true rfl) ?_
  refine Wf.gc tkX6_rests [14] ?_
  conv => whnf
  unfold vRs at h
  refine x_canGame hv (fun g _ _ => ?_) (fun t g => ?_)
  · rw [g] at h
    conv => whnf
    refine b1 (by decide) ?_
    conv => whnf
    refine down (fun k => Wf l X uX6_rests (d + 4) true (mC (mk w p r I L) + 0, mS (mk w p r I L) + 0) 14 [(0, .ref 1), (1, .int e), (2, .int (nI (cnP e k))), (3, .int (nI k))] [] (mk w p r I L) kr) 4 ?_ ?_ 0 (Nat.zero_le _)
    · refine Wf.gc tkX6_rests [] ?_
      conv => whnf
      refine b1' (by decide) ?_
      conv => whnf
      refine sX6_answer ?_
      conv => whnf
      exact h _
    · intro k hk ih
      have st : ∀ c : Nat, c = cnP e (k + 1) → Wf l X uX6_rests (d + 4) true (mC (mk w p r I L) + 0, mS (mk w p r I L) + 0) 35 [(0, .ref 1), (1, .int e), (2, .int (nI c)), (3, .int (nI k))] [] (mk w p r I L) kr := by
        intro c hc
        refine Wf.gc tkX6_rests [14] ?_
        conv => whnf
        show Wf l X uX6_rests (d + 4) true (mC (mk w p r I L) + 0, mS (mk w p r I L) + 0) 14 [(0, .ref 1), (1, .int e), (2, .int (nI c)), (3, .int (nI k + 1))] [] (mk w p r I L) kr
        rw [nI_s, hc]
        exact ih
      refine Wf.gc tkX6_rests [35] ?_
      conv => whnf
      refine b2' (by show ¬ (4 : Int32) ≤ nI k; rw [show (4 : Int32) = nI 4 from rfl, nI_leI (by decide) (by omega)]; omega) ?_
      conv => whnf
      show Ev l X uX6_isRest (d + 3) true 0 0 [.int e, .int (nI k >>> (1 &&& 31)), .int (nI k &&& 1)] (mk w p r I L) _
      rw [(pr_b k hk).1, (pr_b k hk).2]
      refine x_isRest (d := d + 2) ?_
      conv => whnf
      cases hq : isr e (decide (k / 2 = 1)) (decide (k % 2 = 1)) with
      | false =>
        refine b1' rfl ?_
        conv => whnf
        refine st _ ?_
        show cnP e k = cnP e k + cond (isP e k) 1 0
        unfold isP
        rw [hq]
        rfl
      | true =>
        refine b2' (by decide) ?_
        conv => whnf
        show Wf l X uX6_rests (d + 4) true (mC (mk w p r I L) + 0, mS (mk w p r I L) + 0) 35 [(0, .ref 1), (1, .int e), (2, .int (nI (cnP e k) + 1)), (3, .int (nI k))] [] (mk w p r I L) kr
        rw [nI_s]
        refine st _ ?_
        show cnP e k + 1 = cnP e k + cond (isP e k) 1 0
        unfold isP
        rw [hq]
        rfl
  · rw [g] at h
    conv => whnf
    refine b2 (fun z => z rfl) ?_
    conv => whnf
    exact h _
def fsP (e : Int32) : Option Nat := ff (isP e) 4 0
def vRt (hc : Bool) (e : Int32) : Int32 := cond (gOk hc e) (match fsP e with | none => -2 | some k => nI (10 * (k / 2) + k % 2)) (-1)
theorem pr_c : ∀ k, k < 4 → ((10 : Int32) * (nI k >>> (1 &&& 31)) + (nI k &&& 1)) = nI (10 * (k / 2) + k % 2) := by decide
set_option maxRecDepth 20000 in
theorem x_rest (hv : vC p I F C) (h : ∀ I', kr (some (.int (vRt (decide (0 < F)) e))) (mk w p r I' L)) : Ev l X uX6_rest (d + 4) true 0 0 [.ref 1, .int e] (mk w p r I L) kr := by
  refine Ev.of (by decide) (Nat.le_of_ble_eq_true rfl) ?_
  refine Wf.gc tkX6_rest [12] ?_
  conv => whnf
  unfold vRt at h
  refine x_canGame hv (fun g _ _ => ?_) (fun t g => ?_)
  · rw [g] at h
    conv => whnf
    refine b1 (by decide) ?_
    conv => whnf
    refine srch (e := 4) (P := isP e) (Wi := fun k => Wf l X uX6_rest (d + 4) true (mC (mk w p r I L) + 0, mS (mk w p r I L) + 0) 12 [(0, .ref 1), (1, .int e), (2, .int (nI k))] [] (mk w p r I L) kr) (K := fun o => o = fsP e) (fun ho => ?_) (fun k hk => ?_) 0 (Nat.zero_le _) rfl
    · refine Wf.gc tkX6_rest [] ?_
      conv => whnf
      refine b1' (by decide) ?_
      conv => whnf
      refine sX6_answer ?_
      conv => whnf
      rw [← ho] at h
      exact h _
    · have st : isP e k = true ∨ isP e k = false → True := fun _ => trivial
      refine ⟨fun hP ho => ?_, fun hP ih => ?_⟩
      · refine Wf.gc tkX6_rest [] ?_
        conv => whnf
        refine b2' (by show ¬ (4 : Int32) ≤ nI k; rw [show (4 : Int32) = nI 4 from rfl, nI_leI (by decide) (by omega)]; omega) ?_
        conv => whnf
        show Ev l X uX6_isRest (d + 3) true 0 0 [.int e, .int (nI k >>> (1 &&& 31)), .int (nI k &&& 1)] (mk w p r I L) _
        rw [(pr_b k hk).1, (pr_b k hk).2]
        refine x_isRest (d := d + 2) ?_
        conv => whnf
        have hP : isr e (decide (k / 2 = 1)) (decide (k % 2 = 1)) = true := hP
        rw [hP]
        refine b2' (by decide) ?_
        conv => whnf
        refine sX6_answer ?_
        conv => whnf
        rw [← ho] at h
        have := h (u2 I 1 13 0)
        show kr (some (.int ((10 : Int32) * (nI k >>> (1 &&& 31)) + (nI k &&& 1)))) _
        rw [pr_c k hk]
        exact this
      · refine Wf.gc tkX6_rest [12] ?_
        conv => whnf
        refine b2' (by show ¬ (4 : Int32) ≤ nI k; rw [show (4 : Int32) = nI 4 from rfl, nI_leI (by decide) (by omega)]; omega) ?_
        conv => whnf
        show Ev l X uX6_isRest (d + 3) true 0 0 [.int e, .int (nI k >>> (1 &&& 31)), .int (nI k &&& 1)] (mk w p r I L) _
        rw [(pr_b k hk).1, (pr_b k hk).2]
        refine x_isRest (d := d + 2) ?_
        conv => whnf
        have hP : isr e (decide (k / 2 = 1)) (decide (k % 2 = 1)) = false := hP
        rw [hP]
        refine b1' rfl ?_
        conv => whnf
        show Wf l X uX6_rest (d + 4) true (mC (mk w p r I L) + 0, mS (mk w p r I L) + 0) 12 [(0, .ref 1), (1, .int e), (2, .int (nI k + 1))] [] (mk w p r I L) kr
        rw [nI_s]
        exact ih
  · rw [g] at h
    conv => whnf
    refine b2 (fun z => z rfl) ?_
    conv => whnf
    exact h _
end GAM2
