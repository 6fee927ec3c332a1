/-- a place below N -/
def ixR (lo hi : Nat) (x : Int32) : Option Nat := if nI lo ≤ x ∧ x ≤ nI hi then some x.toNatClampNeg else none
def ixO (N : Nat) (x : Int32) : Option Nat := if 0 ≤ x ∧ x < nI N then some x.toNatClampNeg else none
theorem ixO_some {N j : Nat} (h : j < N) (hN : N < 2147483648) : ixO N (nI j) = some j := by
  unfold ixO
  rw [if_pos ⟨nI_pos' (by omega), nI_lt h hN⟩, nI_clamp (by omega)]
theorem ixO_none {N : Nat} {x : Int32} (hN : N < 2147483648) (h : ¬ ∃ j, j < N ∧ x = nI j) : ixO N x = none := by
  unfold ixO
  rw [if_neg]
  intro z
  obtain ⟨j, hj, e⟩ := le_nI hN (Int32.not_lt.mpr z.1) (Int32.not_le.mpr z.2)
  exact h ⟨j, hj, e⟩
theorem ixR_some {lo hi j : Nat} (h1 : lo ≤ j) (h2 : j ≤ hi) (hN : hi < 2147483648) : ixR lo hi (nI j) = some j := by
  unfold ixR
  rw [if_pos ⟨nI_le h1 (by omega), nI_le h2 hN⟩, nI_clamp (by omega)]
theorem ixR_none {lo hi : Nat} {x : Int32} (h : ¬ (nI lo ≤ x ∧ x ≤ nI hi)) : ixR lo hi x = none := if_neg h
theorem ixR_ex {lo hi : Nat} {x : Int32} (hN : hi < 2147483648) (hl : lo ≤ hi) (h1 : nI lo ≤ x) (h2 : x ≤ nI hi) : ∃ j, lo ≤ j ∧ j ≤ hi ∧ x = nI j := by
  obtain ⟨j, hj, e⟩ := nI_of2 (n := hi) (nI_toInt hN) (x := x) (fun z => Int32.not_le.mpr z (Int32.le_trans (nI_pos' (by omega)) h1)) h2
  subst e
  refine ⟨j, ?_, hj, rfl⟩
  exact (nI_leI (by omega) (by omega)).mp h1
theorem ixO_lt {N j : Nat} {x : Int32} (hN : N < 2147483648) (h : ixO N x = some j) : j < N ∧ x = nI j := by
  unfold ixO at h
  split at h
  · rename_i z
    obtain ⟨i, hi, e⟩ := le_nI hN (Int32.not_lt.mpr z.1) (Int32.not_le.mpr z.2)
    subst e
    rw [nI_clamp (by omega)] at h
    cases h
    exact ⟨hi, rfl⟩
  · cases h
/-- what a query of the close leaves: the trouble t, else all but the rows 40 to 54 as it was -/
def qC (I : Nat → Nat → Int32) (t : Int32) (I' : Nat → Nat → Int32) : Prop := (∀ a, a ≠ 1 → (a < 40 ∨ 54 < a) → I' a = I a) ∧ (∀ j, j ≠ 13 → I' 1 j = I 1 j) ∧ I' 1 13 = t
theorem qC_of {I I' : Nat → Nat → Int32} {t : Int32} (h : sc I I') : qC I t (u2 I' 1 13 t) :=
  ⟨fun a h1 h2 => by rw [u2_oa h1]; exact h a h2, fun j hj => by rw [u2_o (fun z => hj z.2), h 1 (Or.inl (by decide))], u2_s⟩
def tr2 (F : Nat) (f : Int32) (lo hi : Nat) (n t : Int32) : Prop := match ixO F f with
  | none => t = 1
  | some _ => t = 2 ∧ ixR lo hi n = none
section SC
variable {l : Launch} {X : Nat × (Nat → Int32)} {d : Nat} {w : Nat × Nat} {p r : Nat} {I : Nat → Nat → Int32} {L : Nat → Nat → Int64} {kr : KR}
/-- the close's counts -/
def vC (p : Nat) (I : Nat → Nat → Int32) (F C : Nat) : Prop := (p = 7 ∨ p = 20) ∧ I p 4 = nI F ∧ F ≤ 6 ∧ I p 10 = nI C ∧ C ≤ 5
theorem vC.sc {I' : Nat → Nat → Int32} {F C : Nat} (h : vC p I F C) (hs : sc I I') : vC p I' F C := by
  obtain ⟨h1, h2, h3, h4, h5⟩ := h
  have e : I' p = I p := hs p (Or.inl (by omega))
  exact ⟨h1, by rw [e]; exact h2, h3, by rw [e]; exact h4, h5⟩
theorem sX6_numberFits {n : Int32} {lo hi : Int32} (h1 : lo ≤ n → n ≤ hi → kr (some (.int 1)) (mk w p r I L)) (h0 : ¬ (lo ≤ n ∧ n ≤ hi) → kr (some (.int 0)) (mk w p r (u2 I 1 13 2) L)) : Ev l X uX6_numberFits (d + 1) true 0 0 [.ref 1, .int n, .int lo, .int hi] (mk w p r I L) kr := by
  refine Ev.of (by decide) (Nat.le_of_ble_eq_true rfl) ?_
  refine Wf.gc tkX6_numberFits [] ?_
  conv => whnf
  refine sX6_within (fun c1 c2 => ?_) (fun c1 => ?_)
  · conv => whnf
    refine b1 (by decide) ?_
    conv => whnf
    exact ⟨Or.inr rfl, h1 c1 c2⟩
  · conv => whnf
    refine b2 (fun z => z rfl) ?_
    conv => whnf
    refine sX6_refuse ?_
    conv => whnf
    exact ⟨Or.inl rfl, h0 c1⟩
theorem sX6_canFollow {f n : Int32} {F C : Nat} (hv : vC p I F C) (h1 : ∀ j N, j < F → f = nI j → N ≤ 60 → n = nI N → kr (some (.int 1)) (mk w p r I L)) (h0 : ∀ t : Int32, tr2 F f 0 60 n t → kr (some (.int 0)) (mk w p r (u2 I 1 13 t) L)) : Ev l X uX6_canFollow (d + 2) true 0 0 [.ref 1, .int f, .int n] (mk w p r I L) kr := by
  refine Ev.of (by decide) (Nat.le_of_ble_eq_true rfl) ?_
  refine Wf.gc tkX6_canFollow [] ?_
  obtain ⟨hp, hF, hF6, hC, hC5⟩ := hv
  conv => whnf
  refine sX6_isFace hp hF (by omega) (fun j hj e => ?_) (fun c => ?_)
  · conv => whnf
    refine b1 (by decide) ?_
    conv => whnf
    subst e
    refine sX6_numberFits (fun c1 c2 => ?_) (fun c1 => ?_)
    · conv => whnf
      obtain ⟨N, -, hN, e⟩ := ixR_ex (lo := 0) (hi := 60) (by decide) (by decide) c1 c2
      exact ⟨Or.inr rfl, h1 j N hj rfl hN e⟩
    · conv => whnf
      exact ⟨Or.inl rfl, h0 2 (by unfold tr2; rw [ixO_some hj (by omega)]; exact ⟨rfl, ixR_none c1⟩)⟩
  · conv => whnf
    refine b2 (fun z => z rfl) ?_
    conv => whnf
    refine sX6_refuse ?_
    conv => whnf
    exact ⟨Or.inl rfl, h0 1 (by unfold tr2; rw [ixO_none (by omega) c])⟩
/-- a question of a face (below F) and a number lo .. hi: its answer, its trouble -/
def an2 (F : Nat) (f : Int32) (lo hi : Nat) (n : Int32) (g : Nat → Nat → Int32) : Int32 × Int32 := match ixO F f with
  | none => (-1, 1)
  | some j => match ixR lo hi n with
    | none => (-1, 2)
    | some N => (g j N, 0)
theorem an2_0 {F : Nat} {f : Int32} {lo hi : Nat} {n : Int32} {g : Nat → Nat → Int32} {t : Int32} (h : tr2 F f lo hi n t) : an2 F f lo hi n g = (-1, t) := by
  unfold an2
  unfold tr2 at h
  cases hx : ixO F f with
  | none => rw [hx] at h; rw [h]
  | some j => rw [hx] at h; rw [h.2, h.1]
theorem an2_1 {F j N : Nat} {lo hi : Nat} {g : Nat → Nat → Int32} (hj : j < F) (hF : F < 1000) (h1 : lo ≤ N) (h2 : N ≤ hi) (hh : hi < 1000) : an2 F (nI j) lo hi (nI N) g = (g j N, 0) := by
  unfold an2
  rw [ixO_some hj (by omega)]
  dsimp only
  rw [ixR_some h1 h2 (by omega)]
theorem crs_sc {p f : Nat} {o : Option Nat} {y : Fc} : sc I (crs I p f o y) := cr_sc
theorem pX6_bears {f n : Int32} {F C : Nat} (hv : vC p I F C) (h : ∀ I', qC I (an2 F f 0 60 n (fun j N => (fw I p j (cOf I C (nI j)) N).2.2.1)).2 I' → kr (some (.int (an2 F f 0 60 n (fun j N => (fw I p j (cOf I C (nI j)) N).2.2.1)).1)) (mk w p r I' L)) : Ev l X uX6_bears (d + 3) true 0 0 [.ref 1, .int f, .int n] (mk w p r I L) kr := by
  refine Ev.of (by decide) (Nat.le_of_ble_eq_true rfl) ?_
  refine Wf.gc tkX6_bears [] ?_
  obtain ⟨hp, hF, hF6, hC, hC5⟩ := id hv
  conv => whnf
  refine sX6_canFollow hv (fun j N hj ef hN en => ?_) (fun t ht => ?_)
  · subst ef
    subst en
    rw [an2_1 hj (by omega) (Nat.zero_le _) hN (by omega)] at h
    conv => whnf
    refine b1 (by decide) ?_
    conv => whnf
    refine sX6_follow hp hC hC5 (by omega) (by omega) ?_
    conv => whnf
    refine sX6_answer ?_
    conv => whnf
    exact h _ (qC_of crs_sc)
  · rw [an2_0 ht] at h
    conv => whnf
    refine b2 (fun z => z rfl) ?_
    conv => whnf
    exact h _ (qC_of sc.rf)
theorem pX6_holds {f n : Int32} {F C : Nat} (hv : vC p I F C) (h : ∀ I', qC I (an2 F f 0 60 n (fun j N => (fw I p j (cOf I C (nI j)) N).2.1)).2 I' → kr (some (.int (an2 F f 0 60 n (fun j N => (fw I p j (cOf I C (nI j)) N).2.1)).1)) (mk w p r I' L)) : Ev l X uX6_holds (d + 3) true 0 0 [.ref 1, .int f, .int n] (mk w p r I L) kr := by
  refine Ev.of (by decide) (Nat.le_of_ble_eq_true rfl) ?_
  refine Wf.gc tkX6_holds [] ?_
  obtain ⟨hp, hF, hF6, hC, hC5⟩ := id hv
  conv => whnf
  refine sX6_canFollow hv (fun j N hj ef hN en => ?_) (fun t ht => ?_)
  · subst ef
    subst en
    rw [an2_1 hj (by omega) (Nat.zero_le _) hN (by omega)] at h
    conv => whnf
    refine b1 (by decide) ?_
    conv => whnf
    refine sX6_follow hp hC hC5 (by omega) (by omega) ?_
    conv => whnf
    refine sX6_answer ?_
    conv => whnf
    exact h _ (qC_of crs_sc)
  · rw [an2_0 ht] at h
    conv => whnf
    refine b2 (fun z => z rfl) ?_
    conv => whnf
    exact h _ (qC_of sc.rf)
theorem pX6_drops {f n : Int32} {F C : Nat} (hv : vC p I F C) (h : ∀ I', qC I (an2 F f 0 60 n (fun j N => (fw I p j (cOf I C (nI j)) N).2.2.2)).2 I' → kr (some (.int (an2 F f 0 60 n (fun j N => (fw I p j (cOf I C (nI j)) N).2.2.2)).1)) (mk w p r I' L)) : Ev l X uX6_drops (d + 3) true 0 0 [.ref 1, .int f, .int n] (mk w p r I L) kr := by
  refine Ev.of (by decide) (Nat.le_of_ble_eq_true rfl) ?_
  refine Wf.gc tkX6_drops [] ?_
  obtain ⟨hp, hF, hF6, hC, hC5⟩ := id hv
  conv => whnf
  refine sX6_canFollow hv (fun j N hj ef hN en => ?_) (fun t ht => ?_)
  · subst ef
    subst en
    rw [an2_1 hj (by omega) (Nat.zero_le _) hN (by omega)] at h
    conv => whnf
    refine b1 (by decide) ?_
    conv => whnf
    refine sX6_follow hp hC hC5 (by omega) (by omega) ?_
    conv => whnf
    refine sX6_answer ?_
    conv => whnf
    exact h _ (qC_of crs_sc)
  · rw [an2_0 ht] at h
    conv => whnf
    refine b2 (fun z => z rfl) ?_
    conv => whnf
    exact h _ (qC_of sc.rf)
end SC
