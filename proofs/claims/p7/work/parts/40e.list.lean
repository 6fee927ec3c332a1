/-! memories by lists: the names' kinds, lengths, references; all numbers 0 -/
abbrev Dl : Type := List (Nat × Nat × List Nat)
def kd (D : Dl) : Nat → Nat × Nat
  | 0 => (0, 0)
  | a + 1 => ((D.getD a (0, 0, [])).1, (D.getD a (0, 0, [])).2.1)
def rd (D : Dl) (a i : Nat) : Nat := match a with
  | 0 => 0
  | a + 1 => (D.getD a (0, 0, [])).2.2.getD i 0
def mkD (D : Dl) (s : Nat) (I : Nat → Nat → Int32) : Mm := ((D.length, D.length, s, kd D), I, (fun _ _ => 0), rd D)
def I00 : Nat → Nat → Int32 := fun _ _ => 0
def dA (D : Dl) (k n m : Nat) : Dl := D ++ [(k, n, List.replicate m 0)]
def dR (D : Dl) (a i v : Nat) : Dl := D.modify (a - 1) (fun x => (x.1, x.2.1, x.2.2.set i v))
def rln (D : Dl) (a : Nat) : Nat := (D.getD (a - 1) (0, 0, [])).2.2.length
theorem gd_none {D : Dl} {a : Nat} (h : D.length ≤ a) : D.getD a (0, 0, []) = (0, 0, []) := by
  rw [List.getD_eq_getElem?_getD, List.getElem?_eq_none h]
  rfl
theorem dA_len {D : Dl} {k n m : Nat} : (dA D k n m).length = D.length + 1 := by simp [dA]
theorem dR_len {D : Dl} {a i v : Nat} : (dR D a i v).length = D.length := by simp [dR]
theorem dA_o {D : Dl} {k n m a : Nat} (h : a < D.length) : (dA D k n m).getD a (0, 0, []) = D.getD a (0, 0, []) := by
  unfold dA
  rw [List.getD_eq_getElem?_getD, List.getD_eq_getElem?_getD, List.getElem?_append_left h]
theorem dA_s {D : Dl} {k n m : Nat} : (dA D k n m).getD D.length (0, 0, []) = (k, n, List.replicate m 0) := by
  unfold dA
  rw [List.getD_eq_getElem?_getD, List.getElem?_append_right (Nat.le_refl _), Nat.sub_self]
  rfl
theorem dR_o {D : Dl} {a i v b : Nat} (h : b ≠ a - 1) : (dR D a i v).getD b (0, 0, []) = D.getD b (0, 0, []) := by
  unfold dR
  have e : ¬ a - 1 = b := fun z => h z.symm
  rw [List.getD_eq_getElem?_getD, List.getD_eq_getElem?_getD, List.getElem?_modify]
  simp [e]
theorem dR_s {D : Dl} {a i v : Nat} (h : a - 1 < D.length) : (dR D a i v).getD (a - 1) (0, 0, []) = ((D.getD (a - 1) (0, 0, [])).1, (D.getD (a - 1) (0, 0, [])).2.1, (D.getD (a - 1) (0, 0, [])).2.2.set i v) := by
  unfold dR
  rw [List.getD_eq_getElem?_getD, List.getD_eq_getElem?_getD, List.getElem?_modify, List.getElem?_eq_getElem h]
  simp
/-- the self of a constructor -/
def slf (D : Dl) (a c n : Nat) : Prop := 0 < a ∧ a ≤ D.length ∧ kd D a = (c, 0) ∧ rln D a = n
theorem kd_dA {D : Dl} {k n m a : Nat} (h : a ≤ D.length) : kd (dA D k n m) a = kd D a := by
  cases a with
  | zero => rfl
  | succ a => show (_, _) = (_, _); rw [dA_o h]
theorem kd_dAs {D : Dl} {k n m : Nat} : kd (dA D k n m) (D.length + 1) = (k, n) := by
  show (_, _) = (_, _); rw [dA_s]
theorem kd_dR {D : Dl} {a i v b : Nat} : kd (dR D a i v) b = kd D b := by
  cases b with
  | zero => rfl
  | succ b =>
    by_cases h : b = a - 1
    · by_cases hl : a - 1 < D.length
      · subst h
        show (_, _) = (_, _)
        rw [dR_s hl]
      · have h1 : (dR D a i v).getD b (0, 0, []) = D.getD b (0, 0, []) := by
          rw [List.getD_eq_getElem?_getD, List.getD_eq_getElem?_getD, List.getElem?_eq_none (by rw [dR_len]; omega), List.getElem?_eq_none (by omega)]
        show (_, _) = (_, _); rw [h1]
    · show (_, _) = (_, _); rw [dR_o h]
theorem slf_dA {D : Dl} {a c n k m z : Nat} (h : slf D a c n) : slf (dA D k m z) a c n := by
  obtain ⟨h0, h1, h2, h3⟩ := h
  refine ⟨h0, by rw [dA_len]; omega, by rw [kd_dA h1]; exact h2, ?_⟩
  unfold rln at h3 ⊢
  rw [dA_o (by omega)]
  exact h3
theorem slf_dR {D : Dl} {a c n b i v : Nat} (h : slf D a c n) : slf (dR D b i v) a c n := by
  obtain ⟨h0, h1, h2, h3⟩ := h
  refine ⟨h0, by rw [dR_len]; exact h1, by rw [kd_dR]; exact h2, ?_⟩
  unfold rln at h3 ⊢
  by_cases e : a - 1 = b - 1
  · rw [e, dR_s (by omega), List.length_set, ← e]
    exact h3
  · rw [dR_o e]
    exact h3
theorem slf_new {D : Dl} {c n : Nat} : slf (dA D c 0 n) (D.length + 1) c n := by
  refine ⟨Nat.succ_pos _, by rw [dA_len]; exact Nat.le_refl _, kd_dAs, ?_⟩
  unfold rln
  rw [Nat.add_sub_cancel, dA_s, List.length_replicate]
theorem wA_D {D : Dl} {s k n m z : Nat} {I : Nat → Nat → Int32} (hI : ∀ j, I (D.length + 1) j = 0) : wA (mkD D s I) (k, n) m = mkD (dA D k n z) (s + m) I := by
  have hl := dA_len (D := D) (k := k) (n := n) (m := z)
  have hi : ∀ b : Nat, (if b = D.length + 1 then (k, n) else kd D b) = kd (dA D k n z) b := by
    intro b
    by_cases h : b = D.length + 1
    · rw [if_pos h, h, kd_dAs]
    · rw [if_neg h]
      by_cases h2 : b ≤ D.length
      · rw [kd_dA h2]
      · cases b with
        | zero => rfl
        | succ b =>
          show (_, _) = (_, _)
          rw [List.getD_eq_getElem?_getD, List.getD_eq_getElem?_getD, List.getElem?_eq_none (by omega), List.getElem?_eq_none (by rw [hl]; omega)]
  have hr : ∀ b j : Nat, (if b = D.length + 1 then 0 else rd D b j) = rd (dA D k n z) b j := by
    intro b j
    by_cases h : b = D.length + 1
    · rw [if_pos h, h]
      show 0 = ((dA D k n z).getD D.length (0, 0, [])).2.2.getD j 0
      rw [dA_s]
      show 0 = (List.replicate z 0).getD j 0
      rw [List.getD_eq_getElem?_getD, List.getElem?_replicate]
      split <;> rfl
    · rw [if_neg h]
      cases b with
      | zero => rfl
      | succ b =>
        show ((D.getD b (0, 0, [])).2.2.getD j 0) = ((dA D k n z).getD b (0, 0, [])).2.2.getD j 0
        by_cases h2 : b < D.length
        · rw [dA_o h2]
        · rw [gd_none (D := D) (by omega), gd_none (D := dA D k n z) (by rw [hl]; omega)]
  show ((D.length + 1, D.length + 1, s + m, fun b => if b = D.length + 1 then (k, n) else kd D b), (fun b j => if b = D.length + 1 then 0 else I b j), (fun b j => if b = D.length + 1 then 0 else (0 : Int64)), (fun b j => if b = D.length + 1 then 0 else rd D b j)) = (((dA D k n z).length, (dA D k n z).length, s + m, kd (dA D k n z)), I, (fun _ _ => (0 : Int64)), rd (dA D k n z))
  rw [hl, show (fun b => if b = D.length + 1 then (k, n) else kd D b) = kd (dA D k n z) from funext hi, show (fun b j => if b = D.length + 1 then 0 else rd D b j) = rd (dA D k n z) from funext fun b => funext fun j => hr b j]
  have hII : (fun b j => if b = D.length + 1 then 0 else I b j) = I := by
    funext b j
    by_cases h : b = D.length + 1
    · rw [if_pos h, h, hI j]
    · rw [if_neg h]
  rw [hII]
  simp only [ite_self]
theorem wR_D {D : Dl} {s a i v : Nat} {I : Nat → Nat → Int32} (h0 : 0 < a) (h1 : a ≤ D.length) (h2 : i < rln D a) : wR (mkD D s I) a i v = mkD (dR D a i v) s I := by
  have hl := dR_len (D := D) (a := a) (i := i) (v := v)
  have hr : ∀ b j : Nat, (if b = a ∧ j = i then v else rd D b j) = rd (dR D a i v) b j := by
    intro b j
    cases b with
    | zero => rw [if_neg (by omega)]; rfl
    | succ b =>
      show _ = ((dR D a i v).getD b (0, 0, [])).2.2.getD j 0
      by_cases e : b = a - 1
      · subst e
        rw [dR_s (by omega)]
        show _ = ((D.getD (a - 1) (0, 0, [])).2.2.set i v).getD j 0
        rw [List.getD_eq_getElem?_getD, List.getElem?_set]
        by_cases ej : i = j
        · rw [if_pos ⟨by omega, ej.symm⟩, if_pos ej, if_pos (show i < (D.getD (a - 1) (0, 0, [])).2.2.length from h2)]
          rfl
        · rw [if_neg (fun z => ej z.2.symm), if_neg ej, ← List.getD_eq_getElem?_getD]
          rfl
      · rw [if_neg (by omega), dR_o e]
        rfl
  show ((D.length, D.length, s, kd D), I, (fun _ _ => (0 : Int64)), (fun b j => if b = a ∧ j = i then v else rd D b j)) = (((dR D a i v).length, (dR D a i v).length, s, kd (dR D a i v)), I, (fun _ _ => (0 : Int64)), rd (dR D a i v))
  rw [hl, show kd (dR D a i v) = kd D from funext fun b => kd_dR, show (fun b j => if b = a ∧ j = i then v else rd D b j) = rd (dR D a i v) from funext fun b => funext fun j => hr b j]
theorem wI_D {D : Dl} {s a i : Nat} : wI (mkD D s I00) a i 0 = mkD D s I00 := by
  show ((D.length, D.length, s, kd D), (fun b j => if b = a ∧ j = i then (0 : Int32) else 0), _, _) = _
  simp only [ite_self]
  rfl
