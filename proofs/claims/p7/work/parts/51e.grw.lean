/-! the plain row of a day that comes, calm or not, so vexed -/
section GRW
/-- a row's bounds, whatever its day -/
def RIg (P : Ps) (S : Rw) : Prop := (∀ f, f < P.1 4 → ∃ h, h ≤ 99 ∧ S f = nI h) ∧ (∀ c, c < P.1 5 → ∃ j, j < P.1 4 ∧ S (18 + c) = nI j) ∧ (∀ c c', c < c' → c' < P.1 5 → S (18 + c) ≠ S (18 + c')) ∧ True
theorem RI.g {P : Ps} {S : Rw} (h : RI P S) : RIg P S := ⟨h.1, h.2.1, h.2.2.1, trivial⟩
def vxG (V : Nat → Int32) : Option Nat → Int32
  | none => 0
  | some c => V c
def gK (P : Ps) (f : Nat) : Int32 := nI (P.1 (11 + 4 * f))
def gWr (P : Ps) (f : Nat) : Int32 := nI (P.1 (13 + 4 * f))
def gO (P : Ps) (S : Rw) (f : Nat) : Option Nat := cnS (P.1 5) S (nI f)
def gF (P : Ps) (V : Nat → Int32) (calm : Bool) (S : Rw) (f : Nat) : Fc := cSt (gK P f) (gWr P f) (vxG V (gO P S f)) (evP P (gO P S f)) calm (S 23, S f, S (6 + f), S (12 + f))
def gLt (P : Ps) (V : Nat → Int32) (calm : Bool) (S : Rw) (f : Nat) : Bool := cLt (gK P f) (vxG V (gO P S f)) (evP P (gO P S f)) calm (S 23, S f, S (6 + f), S (12 + f))
def gWt (P : Ps) (V : Nat → Int32) (calm : Bool) (S : Rw) : Nat → Int32
  | 0 => 0
  | n + 1 => if gLt P V calm S n = true then gWt P V calm S n ||| ((1 : Int32) <<< (nI (P.1 (14 + 4 * n)) &&& 31)) else gWt P V calm S n
def gR (P : Ps) (V : Nat → Int32) (calm : Bool) (S : Rw) : Rw := fun i => if i < P.1 4 then (gF P V calm S i).2.1 else if 6 ≤ i ∧ i < 6 + P.1 4 then (gF P V calm S (i - 6)).2.2.1 else if 12 ≤ i ∧ i < 12 + P.1 4 then (gF P V calm S (i - 12)).2.2.2 else if i = 23 then S 23 + 1 else if i = 24 then gWt P V calm S (P.1 4) else S i
def vx0 (P : Ps) : Nat → Int32 := fun c => nI (P.1 (35 + 2 * c))
theorem cSt_d (k w v e : Int32) (calm : Bool) (n h b d : Int32) : cSt k w v e calm (n, h, b, d) = ((cSt k w v e calm (n, h, b, 0)).1, (cSt k w v e calm (n, h, b, 0)).2.1, (cSt k w v e calm (n, h, b, 0)).2.2.1, d + (cSt k w v e calm (n, h, b, 0)).2.2.2) := by
  unfold cSt
  dsimp only
  split
  · dsimp only; rw [Int32.add_zero]
  · split
    · dsimp only; rw [Int32.add_zero]
    · split
      · dsimp only; rw [Int32.zero_add]
      · dsimp only; rw [Int32.zero_add]
theorem vx_0 (P : Ps) (o : Option Nat) : vxG (vx0 P) o = vxP P o := by cases o <;> rfl
theorem gF_0 (P : Ps) (S : Rw) (f : Nat) : gF P (vx0 P) false S f = ((nxF P S f).1, (nxF P S f).2.1, (nxF P S f).2.2.1, S (12 + f) + (nxF P S f).2.2.2) := by
  unfold gF nxF
  rw [vx_0]
  exact cSt_d _ _ _ _ _ _ _ _ _
theorem gLt_0 (P : Ps) (S : Rw) (f : Nat) : gLt P (vx0 P) false S f = ltF P S f := by
  unfold gLt ltF
  rw [vx_0]
  rfl
theorem gWt_0 (P : Ps) (S : Rw) : ∀ n, gWt P (vx0 P) false S n = wtS P S n
  | 0 => rfl
  | n + 1 => by
    show (if gLt P (vx0 P) false S n = true then _ else _) = (if ltF P S n = true then _ else _)
    rw [gLt_0, gWt_0 P S n]
theorem nR_g (P : Ps) (S : Rw) : gR P (vx0 P) false S = nR P S := by
  funext i
  unfold gR nR
  rw [gF_0, gF_0, gF_0, gWt_0]
  split
  · rfl
  · split
    · rfl
    · split
      · rename_i _ _ z
        show S (12 + (i - 12)) + _ = S i + _
        rw [show 12 + (i - 12) = i by omega]
      · rfl
/-- what a face bears once canons were vexed -/
def gB (P : Ps) (V : Nat → Int32) (calm : Bool) (S : Rw) (f : Nat) : Int32 := if S f = 0 then S (6 + f) else cVx (vxG V (gO P S f)) (evP P (gO P S f)) calm (S 23 + 1) (S (6 + f))
def gM1 (P : Ps) (V : Nat → Int32) (calm : Bool) (S : Rw) (i f : Nat) : Int32 := match gO P S f with
  | none => S (6 + f)
  | some c => if c < i then gB P V calm S f else S (6 + f)
def T1 (P : Ps) (V : Nat → Int32) (calm : Bool) (S : Rw) (i : Nat) : Rw := fun j => if j = 23 then S 23 + 1 else if j = 24 then 0 else if 6 ≤ j ∧ j < 6 + P.1 4 then gM1 P V calm S i (j - 6) else S j
variable {P : Ps} {V : Nat → Int32} {calm : Bool} {S : Rw} {i g f : Nat}
theorem gO_lt {c : Nat} (h : gO P S f = some c) : c < P.1 5 ∧ S (18 + c) = nI f := by
  have := ff_lt h
  exact ⟨by omega, of_decide_eq_true this.2.2⟩
theorem gO_of (hS : RIg P S) (hi : i < P.1 5) (hg : S (18 + i) = nI g) : gO P S g = some i := by
  cases hq : gO P S g with
  | none =>
    have := ff_none (P := fun c => decide (S (18 + c) = nI g)) hq i (Nat.zero_le _) (by omega)
    rw [decide_eq_true hg] at this
    cases this
  | some c =>
    obtain ⟨c1, c2⟩ := gO_lt hq
    rcases Nat.lt_trichotomy c i with z | z | z
    · exact absurd (c2.trans hg.symm) (hS.2.2.1 c i z hi)
    · rw [z]
    · exact absurd (hg.trans c2.symm) (hS.2.2.1 i c z c1)
theorem gM1_o (h : gO P S f ≠ some i) : gM1 P V calm S (i + 1) f = gM1 P V calm S i f := by
  unfold gM1
  cases hq : gO P S f with
  | none => rfl
  | some c =>
    have hc : c ≠ i := fun z => h (by rw [hq, z])
    by_cases z : c < i
    · show (if c < i + 1 then _ else _) = (if c < i then _ else _)
      rw [if_pos z, if_pos (by omega)]
    · show (if c < i + 1 then _ else _) = (if c < i then _ else _)
      rw [if_neg z, if_neg (by omega)]
theorem gM1_n (h : gO P S f = some i) : gM1 P V calm S i f = S (6 + f) := by
  unfold gM1
  rw [h]
  exact if_neg (Nat.lt_irrefl _)
theorem gM1_s (h : gO P S f = some i) : gM1 P V calm S (i + 1) f = gB P V calm S f := by
  unfold gM1
  rw [h]
  exact if_pos (Nat.lt_succ_self _)
theorem T1_s (hF : P.1 4 ≤ 6) (hS : RIg P S) (hi : i < P.1 5) (hgF : g < P.1 4) (hg : S (18 + i) = nI g) : T1 P V calm S (i + 1) = uR (T1 P V calm S i) (6 + g) (gB P V calm S g) := by
  have hO := gO_of hS hi hg
  funext j
  unfold uR
  by_cases e : j = 6 + g
  · subst e
    rw [if_pos rfl]
    unfold T1
    rw [if_neg (by omega), if_neg (by omega), if_pos (by omega), Nat.add_sub_cancel_left]
    exact gM1_s hO
  · rw [if_neg e]
    unfold T1
    split
    · rfl
    · split
      · rfl
      · split
        · refine gM1_o (fun z => e ?_)
          have := (nI_eq (by omega) (by omega)).mp ((gO_lt z).2.symm.trans hg)
          omega
        · rfl
theorem T1_g (hF : P.1 4 ≤ 6) (hS : RIg P S) (hi : i < P.1 5) (hgF : g < P.1 4) (hg : S (18 + i) = nI g) : T1 P V calm S i (6 + g) = S (6 + g) := by
  unfold T1
  rw [if_neg (by omega), if_neg (by omega), if_pos (by omega), Nat.add_sub_cancel_left]
  exact gM1_n (gO_of hS hi hg)
theorem uR_id {T : Rw} {i : Nat} {v : Int32} (h : T i = v) : uR T i v = T := by
  funext j
  unfold uR
  split
  · rename_i z; rw [z, h]
  · rfl
theorem T1_e (hF : P.1 4 ≤ 6) (hS : RIg P S) (hi : i < P.1 5) (hgF : g < P.1 4) (hg : S (18 + i) = nI g) (hB : gB P V calm S g = S (6 + g)) : T1 P V calm S (i + 1) = T1 P V calm S i := by
  rw [T1_s hF hS hi hgF hg, hB]
  exact uR_id (T1_g hF hS hi hgF hg)
def T2 (P : Ps) (V : Nat → Int32) (calm : Bool) (S : Rw) (i : Nat) : Rw := fun j => if j < P.1 4 then (if j < i then (gF P V calm S j).2.1 else S j) else if 6 ≤ j ∧ j < 6 + P.1 4 then (if j - 6 < i then (gF P V calm S (j - 6)).2.2.1 else gB P V calm S (j - 6)) else if 12 ≤ j ∧ j < 12 + P.1 4 then (if j - 12 < i then (gF P V calm S (j - 12)).2.2.2 else S j) else if j = 23 then S 23 + 1 else if j = 24 then gWt P V calm S i else S j
theorem T12 (hF : P.1 4 ≤ 6) : T1 P V calm S (P.1 5) = T2 P V calm S 0 := by
  funext j
  unfold T1 T2
  by_cases z1 : j < P.1 4
  · rw [if_neg (by omega), if_neg (by omega), if_neg (by omega), if_pos z1, if_neg (by omega)]
  · by_cases z2 : 6 ≤ j ∧ j < 6 + P.1 4
    · rw [if_neg (by omega), if_neg (by omega), if_pos z2, if_neg z1, if_pos z2, if_neg (Nat.not_lt_zero _)]
      cases hq : gO P S (j - 6) with
      | none =>
        have e1 : gM1 P V calm S (P.1 5) (j - 6) = S (6 + (j - 6)) := by unfold gM1; rw [hq]
        rw [e1]
        unfold gB
        by_cases z : S (j - 6) = 0
        · rw [if_pos z]
        · rw [if_neg z, hq]
          unfold cVx
          exact (if_neg (fun z => absurd z.2.1 (show ¬ (0 : Int32) < 0 by decide))).symm
      | some c =>
        have e1 : gM1 P V calm S (P.1 5) (j - 6) = gB P V calm S (j - 6) := by
          unfold gM1
          rw [hq]
          exact if_pos (gO_lt hq).1
        rw [e1]
    · rw [if_neg z1, if_neg z2, if_neg z2]
      by_cases z3 : 12 ≤ j ∧ j < 12 + P.1 4
      · rw [if_neg (by omega), if_neg (by omega), if_pos z3, if_neg (Nat.not_lt_zero _)]
      · rw [if_neg z3]
        split
        · rfl
        · split
          · rfl
          · rfl
theorem T2_F : T2 P V calm S (P.1 4) = gR P V calm S := by
  funext j
  unfold T2 gR
  split
  · first | rfl | (rename_i z; rw [if_pos z])
  · split
    · rename_i _ z; rw [if_pos (by omega)]
    · split
      · rename_i _ _ z; rw [if_pos (by omega)]
      · rfl
/-- the row with face i's four places written -/
theorem T2_s (hF : P.1 4 ≤ 6) (hi : i < P.1 4) : T2 P V calm S (i + 1) = uR (uR (uR (uR (T2 P V calm S i) i (gF P V calm S i).2.1) (6 + i) (gF P V calm S i).2.2.1) (12 + i) (gF P V calm S i).2.2.2) 24 (gWt P V calm S (i + 1)) := by
  funext j
  unfold uR
  by_cases e4 : j = 24
  · subst e4
    rw [if_pos rfl]
    unfold T2
    rw [if_neg (by omega), if_neg (by omega), if_neg (by omega), if_neg (by decide), if_pos rfl]
  · rw [if_neg e4]
    by_cases e3 : j = 12 + i
    · subst e3
      rw [if_pos rfl]
      unfold T2
      rw [if_neg (by omega), if_neg (by omega), if_pos (by omega), Nat.add_sub_cancel_left, if_pos (by omega)]
    · rw [if_neg e3]
      by_cases e2 : j = 6 + i
      · subst e2
        rw [if_pos rfl]
        unfold T2
        rw [if_neg (by omega), if_pos (by omega), Nat.add_sub_cancel_left, if_pos (by omega)]
      · rw [if_neg e2]
        by_cases e1 : j = i
        · subst e1
          rw [if_pos rfl]
          unfold T2
          rw [if_pos hi, if_pos (by omega)]
        · rw [if_neg e1]
          unfold T2
          split
          · split
            · rw [if_pos (by omega)]
            · rw [if_neg (by omega)]
          · split
            · split
              · rw [if_pos (by omega)]
              · rw [if_neg (by omega)]
            · split
              · split
                · rw [if_pos (by omega)]
                · rw [if_neg (by omega)]
              · split
                · rfl
                · first | rfl | rw [if_neg e4]
theorem T2_i (hF : P.1 4 ≤ 6) (hi : i < P.1 4) : T2 P V calm S i i = S i ∧ T2 P V calm S i (6 + i) = gB P V calm S i ∧ T2 P V calm S i (12 + i) = S (12 + i) ∧ T2 P V calm S i 24 = gWt P V calm S i := by
  unfold T2
  refine ⟨?_, ?_, ?_, ?_⟩
  · rw [if_pos hi, if_neg (by omega)]
  · rw [if_neg (by omega), if_pos (by omega), Nat.add_sub_cancel_left, if_neg (by omega)]
  · rw [if_neg (by omega), if_neg (by omega), if_pos (by omega), Nat.add_sub_cancel_left, if_neg (by omega)]
  · rw [if_neg (by omega), if_neg (by omega), if_neg (by omega), if_neg (by decide), if_pos rfl]
/-- nothing is let go: the row stays -/
theorem T2_n (hF : P.1 4 ≤ 6) (hi : i < P.1 4) (hl : gLt P V calm S i = false) : T2 P V calm S (i + 1) = T2 P V calm S i := by
  obtain ⟨a1, a2, a3, a4⟩ := T2_i (V := V) (calm := calm) (S := S) hF hi
  have hl2 : S i = 0 ∨ cVx (vxG V (gO P S i)) (evP P (gO P S i)) calm (S 23 + 1) (S (6 + i)) < cLs (gK P i) (S i) := by
    by_cases z : S i = 0
    · exact Or.inl z
    · refine Or.inr ?_
      have q := of_decide_eq_false hl
      exact Decidable.not_not.mp (fun y => q ⟨z, y⟩)
  have eF : gF P V calm S i = (S 23 + 1, S i, gB P V calm S i, S (12 + i)) := by
    unfold gF cSt gB
    dsimp only
    by_cases z : S i = 0
    · rw [if_pos z, if_pos z]
    · rw [if_neg z, if_neg z, if_pos (hl2.resolve_left z)]
  have eW : gWt P V calm S (i + 1) = gWt P V calm S i := by
    show (if gLt P V calm S i = true then _ else _) = _
    rw [hl]
    rfl
  rw [T2_s hF hi, eF, eW, uR_id (i := i) a1, uR_id (i := 6 + i) a2, uR_id (i := 12 + i) a3, uR_id (i := 24) a4]
end GRW
