/-! what holds of the memory between two calls of the law; a row for each call out of the contracts -/
section INV
variable {l : Launch} {X : Nat × (Nat → Int32)} {M M' : Mm} {kr : KR}
def sep (S : List (Nat × List Row)) (ms : Md3) : Bool := (List.range 168).all (fun a => (lkR S a).isEmpty || ms.all (fun m => !(Nat.beq m.1 a)))
theorem Iv_keep {R S : List (Nat × List Row)} {ms : Md3} (hS : Iv (mkP S) M) (hR : Iv (mkP R) M') (hk : kp ms M M') (hd : sep S ms = true) : Iv (mkP S) M' := by
  refine ⟨hR.1, hR.2.1, hR.2.2.1, fun a k ha => ?_⟩
  have q := List.all_eq_true.mp hd a (List.mem_range.mpr (by omega))
  show (rwB (lkR S a) k).1 ≤ (mI M' a k).toInt ∧ (mI M' a k).toInt ≤ (rwB (lkR S a) k).2
  cases hb : (lkR S a).isEmpty with
  | true =>
    rw [List.isEmpty_iff.mp hb]
    exact ⟨i32_lo _, i32_hi _⟩
  | false =>
    rw [hb] at q
    have q : ms.all (fun m => !(Nat.beq m.1 a)) = true := q
    have hi : inm ms a k = false := by
      cases hq : inm ms a k with
      | false => rfl
      | true =>
        obtain ⟨m, hm, h4⟩ := List.any_eq_true.mp hq
        obtain ⟨h4, -⟩ := andT h4
        have := List.all_eq_true.mp q m hm
        rw [h4] at this
        cases this
    rw [(hk a k hi).1]
    exact hS.2.2.2 a k ha
def LI (M : Mm) : Prop := Iv Pt8 M ∧ RefI M ∧ ∃ t : Nat, t ≤ 900 ∧ mI M 2 1 = nI t ∧ mI M 150 2 = nI t
theorem LI_e (h : LI M) : eO 1 M := by
  obtain ⟨p, hp, -⟩ := h.2.1
  exact hp.2
def sep6 (ms : Md3) : Bool := (List.range 2).all (fun p => sep (rwx p) ms)
theorem sep153 {ms : Md3} {p k : Nat} (hp : p < 2) (hd : sep (rwx p) ms = true) : inm ms 153 k = false := by
  have q := List.all_eq_true.mp hd 153 (List.mem_range.mpr (by decide))
  have hb : (lkR (rwx p) 153).isEmpty = false := by
    rcases lt2 hp with rfl | rfl <;> rfl
  rw [hb] at q
  have q : ms.all (fun m => !(Nat.beq m.1 153)) = true := q
  cases hq : inm ms 153 k with
  | false => rfl
  | true =>
    obtain ⟨m, hm, h4⟩ := List.any_eq_true.mp hq
    obtain ⟨h4, -⟩ := andT h4
    have := List.all_eq_true.mp q m hm
    rw [h4] at this
    cases this
theorem RefI_keep {ms : Md3} (h : RefI M) (h8 : Iv Pt8 M') (hk : kp ms M M') (hs : sep6 ms = true) : RefI M' := by
  obtain ⟨p, hp, hI⟩ := h
  have hd : sep (rwx p) ms = true := all2 (f := fun p => sep (rwx p) ms) hs hp.1
  exact ⟨p, ⟨hp.1, eO_cg (fun k => (hk 153 k (sep153 hp.1 hd)).1) hp.2⟩, Iv_keep hI h8 hk hd⟩
/-- an answer is an int, or a long -/
def rki (v : Value) : Nat → Prop := fun t => match v with
  | .int _ => t = 0
  | .long _ => t = 1
  | _ => False
def posts (t : Nat) (ps : List Po) : Bool := ps.all (fun p => match p.1 with
  | some b => Nat.beq b.1 t && Nat.ble t 1
  | none => false)
theorem posts_ok {t : Nat} {ps : List Po} {av : List Value} {r : Option Value} (h : posts t ps = true) (hp : gps av r M ps) : ∃ v, r = some v ∧ rki v t := by
  obtain ⟨p, hm, h1, -, -⟩ := hp
  have q := List.all_eq_true.mp h p hm
  cases hb : p.1 with
  | none => rw [hb] at q; cases q
  | some b =>
    rw [hb] at q h1
    obtain ⟨q1, q2⟩ := andT q
    have q1 := Nat.eq_of_beq_eq_true q1
    have q2 := Nat.le_of_ble_eq_true q2
    cases r with
    | none => exact h1.elim
    | some v =>
      refine ⟨v, rfl, ?_⟩
      cases v with
      | int x => exact q1.symm.trans h1.1
      | long x => exact q1.symm.trans h1.1
      | ref x =>
        have := h1.1
        omega
      | _ => exact h1.elim
def ck6 (t : Nat) (K : Con) : Bool := sep6 K.2.1 && (!(inm K.2.1 2 1) && (!(inm K.2.1 150 2) && (posts t K.2.2 && K.1.2.2.isEmpty)))
theorem c6_of {K : Con} {dd t : Nat} (hv : Vc l X U0 Pt8 1 dd K) (hc : ck6 t K = true) {av : List Value} (hL : LI M) (hb : gbs av K.1.2.1) (h : ∀ v M', rki v t → LI M' → M'.1 = M.1 → kp K.2.1 M M' → kr (some v) M') : Ev l X (U0 K.1.1) dd true 0 0 av M kr := by
  obtain ⟨c1, c2⟩ := andT hc
  obtain ⟨c2, c3⟩ := andT c2
  obtain ⟨c3, c4⟩ := andT c3
  obtain ⟨c4, c5⟩ := andT c4
  have n1 : inm K.2.1 2 1 = false := by
    cases hq : inm K.2.1 2 1 with
    | false => rfl
    | true => rw [hq] at c2; cases c2
  have n2 : inm K.2.1 150 2 = false := by
    cases hq : inm K.2.1 150 2 with
    | false => rfl
    | true => rw [hq] at c3; cases c3
  refine hv av M kr hL.1 (LI_e hL) hb (fun f hf => by rw [List.isEmpty_iff.mp c5] at hf; exact absurd hf List.not_mem_nil) (fun r M' hJ hp => ?_)
  obtain ⟨v, rfl, hk⟩ := posts_ok c4 hp
  obtain ⟨t0, t1, t2, t3⟩ := hL.2.2
  exact h v M' hk ⟨hJ.2.1, RefI_keep hL.2.1 hJ.2.1 hJ.2.2.1 c1, t0, t1, by rw [(hJ.2.2.1 2 1 n1).1]; exact t2, by rw [(hJ.2.2.1 150 2 n2).1]; exact t3⟩ hJ.1 hJ.2.2.1
def ck7 (t : Nat) (K : Con) : Bool := sep rwt8 K.2.1 && (!(inm K.2.1 2 1) && (!(inm K.2.1 150 2) && (posts t K.2.2 && K.1.2.2.isEmpty)))
theorem r7_of1 {K : Con} {dd t p : Nat} (hp : p < 2 ∧ eO 1 M) (hv : Vc l X U0 (mkP (rwx p)) 1 dd K) (hc : ck7 t K = true) {av : List Value} (h8 : Iv Pt8 M) (hI : Iv (mkP (rwx p)) M) (ht : ∃ t : Nat, t ≤ 900 ∧ mI M 2 1 = nI t ∧ mI M 150 2 = nI t) (hb : gbs av K.1.2.1) (h : ∀ v M', rki v t → LI M' → M'.1 = M.1 → kp K.2.1 M M' → kr (some v) M') : Ev l X (U0 K.1.1) dd true 0 0 av M kr := by
  obtain ⟨c1, c2⟩ := andT hc
  obtain ⟨c2, c3⟩ := andT c2
  obtain ⟨c3, c4⟩ := andT c3
  obtain ⟨c4, c5⟩ := andT c4
  have n1 : inm K.2.1 2 1 = false := by
    cases hq : inm K.2.1 2 1 with
    | false => rfl
    | true => rw [hq] at c2; cases c2
  have n2 : inm K.2.1 150 2 = false := by
    cases hq : inm K.2.1 150 2 with
    | false => rfl
    | true => rw [hq] at c3; cases c3
  have hL : LI M := ⟨h8, ⟨p, hp, hI⟩, ht⟩
  refine hv av M kr hI (LI_e hL) hb (fun f hf => by rw [List.isEmpty_iff.mp c5] at hf; exact absurd hf List.not_mem_nil) (fun r M' hJ hp' => ?_)
  obtain ⟨v, rfl, hk⟩ := posts_ok c4 hp'
  obtain ⟨t0, t1, t2, t3⟩ := ht
  exact h v M' hk ⟨Iv_keep h8 hJ.2.1 hJ.2.2.1 c1, ⟨p, ⟨hp.1, hJ.2.2.2⟩, hJ.2.1⟩, t0, t1, by rw [(hJ.2.2.1 2 1 n1).1]; exact t2, by rw [(hJ.2.2.1 150 2 n2).1]; exact t3⟩ hJ.1 hJ.2.2.1
end INV
