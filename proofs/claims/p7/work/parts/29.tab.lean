/-! the tables 0 .. 6; the reference's state -/
section TAB
def rwx : Nat → List (Nat × List Row)
  | 0 => rwt0
  | _ => rwt6
def hA (p : Nat) : List Row := cond (Nat.beq p 0) [(14, 14, 1, 1)] [(14, 14, 0, 0)]
def hB (p : Nat) : List Row := cond (Nat.beq p 0) [(0, 0, 2, 5)] []
def A7 : List Row := [(2, 2, 0, 900), (14, 14, 0, 1), (22, 22, 0, 16), (23, 23, 0, 3)]
def B7 : List Row := [(0, 0, 0, 5), (1, 1, 0, 4), (2, 2, 0, 100), (4, 4, 0, 6), (5, 5, 0, 5), (6, 6, 0, 4), (7, 7, 0, 4), (35, 44, 0, 30), (45, 52, 0, 19), (53, 53, 0, 4), (55, 55, 0, 4), (57, 57, 0, 4), (59, 59, 0, 4)]
theorem rwx_eq {p : Nat} (hp : p < 2) : rwx p = (150, hA p ++ A7) :: (153, hB p ++ B7) :: rwt6.drop 2 := by
  rcases lt2 hp with rfl | rfl <;> rfl
theorem rIn_b {r : Row} {k : Nat} (h : rIn r k = true) : r.1 ≤ k ∧ k ≤ r.2.1 := by
  obtain ⟨h1, h2⟩ := andT h
  exact ⟨Nat.le_of_ble_eq_true h1, Nat.le_of_ble_eq_true h2⟩
theorem rw_all {k : Nat} {x : Int} (hx : iLo ≤ x ∧ x ≤ iHi) : ∀ {H : List Row}, (∀ r ∈ H, rIn r k = true → r.2.2.1 ≤ x ∧ x ≤ r.2.2.2) → (rwB H k).1 ≤ x ∧ x ≤ (rwB H k).2
  | [], _ => hx
  | r :: H, hw => by
    show (cond (rIn r k) (r.2.2.1, r.2.2.2) (rwB H k)).1 ≤ x ∧ x ≤ (cond (rIn r k) (r.2.2.1, r.2.2.2) (rwB H k)).2
    cases hr : rIn r k with
    | true => exact hw r List.mem_cons_self hr
    | false => exact rw_all hx (fun r' hm => hw r' (List.mem_cons_of_mem _ hm))
theorem bq_f {a b : Nat} (h : a ≠ b) : Nat.beq a b = false := by
  cases hq : Nat.beq a b with
  | false => rfl
  | true => exact absurd (Nat.eq_of_beq_eq_true hq) h
theorem lk_3 {A B : List Row} {t : List (Nat × List Row)} {a : Nat} : lkR ((150, A) :: (153, B) :: t) a = if a = 150 then A else if a = 153 then B else lkR t a := by
  show cond (Nat.beq 150 a) A (cond (Nat.beq 153 a) B (lkR t a)) = _
  by_cases h : a = 150
  · subst h; rfl
  · have e : Nat.beq 150 a = false := by
      cases hq : Nat.beq 150 a with
      | false => rfl
      | true => exact absurd (Nat.eq_of_beq_eq_true hq).symm h
    rw [e, if_neg h]
    by_cases h2 : a = 153
    · subst h2; rfl
    · have e : Nat.beq 153 a = false := by
        cases hq : Nat.beq 153 a with
        | false => rfl
        | true => exact absurd (Nat.eq_of_beq_eq_true hq).symm h2
      rw [e, if_neg h2]
      rfl
/-- the reference's state -/
def RefI (M : Mm) : Prop := ∃ p, (p < 2 ∧ eO 1 M) ∧ Iv (mkP (rwx p)) M
end TAB
