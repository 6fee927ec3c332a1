/-! the tables 0 .. 6 are table 7 with facts -/
section TAB
variable {M : Mm}
def rwx : Nat → List (Nat × List Row)
  | 0 => rwt0
  | 1 => rwt1
  | 2 => rwt2
  | 3 => rwt3
  | 4 => rwt4
  | 5 => rwt5
  | _ => rwt6
def hA (p : Nat) : List Row := cond (Nat.beq p 6) [(14, 14, 0, 0)] [(14, 14, 1, 1)]
def hB (p : Nat) : List Row := cond (Nat.beq p 6) [] (cond (Nat.beq p 0) [(0, 0, 2, 5), (5, 5, 0, 0)] [(35, 34 + 2 * p, 1, 30), (0, 0, 2, 5), (5, 5, (p : Int), (p : Int))])
def A7 : List Row := lkR rwt7 150
def B7 : List Row := lkR rwt7 153
theorem rwx_eq {p : Nat} (hp : p < 7) : rwx p = (150, hA p ++ A7) :: (153, hB p ++ B7) :: rwt7.drop 2 := by
  rcases lt7 hp with rfl | rfl | rfl | rfl | rfl | rfl | rfl <;> rfl
theorem rw7_eq : rwt7 = (150, A7) :: (153, B7) :: rwt7.drop 2 := rfl
theorem rIn_b {r : Row} {k : Nat} (h : rIn r k = true) : r.1 ≤ k ∧ k ≤ r.2.1 := by
  obtain ⟨h1, h2⟩ := andT h
  exact ⟨Nat.le_of_ble_eq_true h1, Nat.le_of_ble_eq_true h2⟩
theorem up_rows {t : List Row} {k : Nat} {x : Int} (hx : iLo ≤ x ∧ x ≤ iHi) : ∀ {H : List Row}, (H.all (fun r => rwW t r.1 r.2.1 (r.2.2.1, r.2.2.2)) = true) → (rwB (H ++ t) k).1 ≤ x ∧ x ≤ (rwB (H ++ t) k).2 → (rwB t k).1 ≤ x ∧ x ≤ (rwB t k).2
  | [], _, h => h
  | r :: H, hw, h => by
    obtain ⟨w1, w2⟩ := andT hw
    have h : (cond (rIn r k) (r.2.2.1, r.2.2.2) (rwB (H ++ t) k)).1 ≤ x ∧ x ≤ (cond (rIn r k) (r.2.2.1, r.2.2.2) (rwB (H ++ t) k)).2 := h
    cases hr : rIn r k with
    | true =>
      rw [hr] at h
      exact rwW_ok hx h w1 (rIn_b hr).1 (rIn_b hr).2
    | false =>
      rw [hr] at h
      exact up_rows hx w2 h
theorem dn_rows {t : List Row} {k : Nat} {x : Int} : ∀ {H : List Row}, (∀ r ∈ H, rIn r k = true → r.2.2.1 ≤ x ∧ x ≤ r.2.2.2) → (rwB t k).1 ≤ x ∧ x ≤ (rwB t k).2 → (rwB (H ++ t) k).1 ≤ x ∧ x ≤ (rwB (H ++ t) k).2
  | [], _, h => h
  | r :: H, hw, h => by
    show (cond (rIn r k) (r.2.2.1, r.2.2.2) (rwB (H ++ t) k)).1 ≤ x ∧ x ≤ (cond (rIn r k) (r.2.2.1, r.2.2.2) (rwB (H ++ t) k)).2
    cases hr : rIn r k with
    | true => exact hw r List.mem_cons_self hr
    | false => exact dn_rows (fun r' hm => hw r' (List.mem_cons_of_mem _ hm)) h
theorem lk_3 {A B : List Row} {t : List (Nat × List Row)} {a : Nat} : lkR ((150, A) :: (153, B) :: t) a = if a = 150 then A else if a = 153 then B else lkR t a := by
  show cond (Nat.beq 150 a) A (cond (Nat.beq 153 a) B (lkR t a)) = _
  by_cases h : a = 150
  · subst h; rfl
  · have e : Nat.beq 150 a = false := by
      cases hq : Nat.beq 150 a with
      | false => rfl
      | true => exact absurd (Nat.eq_of_beq_eq_true hq).symm h
    rw [e, if_neg h]
    by_cases h2 : a = 153
    · subst h2; rfl
    · have e : Nat.beq 153 a = false := by
        cases hq : Nat.beq 153 a with
        | false => rfl
        | true => exact absurd (Nat.eq_of_beq_eq_true hq).symm h2
      rw [e, if_neg h2]
      rfl
theorem rows_up {p : Nat} (hp : p < 7) : (hA p).all (fun r => rwW A7 r.1 r.2.1 (r.2.2.1, r.2.2.2)) = true ∧ (hB p).all (fun r => rwW B7 r.1 r.2.1 (r.2.2.1, r.2.2.2)) = true := by
  rcases lt7 hp with rfl | rfl | rfl | rfl | rfl | rfl | rfl <;> exact ⟨by decide +kernel, by decide +kernel⟩
def rowF (n : Nat) (r : Row) : List Fa := (List.range (r.2.1 + 1 - r.1)).map (fun j => (n, r.1 + j, 0, r.2.2.1, r.2.2.2, []))
theorem rows_dn {p : Nat} (hp : p < 7) : (hA p).all (fun r => impF (sfs p) (rowF 150 r)) = true ∧ (hB p).all (fun r => impF (sfs p) (rowF 153 r)) = true := by
  rcases lt7 hp with rfl | rfl | rfl | rfl | rfl | rfl | rfl <;> exact ⟨by decide +kernel, by decide +kernel⟩
theorem row_at {p n k : Nat} {r : Row} (h : impF (sfs p) (rowF n r) = true) (hf : ∀ f ∈ sfs p, gf M f) (hr : rIn r k = true) : r.2.2.1 ≤ (mI M n k).toInt ∧ (mI M n k).toInt ≤ r.2.2.2 := by
  obtain ⟨b1, b2⟩ := rIn_b hr
  have q := gf0 rfl (impF_ok h hf (n, r.1 + (k - r.1), 0, r.2.2.1, r.2.2.2, []) (List.mem_map.mpr ⟨k - r.1, List.mem_range.mpr (by omega), rfl⟩))
  have e : r.1 + (k - r.1) = k := by omega
  have q : r.2.2.1 ≤ (mI M n (r.1 + (k - r.1))).toInt ∧ (mI M n (r.1 + (k - r.1))).toInt ≤ r.2.2.2 := q
  rw [e] at q
  exact q
theorem facts_of {p : Nat} (hp : p < 7) : (sfs p).all (fun f => Nat.beq f.2.2.1 0 && (Nat.ble f.1 167 && (decide (f.2.2.2.1 ≤ (rwB (lkR (rwx p) f.1) f.2.1).1) && decide ((rwB (lkR (rwx p) f.1) f.2.1).2 ≤ f.2.2.2.2.1)))) = true := by
  rcases lt7 hp with rfl | rfl | rfl | rfl | rfl | rfl | rfl <;> decide +kernel
theorem t_dn {p : Nat} (hp : p < 7) (hI : Iv Pt7 M) (hf : ∀ f ∈ sfs p, gf M f) : Iv (mkP (rwx p)) M := by
  refine ⟨hI.1, hI.2.1, hI.2.2.1, fun a k ha => ?_⟩
  have b := hI.2.2.2 a k ha
  have b : (rwB (lkR rwt7 a) k).1 ≤ (mI M a k).toInt ∧ (mI M a k).toInt ≤ (rwB (lkR rwt7 a) k).2 := b
  show (rwB (lkR (rwx p) a) k).1 ≤ (mI M a k).toInt ∧ (mI M a k).toInt ≤ (rwB (lkR (rwx p) a) k).2
  rw [rw7_eq, lk_3] at b
  rw [rwx_eq hp, lk_3]
  split at b
  · rename_i e
    subst e
    rw [if_pos rfl]
    exact dn_rows (fun r hm hr => row_at (List.all_eq_true.mp (rows_dn hp).1 r hm) hf hr) b
  · rename_i e
    rw [if_neg e]
    split at b
    · rename_i e
      subst e
      rw [if_pos rfl]
      exact dn_rows (fun r hm hr => row_at (List.all_eq_true.mp (rows_dn hp).2 r hm) hf hr) b
    · rename_i e
      rw [if_neg e]
      exact b
theorem t_up {p : Nat} (hp : p < 7) (hI : Iv (mkP (rwx p)) M) : Iv Pt7 M ∧ ∀ f ∈ sfs p, gf M f := by
  refine ⟨⟨hI.1, hI.2.1, hI.2.2.1, fun a k ha => ?_⟩, fun f hm => ?_⟩
  · have b := hI.2.2.2 a k ha
    have b : (rwB (lkR (rwx p) a) k).1 ≤ (mI M a k).toInt ∧ (mI M a k).toInt ≤ (rwB (lkR (rwx p) a) k).2 := b
    show (rwB (lkR rwt7 a) k).1 ≤ (mI M a k).toInt ∧ (mI M a k).toInt ≤ (rwB (lkR rwt7 a) k).2
    rw [rwx_eq hp, lk_3] at b
    rw [rw7_eq, lk_3]
    have hx : iLo ≤ (mI M a k).toInt ∧ (mI M a k).toInt ≤ iHi := ⟨i32_lo _, i32_hi _⟩
    split at b
    · rename_i e
      rw [if_pos e]
      exact up_rows hx (rows_up hp).1 b
    · rename_i e
      rw [if_neg e]
      split at b
      · rename_i e
        rw [if_pos e]
        exact up_rows hx (rows_up hp).2 b
      · rename_i e
        rw [if_neg e]
        exact b
  · obtain ⟨h1, h2⟩ := andT (List.all_eq_true.mp (facts_of hp) f hm)
    obtain ⟨h2, h3⟩ := andT h2
    obtain ⟨h3, h4⟩ := andT h3
    have b := hI.2.2.2 f.1 f.2.1 (Nat.le_of_ble_eq_true h2)
    exact gf1 (Nat.eq_of_beq_eq_true h1) ⟨Int.le_trans (of_decide_eq_true h3) b.1, Int.le_trans b.2 (of_decide_eq_true h4)⟩
/-- the reference's state -/
def RefI (M : Mm) : Prop := ∃ p, p < 7 ∧ Iv (mkP (rwx p)) M
set_option maxRecDepth 20000 in
theorem cl_ref {l : Launch} {X : Nat × (Nat → Int32)} {d : Nat} {kr : KR} {n : Int32} (hR : RefI M) (h : ∀ (r : Int32) (M' : Mm), RefI M' → M'.1 = M.1 → kp msC M M' → mI M' 150 2 = (if inB n 0 (mI M 150 2) = true then 0 else mI M 150 2) → kr (some (.int r)) M') : Ev l X uX7_close (d + 11) true 0 0 [.ref 150, .int n] M kr := by
  obtain ⟨p, hp, hI⟩ := hR
  obtain ⟨h7, hf⟩ := t_up hp hI
  exact cl_ev hp h7 hf (fun r M' q hq hJ hf' ht => h r M' ⟨q, hq, t_dn hq hJ.2.1 hf'⟩ hJ.1 hJ.2.2.1 ht)
end TAB
