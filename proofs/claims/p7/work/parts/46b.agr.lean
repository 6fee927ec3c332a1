/-! two memories of one heap agree wherever the structure has a place; exact and interval contracts of one call hold together -/
section AGR
/-- the same values at the places of name a -/
def agA (M1 M2 : Mm) (a : Nat) : Prop := ((mK M1 a).1 < 8 → ∀ k, k < (tf (mK M1 a).1).length → sv M1 a k ((tf (mK M1 a).1).getD k 0) = sv M2 a k ((tf (mK M1 a).1).getD k 0)) ∧ ((mK M1 a).1 = 10 → ∀ i, i < (mK M1 a).2 → mL M1 a i = mL M2 a i) ∧ ((mK M1 a).1 = 8 ∨ (mK M1 a).1 = 9 → ∀ i, i < (mK M1 a).2 → mI M1 a i = mI M2 a i) ∧ (10 < (mK M1 a).1 → ∀ i, i < (mK M1 a).2 → mR M1 a i = mR M2 a i)
def agr (M1 M2 : Mm) : Prop := ∀ a, 0 < a → a ≤ mN M1 → agA M1 M2 a
theorem vw_len : ∀ c, c < 8 → ∀ r : vw_C, vwCl[c]? = some r → (tf c).length ≤ r.2.2 := by
  intro c hc r h
  rcases (show c = 0 ∨ c = 1 ∨ c = 2 ∨ c = 3 ∨ c = 4 ∨ c = 5 ∨ c = 6 ∨ c = 7 by omega) with rfl | rfl | rfl | rfl | rfl | rfl | rfl | rfl <;> (cases (Option.some.inj h); exact Nat.le_of_ble_eq_true rfl)
theorem ad_inj {A : Nat → Prop} {g : Nat → ClassId} {ad : Nat → Nat} {M : Mm} (hD : va_D A (wl g ad M)) {x y : Nat} (hx0 : 0 < x) (hx : x ≤ mN M) (hy0 : 0 < y) (hy : y ≤ mN M) (h : ad x = ad y) : x = y := by
  have := hD.1 (x - 1) (y - 1) _ _ (wl_at hx0 hx) (wl_at hy0 hy) h
  omega
theorem iv_rinj {A : Nat → Prop} {g : Nat → ClassId} {ad : Nat → Nat} {M : Mm} (hD : va_D A (wl g ad M)) {x y : Nat} (hx : x ≤ mN M) (hy : y ≤ mN M) (h : iv ad (.ref x) = iv ad (.ref y)) : x = y := by
  cases x with
  | zero =>
    cases y with
    | zero => rfl
    | succ y => cases h
  | succ x =>
    cases y with
    | zero => cases h
    | succ y => exact ad_inj hD (Nat.succ_pos _) hx (Nat.succ_pos _) hy (Value.ref.inj h)
theorem agr_of {D : va_G} {A : Nat → Prop} {g : Nat → ClassId} {ad : Nat → Nat} {M1 M2 : Mm} {H : Heap} (he : M1.1 = M2.1) (hO1 : kO M1) (hO2 : kO M2) (hD : va_D A (wl g ad M1)) (h1 : va_P D vwCl (wl g ad M1) H) (h2 : va_P D vwCl (wl g ad M2) H) : agr M1 M2 := by
  intro a a0 a1
  have eN : mN M2 = mN M1 := congrArg (fun x => x.1) he.symm
  have eK : mK M2 a = mK M1 a := congrArg (fun x => x.2.2.2 a) he.symm
  have q1 := h1 _ _ (wl_at a0 a1)
  have q2 := h2 _ _ (wl_at (M := M2) a0 (by omega))
  refine ⟨fun hk k hkl => ?_, fun hk i hi => ?_, fun hk i hi => ?_, fun hk i hi => ?_⟩
  · unfold en at q1 q2
    rw [if_pos hk] at q1
    rw [eK, if_pos hk] at q2
    obtain ⟨r1, e1, c1, f1, -, -, s1⟩ := q1
    obtain ⟨r2, e2, c2, f2, -, -, s2⟩ := q2
    cases (f1.symm.trans f2)
    have n1 : k < r1.2.2 := Nat.lt_of_lt_of_le hkl (vw_len _ hk r1 e1)
    have n2 : k < r2.2.2 := Nat.lt_of_lt_of_le hkl (vw_len _ hk r2 e2)
    have z := Option.some.inj ((s1 k n1).symm.trans (s2 k n2))
    have z1 : vp_V (eo ad M1 a (tf (mK M1 a).1)) k = iv ad (sv M1 a k ((tf (mK M1 a).1).getD k 0)) := by
      show ((eo ad M1 a (tf (mK M1 a).1))).getD k .null = _
      rw [List.getD_eq_getElem?_getD, eo_at hkl]
      rfl
    have z2 : vp_V (eo ad M2 a (tf (mK M1 a).1)) k = iv ad (sv M2 a k ((tf (mK M1 a).1).getD k 0)) := by
      show ((eo ad M2 a (tf (mK M1 a).1))).getD k .null = _
      rw [List.getD_eq_getElem?_getD, eo_at hkl]
      rfl
    have z : iv ad (sv M1 a k ((tf (mK M1 a).1).getD k 0)) = iv ad (sv M2 a k ((tf (mK M1 a).1).getD k 0)) := by
      rw [← z1, ← z2]
      exact z
    revert z
    cases (tf (mK M1 a).1).getD k 0 with
    | zero => exact fun z => z
    | succ t =>
      cases t with
      | zero => exact fun z => z
      | succ t =>
        intro z
        have z : iv ad (.ref (mR M1 a k)) = iv ad (.ref (mR M2 a k)) := z
        show Value.ref (mR M1 a k) = Value.ref (mR M2 a k)
        rw [iv_rinj hD (hO1 a k) (by rw [← eN]; exact hO2 a k) z]
  · unfold en at q1 q2
    rw [if_neg (by omega), if_pos hk] at q1
    rw [eK, if_neg (by omega), if_pos hk] at q2
    have z := Option.some.inj (Eq.trans (Eq.symm q1) q2)
    have y1 := arrV_read (g 10) (fun j => Value.long (mL M1 a j)) hi
    have y2 := arrV_read (g 10) (fun j => Value.long (mL M2 a j)) hi
    have z : arrV (g 10) (mK M1 a).2 (fun j => Value.long (mL M1 a j)) = arrV (g 10) (mK M1 a).2 (fun j => Value.long (mL M2 a j)) := z
    rw [z] at y1
    exact Value.long.inj (Option.some.inj (y1.symm.trans y2))
  · unfold en at q1 q2
    rw [if_neg (by omega), if_neg (by omega), if_pos (by omega)] at q1
    rw [eK, if_neg (by omega), if_neg (by omega), if_pos (by omega)] at q2
    have z := Option.some.inj (Eq.trans (Eq.symm q1) q2)
    have y1 := arrV_read (g (mK M1 a).1) (fun j => Value.int (mI M1 a j)) hi
    have y2 := arrV_read (g (mK M1 a).1) (fun j => Value.int (mI M2 a j)) hi
    have z : arrV (g (mK M1 a).1) (mK M1 a).2 (fun j => Value.int (mI M1 a j)) = arrV (g (mK M1 a).1) (mK M1 a).2 (fun j => Value.int (mI M2 a j)) := z
    rw [z] at y1
    exact Value.int.inj (Option.some.inj (y1.symm.trans y2))
  · unfold en at q1 q2
    rw [if_neg (by omega), if_neg (by omega), if_neg (by omega)] at q1
    rw [eK, if_neg (by omega), if_neg (by omega), if_neg (by omega)] at q2
    have z := Option.some.inj (Eq.trans (Eq.symm q1) q2)
    have y1 := arrV_read (g (mK M1 a).1) (fun j => va_rf (er ad M1 a j)) hi
    have y2 := arrV_read (g (mK M1 a).1) (fun j => va_rf (er ad M2 a j)) hi
    have z : arrV (g (mK M1 a).1) (mK M1 a).2 (fun j => va_rf (er ad M1 a j)) = arrV (g (mK M1 a).1) (mK M1 a).2 (fun j => va_rf (er ad M2 a j)) := z
    rw [z] at y1
    have x := Option.some.inj (y1.symm.trans y2)
    have x : va_rf (er ad M1 a i) = va_rf (er ad M2 a i) := x
    rw [er_rf, er_rf] at x
    exact iv_rinj hD (hO1 a i) (Nat.le_trans (hO2 a i) (Nat.le_of_eq eN)) x
variable {l : Launch} {X : Nat × (Nat → Int32)} {q : Md} {d mc ms : Nat} {av : List Value} {M : Mm}
/-- two contracts of one call: one run, one answer, memories that agree -/
theorem Ev.both {k1 k2 : Int32 → Mm → Prop} (h1 : Ev l X q d true mc ms av M (fun r M' => ∃ x, r = some (.int x) ∧ k1 x M')) (h2 : Ev l X q d true mc ms av M (fun r M' => ∃ x, r = some (.int x) ∧ k2 x M')) : Ev l X q d true mc ms av M (fun r M' => ∃ x, r = some (.int x) ∧ k1 x M' ∧ ∃ M'', k2 x M'' ∧ M''.1 = M.1 ∧ agr M' M'') := by
  intro D g ad A
  have h := mf_both (h1 D g ad A) (h2 D g ad A)
  intro p e ha hc hk s m args below hf hS hP hK
  obtain ⟨n, o, w, r, e, ⟨q1, q2⟩, q3, q4⟩ := h p e ha hc hk s m args below hf hS hP hK
  refine ⟨n, o, w, r, e, ?_, q2⟩
  obtain ⟨r1, M1, ad1, u1, ⟨x1, v1, w1⟩, z1, a1, b1, c1, d1, e1, f1, g1⟩ := q1
  obtain ⟨r2, M2, ad2, u2, ⟨x2, v2, w2⟩, z2, a2, b2, c2, d2, e2, f2, g2⟩ := q3
  obtain ⟨y1, y2⟩ := z1 rfl
  obtain ⟨y3, y4⟩ := z2 rfl
  subst y1 y3 v1 v2
  have ex : x1 = x2 := by
    have := u1.symm.trans u2
    exact Value.int.inj (Option.some.inj (Outcome.returned.inj this))
  subst ex
  exact ⟨_, M1, _, u1, ⟨x1, rfl, w1, M2, w2, y4, agr_of (y2.trans y4.symm) d1 d2 f1 e1 e2⟩, z1, a1, b1, c1, d1, e1, f1, g1⟩
theorem en_cg {g : Nat → ClassId} {ad : Nat → Nat} {M1 M2 : Mm} {a : Nat} (h0 : mK M2 a = mK M1 a) (h1 : mI M2 a = mI M1 a) (h2 : mL M2 a = mL M1 a) (h3 : mR M2 a = mR M1 a) : en g ad M2 a = en g ad M1 a := by
  have e1 : er ad M2 a = er ad M1 a := by unfold er; rw [h3]
  have e2 : ∀ ts, eo ad M2 a ts = eo ad M1 a ts := by
    intro ts
    unfold eo sv
    rw [h1, h2, h3]
  unfold en
  rw [h0, h1, h2, e1, e2]
theorem wl_cg {g : Nat → ClassId} {ad : Nat → Nat} {M1 M2 : Mm} (hN : mN M2 = mN M1) (hE : ∀ a, a ≤ mN M1 → mK M2 a = mK M1 a ∧ mI M2 a = mI M1 a ∧ mL M2 a = mL M1 a ∧ mR M2 a = mR M1 a) : wl g ad M2 = wl g ad M1 := by
  unfold wl
  rw [hN]
  refine List.map_congr_left fun i hi => ?_
  obtain ⟨a1, a2, a3, a4⟩ := hE (i + 1) (List.mem_range.mp hi)
  rw [en_cg a1 a2 a3 a4]
/-- a contract over a memory with the same places is one over this memory -/
theorem Ev.cg {M2 : Mm} {kr : KR} (hN : mN M2 = mN M) (hK : ∀ a, a ≤ mN M → mK M2 a = mK M a) (hE : ∀ g ad, wl g ad M2 = wl g ad M) (hO : kO M2) (h : Ev l X q d true mc ms av M2 (fun r M' => kr r (M.1, M'.2))) : Ev l X q d true mc ms av M kr := by
  intro D g ad A p e ha hc hk s m args below hf hS hP hK'
  obtain ⟨p1, p2, p3, p4, p5, p6, p7⟩ := hP
  have ew : ∀ ad', wl g ad' M2 = wl g ad' M := fun ad' => hE g ad'
  obtain ⟨n, o, w, r, en, q1, q2⟩ := h D g ad A p e ha hc hk s m args below hf hS ⟨p1, by rw [ew]; exact p2, by rw [ew]; exact p3, p4, hO, by omega, p7⟩ hK'
  refine ⟨n, o, w, r, en, ?_, q2⟩
  obtain ⟨r1, M1, ad1, u1, w1, z1, a1, b1, c1, d1, e1, f1, g1⟩ := q1
  obtain ⟨y1, y2⟩ := z1 rfl
  have n1 : mN M1 = mN M := (congrArg (fun x => x.1) y2).trans hN
  have ew1 : wl g ad1 (M.1, M1.2) = wl g ad1 M1 := by
    refine wl_cg n1.symm (fun a h => ⟨?_, rfl, rfl, rfl⟩)
    have y3 : mK M1 a = mK M2 a := congrArg (fun x => x.2.2.2 a) y2
    rw [y3, hK a (by omega)]
    rfl
  refine ⟨r1, (M.1, M1.2), ad1, u1, w1, fun _ => ⟨y1, rfl⟩, by rw [← hN]; exact a1, Nat.le_refl _, by show mN M ≤ 4000; rw [← n1]; exact c1, fun a i => ?_, by rw [ew1]; exact e1, by rw [ew1]; exact f1, g1⟩
  show mR M1 a i ≤ mN M
  rw [← n1]
  exact d1 a i
end AGR
