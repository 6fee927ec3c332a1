/-! the memory of an end may be changed at places that the structure doesn't have -/
section PST2
theorem arrV_cg {cI : ClassId} {n : Nat} {f f' : Nat → Value} (h : ∀ j, j < n → f j = f' j) : arrV cI n f = arrV cI n f' := by
  have e : (fun j : Fin n => f j.val) = fun j => f' j.val := funext fun j => h j.val j.isLt
  unfold arrV
  rw [e]
theorem vaP_ag {D : va_G} {g : Nat → ClassId} {ad : Nat → Nat} {M1 M2 : Mm} {H : Heap} (he : M2.1 = M1.1) (ha : agr M1 M2) (h : va_P D vwCl (wl g ad M1) H) : va_P D vwCl (wl g ad M2) H := by
  intro k q hq
  have eN : mN M2 = mN M1 := congrArg (fun x => x.1) he
  have hk : k < mN M2 := by
    rcases Nat.lt_or_ge k (mN M2) with c | c
    · exact c
    · rw [List.getElem?_eq_none (by unfold wl; rw [List.length_map, List.length_range]; exact c)] at hq
      cases hq
  have e2 := wl_at (g := g) (ad := ad) (M := M2) (a := k + 1) (Nat.succ_pos _) hk
  rw [Nat.add_sub_cancel] at e2
  have eq := Option.some.inj (hq.symm.trans e2)
  subst eq
  have e1 := wl_at (g := g) (ad := ad) (M := M1) (a := k + 1) (Nat.succ_pos _) (by omega)
  rw [Nat.add_sub_cancel] at e1
  have q1 := h _ _ e1
  have eK : mK M2 (k + 1) = mK M1 (k + 1) := congrArg (fun x => x.2.2.2 (k + 1)) he
  obtain ⟨a1, a2, a3, a4⟩ := ha (k + 1) (Nat.succ_pos _) (by omega)
  unfold en at q1 ⊢
  rw [eK]
  by_cases c8 : (mK M1 (k + 1)).1 < 8
  · rw [if_pos c8] at q1 ⊢
    have e : eo ad M2 (k + 1) (tf (mK M1 (k + 1)).1) = eo ad M1 (k + 1) (tf (mK M1 (k + 1)).1) := by
      unfold eo
      refine List.map_congr_left fun j hj => ?_
      rw [a1 c8 j (List.mem_range.mp hj)]
    rw [e]
    exact q1
  · rw [if_neg c8] at q1 ⊢
    by_cases c10 : (mK M1 (k + 1)).1 = 10
    · rw [if_pos c10] at q1 ⊢
      have q1 : H[ad (k + 1)]? = some (arrV (g 10) (mK M1 (k + 1)).2 (fun j => Value.long (mL M1 (k + 1) j))) := q1
      show H[ad (k + 1)]? = some (arrV (g 10) (mK M1 (k + 1)).2 (fun j => Value.long (mL M2 (k + 1) j)))
      rw [q1, arrV_cg (fun j hj => congrArg Value.long (a2 c10 j hj))]
    · rw [if_neg c10] at q1 ⊢
      by_cases c9 : (mK M1 (k + 1)).1 < 10
      · rw [if_pos c9] at q1 ⊢
        have q1 : H[ad (k + 1)]? = some (arrV (g (mK M1 (k + 1)).1) (mK M1 (k + 1)).2 (fun j => Value.int (mI M1 (k + 1) j))) := q1
        show H[ad (k + 1)]? = some (arrV (g (mK M1 (k + 1)).1) (mK M1 (k + 1)).2 (fun j => Value.int (mI M2 (k + 1) j)))
        rw [q1, arrV_cg (fun j hj => congrArg Value.int (a3 (by omega) j hj))]
      · rw [if_neg c9] at q1 ⊢
        have q1 : H[ad (k + 1)]? = some (arrV (g (mK M1 (k + 1)).1) (mK M1 (k + 1)).2 (fun j => va_rf (er ad M1 (k + 1) j))) := q1
        show H[ad (k + 1)]? = some (arrV (g (mK M1 (k + 1)).1) (mK M1 (k + 1)).2 (fun j => va_rf (er ad M2 (k + 1) j)))
        rw [q1, arrV_cg (fun j hj => show va_rf (er ad M1 (k + 1) j) = va_rf (er ad M2 (k + 1) j) by rw [er_rf, er_rf, a4 (by omega) j hj])]
theorem wl_fst {g : Nat → ClassId} {ad : Nat → Nat} {M1 M2 : Mm} (hN : mN M2 = mN M1) {i : Nat} {p : Nat × va_E} (h : (wl g ad M2)[i]? = some p) : ∃ p', (wl g ad M1)[i]? = some p' ∧ p'.1 = p.1 := by
  unfold wl at h ⊢
  rw [List.getElem?_map, hN] at h
  rw [List.getElem?_map]
  cases hr : (List.range (mN M1))[i]? with
  | none => rw [hr] at h; cases h
  | some j =>
    rw [hr] at h
    have h : (ad (j + 1), en g ad M2 (j + 1)) = p := Option.some.inj h
    subst h
    exact ⟨(ad (j + 1), en g ad M1 (j + 1)), rfl, rfl⟩
theorem vaD_cg {A : Nat → Prop} {g : Nat → ClassId} {ad : Nat → Nat} {M1 M2 : Mm} (hN : mN M2 = mN M1) (h : va_D A (wl g ad M1)) : va_D A (wl g ad M2) := by
  refine ⟨fun i j p q hp hq e => ?_, fun k q hq => ?_⟩
  · obtain ⟨p', hp', ep⟩ := wl_fst hN hp
    obtain ⟨q', hq', eq⟩ := wl_fst hN hq
    exact h.1 i j p' q' hp' hq' (ep.trans (e.trans eq.symm))
  · obtain ⟨q', hq', eq⟩ := wl_fst hN hq
    rw [← eq]
    exact h.2 k q' hq'
variable {l : Launch} {X : Nat × (Nat → Int32)} {q : Md} {d mc ms : Nat} {av : List Value} {M : Mm}
theorem Ev.post {kr kr' : KR} (h : Ev l X q d true mc ms av M kr) (hp : ∀ r M1, kO M → M1.1 = M.1 → kr r M1 → ∃ M2, kr' r M2 ∧ M2.1 = M.1 ∧ kO M2 ∧ agr M1 M2) : Ev l X q d true mc ms av M kr' := by
  intro D g ad A p e ha hc hk s m args below hf hS hP hK'
  obtain ⟨n, o, w, r, en, q1, q2⟩ := h D g ad A p e ha hc hk s m args below hf hS hP hK'
  obtain ⟨p1, p2, p3, p4, p5, p6, p7⟩ := hP
  refine ⟨n, o, w, r, en, ?_, q2⟩
  obtain ⟨r1, M1, ad1, u1, w1, z1, a1, b1, c1, d1, e1, f1, g1⟩ := q1
  obtain ⟨y1, y2⟩ := z1 rfl
  obtain ⟨M2, v1, v2, v3, v4⟩ := hp r1 M1 p5 y2 w1
  have hN : mN M2 = mN M1 := congrArg (fun x => x.1) (v2.trans y2.symm)
  exact ⟨r1, M2, ad1, u1, v1, fun _ => ⟨y1, v2⟩, a1, by rw [hN]; exact b1, by rw [hN]; exact c1, v3, vaP_ag (v2.trans y2.symm) v4 e1, vaD_cg hN f1, g1⟩
theorem agr_rf (M : Mm) : agr M M := fun _ _ _ => ⟨fun _ _ _ => rfl, fun _ _ _ => rfl, fun _ _ _ => rfl, fun _ _ _ => rfl⟩
theorem kd_A : ∀ a, a < 168 → 10 < (kdT a).1 → (kdT a).2 ≤ 16 := by decide +kernel
/-- ints alone changed, and only where the structure has none -/
theorem agr_I {P : List (Nat × List Row)} (h : Iv (mkP P) M) (hF : FM M) {I1 I2 : Nat → Nat → Int32} (hI : ∀ a k, 0 < a → a ≤ 167 → isI a k = true → I1 a k = I2 a k) : agr (M.1, I1, mL M, R0 (mR M 1 1) (mR M 2 3)) (M.1, I2, mL M, mR M) := by
  intro a a0 a1
  have a1 : a ≤ 167 := by have := hF.1; exact Nat.le_trans a1 (Nat.le_of_eq this)
  have e : mK M a = kdT a := h.2.1 a a1
  show agA _ _ a
  unfold agA
  have eM : mK (M.1, I1, mL M, R0 (mR M 1 1) (mR M 2 3)) a = kdT a := e
  rw [eM]
  refine ⟨fun hk k hkl => ?_, fun hk i hi => rfl, fun hk i hi => ?_, fun hk i hi => ?_⟩
  · have hl := tf_len (kdT a).1
    have hR : R0 (mR M 1 1) (mR M 2 3) a k = mR M a k := fm_R h hF a1 (by omega)
    have hT : (tf (kdT a).1).getD k 0 = 0 → I1 a k = I2 a k := fun z => hI a k a0 a1 (by
      unfold isI
      rw [show Nat.blt (kdT a).1 8 = true from Nat.ble_eq_true_of_le hk, show Nat.blt k (tf (kdT a).1).length = true from Nat.ble_eq_true_of_le hkl, z]
      rfl)
    revert hT
    cases (tf (kdT a).1).getD k 0 with
    | zero => exact fun hT => congrArg Value.int (hT rfl)
    | succ t =>
      cases t with
      | zero => exact fun _ => rfl
      | succ t => exact fun _ => congrArg Value.ref hR
  · refine hI a i a0 a1 ?_
    have h8 : Nat.blt (kdT a).1 8 = false := blt_f (by omega)
    have h9 : Nat.blt (kdT a).1 10 = true := Nat.ble_eq_true_of_le (by omega)
    unfold isI
    rw [h8, h9]
    exact Nat.ble_eq_true_of_le hi
  · have := kd_A a (by omega) hk
    exact fm_R h hF a1 (by omega)
end PST2
