section OFF
variable {l : Launch} {X : Nat × (Nat → Int32)} {q : Md} {d : Nat} {na : Bool} {pc : Nat}
/-- a method of the JDK -/
theorem Ev.ofF {mc ms : Nat} {av : List Value} {M : Mm} {kr : KR} (hp : plainFor q.1 = true) (hlen : (lg_sl av).length ≤ q.2.2.1) (h : Wf l X q d na (mC M + mc, mS M + ms) 0 (lv_args 0 av) [] M kr) : Ev l X q d na mc ms av M kr := by
  intro D g ad A
  refine va_MetF (cc := q.2.1) (maxL := q.2.2.1) (ret := q.2.2.2) hp rfl ?_
  intro p e s m args below meth c s₁ B hml hv
  obtain ⟨rfl, hP, hD, hA, hk, hn, hs⟩ := hv
  have hlocks := B.notSynchronized
  have hts := atoms_spec (ws := wz q) B.pre
  have hf : fx X q p s m (av.map (iv ad)).toArray meth c D g ad A := ⟨B.exec, B.bytes, hml, B.returns, hlocks, findClass_of_methodNamed B.named, (name_of_methodNamed B.named B.method).1, fun w hw => hts w (List.mem_cons_of_mem _ hw), hA, hs⟩
  have hl := lv_entry (av.map (iv ad)) (n := q.2.2.1) (by rw [sl_len]; exact hlen)
  rw [lg_entry_eq]
  rw [lv_args_iv] at hl
  generalize (lg_sl (av.map (iv ad)) ++ List.replicate (q.2.2.1 - (lg_sl (av.map (iv ad))).length) Slot.unset).toArray = la at hl ⊢
  have hW := h p e (headSpec (wz q) (rz d mc ms)).room s m (av.map (iv ad)).toArray below meth c (MQ below (qz D g ad A na M kr) (av.map (iv ad)).toArray s mc ms A) D g ad A (mN M) M.1 (mC M) (mS M) ad s.heap [] la hf (Nat.le_refl d) (Nat.le_refl _) (Nat.le_of_eq (Nat.add_comm _ _)) (Nat.le_of_eq (Nat.add_comm _ _)) (Nat.le_refl _) (Nat.le_refl _) (Nat.le_add_right _ _) (Nat.le_add_right _ _) ⟨hP, hD, va_S.rf, hk, Nat.le_refl _, hn, fun _ _ => rfl, fun _ => ⟨rfl, rfl⟩⟩ hl ?_
  · rw [Nat.sub_self, Nat.sub_self] at hW
    exact hW
  · intro pc' r M' ad' H' locs' la' hkr hr h1 h2 h3 h4 ht
    obtain ⟨r1, r2, r3, r4, r5, r6, r7, r8⟩ := hr
    have hq : ∀ t : State, t.heap = H' → s.WarmedH t.vm → qz D g ad A na M kr (av.map (iv ad)).toArray s (.returned (r.map (iv ad'))) t := fun t e1 _ => ⟨r, M', ad', rfl, hkr, r8, r7, r5, r6, r4, by rw [e1]; exact r1, r2, r3.F e1⟩
    have w3 : mC M' ≤ mC M + mc := h3
    have w4 : mS M' ≤ mS M + ms := h4
    refine W.widen (k := mc) (n := ms) (by omega) (by omega) ?_
    rcases ht with ⟨v, ty, rfl, e1, e2, e3⟩ | ⟨v, rfl, e1, e3⟩ | ⟨rfl, e1, e3⟩
    · exact W.zret B.exec B.bytes (B.returns.trans e1) e2 hq r3.2.2 e3 hlocks
    · exact W.lret B.exec B.bytes (B.returns.trans e1) hq r3.2.2 e3 hlocks
    · exact W.vret B.exec B.bytes (B.returns.trans e1) hq r3.2.2 e3 hlocks
end OFF
section SIZE
variable {l : Launch} {X : Nat × (Nat → Int32)} {d : Nat} {w : Nat × Nat} {r : Nat} {I J : Nat → Nat → Int32} {L : Nat → Nat → Int64} {kr : KR} {x1 : Int32} {M : Mm}
set_option maxRecDepth 20000 in
theorem kJ_bitCount (h : kr (some (.int 0)) M) : Ev l X uJ6_bitCount_0f7a4 d true 0 0 [.int 0] M kr := by
  refine Ev.ofF (by decide) (Nat.le_of_ble_eq_true rfl) ?_
  refine Wf.gc tkJ6_bitCount_0f7a4 [] ?_
  conv => whnf
  exact h
theorem k3_wallCount (h : kr (some (.int 0)) (mk w 7 0 I0 L)) : Ev l X uX3_wallCount (d + 1) true 0 0 [.ref 7] (mk w 7 0 I0 L) kr := by
  refine Ev.of (by decide) (Nat.le_of_ble_eq_true rfl) ?_
  refine Wf.gc tkX3_wallCount [] ?_
  conv => whnf
  refine kJ_bitCount ?_
  conv => whnf
  exact h
set_option maxRecDepth 20000 in
theorem k3_droppedCount (h : kr (some (.int 0)) (mk w 7 0 I0 L)) : Ev l X uX3_droppedCount d true 0 0 [.ref 7] (mk w 7 0 I0 L) kr := by
  refine Ev.of (by decide) (Nat.le_of_ble_eq_true rfl) ?_
  refine Wf.gc tkX3_droppedCount [] ?_
  conv => whnf
  repeat (first
    | exact h
    | (refine ⟨fun z => absurd z (by decide), fun _ => ?_⟩; conv => whnf)
    | (refine ⟨fun _ => ?_, fun z => absurd z (by decide)⟩; conv => whnf)
    | (refine ⟨fun _ => ?_, fun z => absurd rfl z⟩; conv => whnf)
    | (refine ⟨0, ⟨by decide, by decide, Nat.le_of_ble_eq_true rfl⟩, ?_⟩; conv => whnf)
    | (refine ⟨1, ⟨by decide, by decide, Nat.le_of_ble_eq_true rfl⟩, ?_⟩; conv => whnf)
    | (refine ⟨2, ⟨by decide, by decide, Nat.le_of_ble_eq_true rfl⟩, ?_⟩; conv => whnf)
    | (refine ⟨3, ⟨by decide, by decide, Nat.le_of_ble_eq_true rfl⟩, ?_⟩; conv => whnf)
    | (refine ⟨4, ⟨by decide, by decide, Nat.le_of_ble_eq_true rfl⟩, ?_⟩; conv => whnf)
    | (refine ⟨5, ⟨by decide, by decide, Nat.le_of_ble_eq_true rfl⟩, ?_⟩; conv => whnf))
/-- what size answers of a fresh object -/
def szv (x : Int32) : Int32 := if 0 ≤ x.toInt ∧ x.toInt ≤ 12 then 0 else -1
theorem szv_in {x : Int32} {k : Nat} (h : x.toInt = 0 + (k : Int)) (hk : k ≤ 12) : szv x = 0 := if_pos (by omega)
theorem szv_out {x : Int32} (h : x.toInt < 0 ∨ 0 + ((13 : Nat) : Int) ≤ x.toInt) : szv x = -1 := if_neg (by omega)
set_option maxRecDepth 20000 in
theorem f6_size (h : ∀ I', n150 I' → kr (some (.int (szv x1))) (mk w 7 0 I' L)) : Ev l X uX6_size (d + 6) true 0 0 [.ref 1, .int x1] (mk w 7 0 I0 L) kr := by
  refine Ev.of (by decide) (Nat.le_of_ble_eq_true rfl) ?_
  refine Wf.gc tkX6_size [] ?_
  conv => whnf
  refine ⟨fun k t hk hx => ?_, fun hx => ?_⟩
  · have hl : k < 13 := by
      rcases Nat.lt_or_ge k 13 with z | z
      · exact z
      · rw [List.getElem?_eq_none (by simpa using z)] at hk
        cases hk
    have h := h I0 n150_0
    rw [szv_in hx (by omega)] at h
    rcases (show k = 0 ∨ k = 1 ∨ k = 2 ∨ k = 3 ∨ k = 4 ∨ k = 5 ∨ k = 6 ∨ k = 7 ∨ k = 8 ∨ k = 9 ∨ k = 10 ∨ k = 11 ∨ k = 12 by omega) with rfl | rfl | rfl | rfl | rfl | rfl | rfl | rfl | rfl | rfl | rfl | rfl | rfl
    all_goals
      cases hk
      conv => whnf
      first
        | exact h
        | (refine k3_wallCount ?_
           conv => whnf
           exact h)
        | (refine k3_droppedCount ?_
           conv => whnf
           exact h)
  · conv => whnf
    have h := h I0 n150_0
    rw [szv_out hx] at h
    exact h
set_option maxRecDepth 20000 in
theorem f7_size (hI : n150 I) (h : ∀ M', kr (some (.int (szv x1))) M') : Ev l X uX7_size (d + 6) true 0 0 [.ref 150, .int x1] (mk w 7 r I L) kr := by
  rw [jn_of hI]
  refine Ev.of (by decide) (Nat.le_of_ble_eq_true rfl) ?_
  refine Wf.gc tkX7_size [] ?_
  conv => whnf
  refine ⟨fun c1 => ?_, fun c1 => ?_⟩
  · conv => whnf
    refine ⟨fun z => absurd rfl z, fun _ => ?_⟩
    conv => whnf
    refine k7_inb (fun a b => ?_) (fun a => ?_)
    · conv => whnf
      refine ⟨fun z => absurd z (by decide), fun _ => ?_⟩
      conv => whnf
      have e : szv x1 = 0 := if_pos ⟨Int32.le_iff_toInt_le.mp a, by
        have y := Int32.le_iff_toInt_le.mp b
        have e : (11 : Int32).toInt = 11 := by decide
        omega⟩
      rw [← e]
      exact h _
    · conv => whnf
      refine ⟨fun _ => ?_, fun z => absurd rfl z⟩
      conv => whnf
      have e : szv x1 = -1 := if_neg (fun z => by
        have e0 : (0 : Int32).toInt = 0 := by decide
        have e11 : (11 : Int32).toInt = 11 := by decide
        have e12 : (12 : Int32).toInt = 12 := by decide
        have n12 : x1.toInt ≠ 12 := fun y => c1 (Int32.toInt_inj.mp (by rw [y, e12]))
        exact a ⟨Int32.le_iff_toInt_le.mpr (by omega), Int32.le_iff_toInt_le.mpr (by omega)⟩)
      rw [← e]
      exact h _
  · conv => whnf
    have c1 : x1 = 12 := c1
    have e : szv x1 = 0 := by rw [c1]; decide
    rw [e] at h
    exact h _
end SIZE
