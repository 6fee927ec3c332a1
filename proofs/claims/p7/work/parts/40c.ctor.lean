section CTOR
variable {l : Launch} {X : Nat × (Nat → Int32)} {q : Md} {d : Nat} {b : Nat × Nat} {pc : Nat}
/-- a call that may make names -/
theorem Wf.callA {kr kr' : KR} {ls : Ls} {st rest : List Value} {M : Mm} {mc ms : Nat} (hls : ls.all (fun x => rk (mN M) x.2) = true) (hrs : rest.all (rk (mN M)) = true) (hC : mC M + mc ≤ b.1) (hS : mS M + ms ≤ b.2) (hCS : ∀ r M', kr' r M' → mC M' = mC M + mc ∧ mS M' = mS M + ms) (hk : ∀ r M', kr' r M' → Wf l X q (d + 1) false b (pc + 3) ls (r.toList ++ rest) M' kr)
    (h : ∀ (p : Program) (e : Env) (R : Room) (s : State) (m : MethodId) (args : Array Value) (below : List Frame) (meth : Method) (c : Code) (H : Heap) (locs : List Loc) (cells slots : Nat) (D : va_G) (g : Nat → ClassId) (ad : Nat → Nat) (A : Nat → Prop) (la : Array Slot), p.tables.exec = Jvm.exec → c.code = q.2.1 → c.maxLocals = q.2.2.1 → la.size = q.2.2.1 → s.vm.findClass q.1.cls = some m.cls → (∀ w ∈ wB, w.before args s = true) → d + 1 ≤ R.frames → 64 * (d + 1) ≤ R.locals → cells + mc ≤ R.cells ∧ slots + ms ≤ R.slots → va_K D vwCl (tz g) s → (∀ x ∈ wN, va_Nw (.methodLinkNest x.1 x.2.1 x.2.2 RX6) s) → va_P D vwCl (wl g ad M) H → (∀ av, FrameBlind (pz D g ad X A av M) ∧ ∀ U : State, U.heap = H → s.WarmedH U.vm → pz D g ad X A av M (av.map (iv ad)).toArray U) →
      ∃ a0 : Array Value, va_Run p l e R s m args below meth c H locs cells slots mc ms (F0 m pc la (st.map (iv ad))) (rest.map (iv ad)) (qz D g ad A false M kr' a0) A) :
    Wf l X q (d + 1) false b pc ls st M kr := by
  intro p e R s m args below meth c Q D g ad0 A n0 S0 c0 s0 ad H locs la hf g1 g2 g3 g4 g5 g6 g7 g8 hr hl hk2
  obtain ⟨r1, r2, r3, r4, r5, r6, r7, r8⟩ := hr
  have hs := sx_kept (sx_ad (ad' := ad) (fun n hn => r7 n (Or.inr hn)) hf.2.2.2.2.2.2.2.2.2) r3.1 r3.2.1
  have hA := hf.2.2.2.2.2.2.2.2.1
  obtain ⟨a0, hrun⟩ := h p e R s m args below meth c H locs (mC M - c0) (mS M - s0) D g ad A la hf.1 hf.2.1 hf.2.2.1 hl.1 hf.2.2.2.2.2.1 hf.2.2.2.2.2.2.2.1 g1 g2 (by omega) hs.1 hs.2.1 r1 (fun av => pz_pre r1 r2 (fun a ha => hA a (Nat.le_trans r3.1 ha)) r4 r6 hs)
  intro T hT Xs
  obtain ⟨v, st₀, t, T', L, h0, X', hL, e1, e2, hq, stp⟩ := hrun T hT Xs
  obtain ⟨r, M', ad', o1, o2, o3, o4, o5, o6, o7, o8, o9, o10⟩ := hq
  have ev : v = r.map (iv ad') := by cases o1; rfl
  subst ev
  obtain ⟨w1, w2⟩ := hCS r M' o2
  have hS' : va_S A s.heap t.heap (locs ++ L) := by
    obtain ⟨z1, z2⟩ := o10
    rw [h0] at z1 z2
    exact ⟨Nat.le_trans r3.1 z1, fun a ha hA' => by rw [z2 a (Nat.lt_of_lt_of_le ha r3.1) hA']; exact r3.2.1 a ha hA', fun x hx => by
      rcases List.mem_append.mp hx with z | z
      · exact r3.2.2 x z
      · exact hL x z⟩
  have hl' : lv_has la q.2.2.1 (lm ad' ls) := by rw [lm_rk o4 hls]; exact hl
  have hw := hk r M' o2 p e R s m args below meth c Q D g ad0 A n0 S0 c0 s0 ad' t.heap (locs ++ L) la hf g1 g2 g3 g4 (by omega) (by omega) (by omega) (by omega) ⟨o8, o9, hS', o7, by omega, o6, fun n hn => by
    rcases hn with hn | hn
    · rw [o4 n (Or.inl (Nat.le_trans hn r5))]; exact r7 n (Or.inl hn)
    · rw [o4 n (Or.inr hn)]; exact r7 n (Or.inr hn), fun z => by cases z⟩ hl' hk2
  rw [w1, w2, show mC M + mc - c0 = mC M - c0 + mc by omega, show mS M + ms - s0 = mS M - s0 + ms by omega] at hw
  obtain ⟨t2, a1, b1⟩ := hw T' e1 X'
  refine ⟨t2, stp t2 ?_, b1⟩
  have es : (r.toList ++ rest).map (iv ad') = (r.map (iv ad')).toList ++ rest.map (iv ad) := by rw [List.map_append, ivs_rk o4 hrs]; cases r <;> simp
  rw [es] at a1
  exact a1
/-- a constructor's words -/
def cI (q' : Md) : Prop := cW q' 0 ∧ q'.1.name = "<init>" ∧ Cond.instanceMethod q'.1 ∈ wB ∧ q'.2.2.2 = none
def ri (b : Nat × Nat) (M : Mm) (ls : Ls) (rest : List Value) (a c mc ms : Nat) : Bool := (kk M a c && Nat.ble (cs rest) 8) && (ls.all (fun x => rk (mN M) x.2) && (rest.all (rk (mN M)) && (Nat.ble (mC M + mc) b.1 && Nat.ble (mS M + ms) b.2)))
theorem ri_of {b : Nat × Nat} {M : Mm} {ls : Ls} {rest : List Value} {a c mc ms : Nat} (h : ri b M ls rest a c mc ms = true) : kk M a c = true ∧ cs rest ≤ 8 ∧ ls.all (fun x => rk (mN M) x.2) = true ∧ rest.all (rk (mN M)) = true ∧ mC M + mc ≤ b.1 ∧ mS M + ms ≤ b.2 := by
  obtain ⟨h1, h⟩ := Bool.and_eq_true_iff.mp h
  obtain ⟨h0, h1⟩ := Bool.and_eq_true_iff.mp h1
  obtain ⟨h2, h⟩ := Bool.and_eq_true_iff.mp h
  obtain ⟨h3, h⟩ := Bool.and_eq_true_iff.mp h
  obtain ⟨h4, h⟩ := Bool.and_eq_true_iff.mp h
  exact ⟨h0, Nat.le_of_ble_eq_true h1, h2, h3, Nat.le_of_ble_eq_true h4, Nat.le_of_ble_eq_true h⟩
/-- a constructor without arguments, by a nest mate's link or an open one -/
def oCi (l : Launch) (X : Nat × (Nat → Int32)) (d : Nat) (b : Nat × Nat) (pc : Nat) (q' : Md) (c mc ms : Nat) : OP := fun kn _ ls st M => match st with
  | .ref a :: rest => cond (ri b M ls rest a c mc ms) (Ev l X q' d false mc ms [.ref a] M (fun r M' => (mC M' = mC M + mc ∧ mS M' = mS M + ms) ∧ kn (pc + 3) ls (r.toList ++ rest) M')) False
  | _ => False
set_option maxHeartbeats 2000000 in
theorem ok_ciN {q' : Md} {c mc ms idx : Nat} (hW : cI q') (hw : (q.1.cls, idx, q'.1) ∈ wN) (hd : decode q.2.1 pc = .ok (.invokespecial idx, 3)) : OK l X q (d + 1) false b pc (oCi l X d b pc q' c mc ms) := by
  intro kn kr ls st M hk h
  simp only [oCi] at h
  split at h
  · rename_i a rest
    obtain ⟨h0, h⟩ := condT h
    obtain ⟨i0, i1, i2, i3, i4, i5⟩ := ri_of h0
    obtain ⟨a0, a1, a2⟩ := kk_of i0
    refine Wf.callA (rest := rest) (kr' := fun r M' => (mC M' = mC M + mc ∧ mS M' = mS M + ms) ∧ kn (pc + 3) ls (r.toList ++ rest) M') i2 i3 i4 i5 (fun r M' z => z.1) (fun r M' z => hk _ _ _ _ z.2) (fun p e R s m args below meth c' H locs cells slots D g ad A la hx hb hml hla hown hts g1 g2 g3 hK hN hP hp => ?_)
    have hR : (rz d mc ms).frames + 1 ≤ R.frames ∧ 8 + (q'.2.2.1 + 11) + (rz d mc ms).locals ≤ R.locals := ⟨g1, by have := hW.1.2.2.2; show 8 + (q'.2.2.1 + 11) + 64 * d ≤ _; omega⟩
    refine ⟨_, va_runIN (host := RX6) (bytes := q'.2.1) (maxL := q'.2.2.1) (As := []) (n := 0) (rest := rest.map (iv ad)) (b := ad a) ⟨hx, hb, hml, hown, hts⟩ (h D g ad A) ⟨va_cnB 0 hts (wB_good hW.1.1) (by rw [← hW.2.2.2]; rfl) rfl rfl (hN _ hw) (hts _ hW.1.2.1) hW.1.2.2.1 hR, hW.2.1, hts _ hW.2.2.1⟩ ⟨(hp _).1, fun U hU hW' => ?_⟩ rfl rfl hla ?_ (lv_room (by rw [cs_of]; exact i1)) hd g3⟩
    · have := (hp [.ref a]).2 U hU hW'
      rw [List.map_cons, iv_ref a0] at this
      exact this
    · show (Value.ref a :: rest).map (iv ad) = _
      rw [List.map_cons, iv_ref a0]
      rfl
  · exact h.elim
theorem ok_ci {q' : Md} {c mc ms idx : Nat} (hW : cI q') (hw : Cond.methodLink q.1.cls idx q'.1 ∈ wB) (hd : decode q.2.1 pc = .ok (.invokespecial idx, 3)) : OK l X q (d + 1) false b pc (oCi l X d b pc q' c mc ms) := by
  intro kn kr ls st M hk h
  simp only [oCi] at h
  split at h
  · rename_i a rest
    obtain ⟨h0, h⟩ := condT h
    obtain ⟨i0, i1, i2, i3, i4, i5⟩ := ri_of h0
    obtain ⟨a0, a1, a2⟩ := kk_of i0
    refine Wf.callA (rest := rest) (kr' := fun r M' => (mC M' = mC M + mc ∧ mS M' = mS M + ms) ∧ kn (pc + 3) ls (r.toList ++ rest) M') i2 i3 i4 i5 (fun r M' z => z.1) (fun r M' z => hk _ _ _ _ z.2) (fun p e R s m args below meth c' H locs cells slots D g ad A la hx hb hml hla hown hts g1 g2 g3 hK hN hP hp => ?_)
    have hR : (rz d mc ms).frames + 1 ≤ R.frames ∧ 8 + (q'.2.2.1 + 11) + (rz d mc ms).locals ≤ R.locals := ⟨g1, by have := hW.1.2.2.2; show 8 + (q'.2.2.1 + 11) + 64 * d ≤ _; omega⟩
    refine ⟨_, va_runI (bytes := q'.2.1) (maxL := q'.2.2.1) (As := []) (n := 0) (rest := rest.map (iv ad)) (b := ad a) ⟨hx, hb, hml, hown, hts⟩ (h D g ad A) ⟨callB_of 0 hts (wB_good hW.1.1) (by rw [← hW.2.2.2]; rfl) rfl rfl (hts _ hW.1.2.1) (hts _ hw) hW.1.2.2.1 hR, hW.2.1, hts _ hW.2.2.1⟩ ⟨(hp _).1, fun U hU hW' => ?_⟩ rfl rfl hla ?_ (lv_room (by rw [cs_of]; exact i1)) hd g3⟩
    · have := (hp [.ref a]).2 U hU hW'
      rw [List.map_cons, iv_ref a0] at this
      exact this
    · show (Value.ref a :: rest).map (iv ad) = _
      rw [List.map_cons, iv_ref a0]
      rfl
  · exact h.elim
/-- Object's constructor -/
def oOi (pc : Nat) : OP := fun kn _ ls st M => match st with
  | .ref a :: rest => cond (Nat.blt 0 a && Nat.ble (cs rest) 8) (kn (pc + 3) ls rest M) False
  | _ => False
theorem ok_oi {na : Bool} {idx : Nat} (hi : Cond.instanceMethod Lib.objectInit ∈ wB) (hc : Cond.code Lib.objectInit ⟨#[0xb1]⟩ 1 none ∈ wB) (hw : Cond.methodLink q.1.cls idx Lib.objectInit ∈ wB) (hd : decode q.2.1 pc = .ok (.invokespecial idx, 3)) : OK l X q (d + 1) na b pc (oOi pc) := by
  intro kn kr ls st M hk h
  simp only [oOi] at h
  split at h
  · rename_i a rest
    obtain ⟨h0, h⟩ := condT h
    obtain ⟨h0, h1⟩ := Bool.and_eq_true_iff.mp h0
    have a0 : 0 < a := Nat.le_of_ble_eq_true h0
    have h1 := Nat.le_of_ble_eq_true h1
    refine Wf.mem rfl id (fun p e R s m args below meth c' H locs cells slots Q D g ad A la hx hb hown hts hK hnm hml g1 g2 hP hD hS kx => ?_) (hk _ _ _ _ h)
    rw [List.map_cons, iv_ref a0]
    have hr : 2 * (F0 m pc la (Value.ref (ad a) :: rest.map (iv ad))).monitorRoom + ((rest.map (iv ad)).map fun v => v.category).sum ≤ 8 := lv_room (by rw [cs_of]; exact h1)
    exact W.objInit hx hb hown (hts _ hw) (hts _ hi) (hts _ hc) rfl hml.symm rfl hd (by omega) (by omega) (kx H locs hP hD hS)
  · exact h.elim
end CTOR
