/-! a frame over a memory that stays as it is, whose end may be elsewhere than at a return: for the class's led, which throws -/
section WTA
def rq (D : va_G) (g : Nat → ClassId) (A : Nat → Prop) (s : State) (ad : Nat → Nat) (M : Mm) (H : Heap) (locs : List Loc) : Prop :=
  va_P D vwCl (wl g ad M) H ∧ va_D A (wl g ad M) ∧ va_S A s.heap H locs ∧ kO M ∧ mN M ≤ 4000
/-- the frame at pc comes to a place and a stack of which E speaks; the memory is M all along -/
def Wt (l : Launch) (X : Nat × (Nat → Int32)) (q : Md) (d : Nat) (E : Nat → Option Value → Prop) (pc : Nat) (ls : Ls) (st : List Value) (M : Mm) : Prop :=
  ∀ (p : Program) (e : Env) (R : Room) (s : State) (m : MethodId) (args : Array Value) (below : List Frame) (meth : Method) (c : Code) (Q : State → Prop) (D : va_G) (g : Nat → ClassId) (ad : Nat → Nat) (A : Nat → Prop) (H : Heap) (locs : List Loc) (la : Array Slot),
    fx X q p s m args meth c D g ad A → d ≤ R.frames → 64 * d ≤ R.locals → rq D g A s ad M H locs → lv_has la q.2.2.1 (lm ad ls) →
    (∀ (pc' : Nat) (r : Option Value) (H' : Heap) (locs' : List Loc) (la' : Array Slot), E pc' r → rq D g A s ad M H' locs' → lv_has la' q.2.2.1 [] → W p l e R s m args below meth c H' locs' 0 0 Q (F0 m pc' la' (r.toList.map (iv ad)))) →
    W p l e R s m args below meth c H locs 0 0 Q (F0 m pc la (st.map (iv ad)))
variable {l : Launch} {X : Nat × (Nat → Int32)} {q : Md} {d : Nat} {E : Nat → Option Value → Prop} {pc : Nat} {ls : Ls} {st : List Value} {M : Mm}
theorem wt_end {r : Option Value} (he : E pc r) : Wt l X q d E pc ls r.toList M := by
  intro p e R s m args below meth c Q D g ad A H locs la hf h1 h2 hr hl hk
  exact hk pc r H locs la he hr ⟨hl.1, hl.2.1, fun x hx => absurd hx List.not_mem_nil⟩
theorem wt_pure {pc' : Nat} {ls' : Ls} {st' : List Value} (h : ∀ (p : Program) (e : Env) (R : Room) (s : State) (m : MethodId) (args : Array Value) (below : List Frame) (meth : Method) (c : Code) (H : Heap) (locs : List Loc) (Q : State → Prop) (ad : Nat → Nat) (la : Array Slot), p.tables.exec = Jvm.exec → c.code = q.2.1 → lv_has la q.2.2.1 (lm ad ls) → (∀ la' : Array Slot, lv_has la' q.2.2.1 (lm ad ls') → W p l e R s m args below meth c H locs 0 0 Q (F0 m pc' la' (st'.map (iv ad)))) → W p l e R s m args below meth c H locs 0 0 Q (F0 m pc la (st.map (iv ad)))) (k : Wt l X q d E pc' ls' st' M) : Wt l X q d E pc ls st M := by
  intro p e R s m args below meth c Q D g ad A H locs la hf h1 h2 hr hl hk
  exact h p e R s m args below meth c H locs Q ad la hf.1 hf.2.1 hl (fun la' hl' => k p e R s m args below meth c Q D g ad A H locs la' hf h1 h2 hr hl' hk)
theorem wt_two {st' : List Value} {t t' : Nat} {P N : Prop} (h : ∀ (p : Program) (e : Env) (R : Room) (s : State) (m : MethodId) (args : Array Value) (below : List Frame) (meth : Method) (c : Code) (H : Heap) (locs : List Loc) (Q : State → Prop) (ad : Nat → Nat) (la : Array Slot), p.tables.exec = Jvm.exec → c.code = q.2.1 → (P → W p l e R s m args below meth c H locs 0 0 Q (F0 m t la (st'.map (iv ad)))) → (N → W p l e R s m args below meth c H locs 0 0 Q (F0 m t' la (st'.map (iv ad)))) → W p l e R s m args below meth c H locs 0 0 Q (F0 m pc la (st.map (iv ad)))) (k1 : P → Wt l X q d E t ls st' M) (k2 : N → Wt l X q d E t' ls st' M) : Wt l X q d E pc ls st M := by
  intro p e R s m args below meth c Q D g ad A H locs la hf h1 h2 hr hl hk
  exact h p e R s m args below meth c H locs Q ad la hf.1 hf.2.1 (fun z => k1 z p e R s m args below meth c Q D g ad A H locs la hf h1 h2 hr hl hk) (fun z => k2 z p e R s m args below meth c Q D g ad A H locs la hf h1 h2 hr hl hk)
theorem wt_ic {n : Int} {v : Int32} (hv : Int32.ofInt n = v) (hd : decode q.2.1 pc = .ok (.iconst n, 1)) (k1 : Wt l X q d E (pc + 1) ls (.int v :: st) M) : Wt l X q d E pc ls st M :=
  wt_pure (fun _ _ _ _ _ _ _ _ _ _ _ _ ad la hx hb hl k => lv_iconst hx hb hd hv (k la hl)) k1
theorem wt_bi {n : Int} {v : Int32} (hv : (Int8.ofInt n).toInt32 = v) (hd : decode q.2.1 pc = .ok (.bipush n, 2)) (k1 : Wt l X q d E (pc + 2) ls (.int v :: st) M) : Wt l X q d E pc ls st M :=
  wt_pure (fun _ _ _ _ _ _ _ _ _ _ _ _ ad la hx hb hl k => lv_bipush hx hb hd hv (k la hl)) k1
theorem wt_il {i : Nat} {j : Fin 4} {v : Int32} (hi : (j : Nat) = i) (hd : decode q.2.1 pc = .ok (.iload_n j, 1)) (hg : lg ls i = some (.int v)) (k1 : Wt l X q d E (pc + 1) ls (.int v :: st) M) : Wt l X q d E pc ls st M :=
  wt_pure (fun _ _ _ _ _ _ _ _ _ _ _ _ ad la hx hb hl k => lv_iload_n hx hb hd hi (lg_has hg hl) (k la hl)) k1
theorem wt_al {i a : Nat} {j : Fin 4} (hi : (j : Nat) = i) (hd : decode q.2.1 pc = .ok (.aload_n j, 1)) (hg : lg ls i = some (.ref a)) (ha : 0 < a) (k1 : Wt l X q d E (pc + 1) ls (.ref a :: st) M) : Wt l X q d E pc ls st M := by
  refine wt_pure (fun p e R s m args below meth c H locs Q ad la hx hb hl k => ?_) k1
  have k := k la hl
  rw [List.map_cons, iv_ref ha] at k
  exact lv_aload_n hx hb hd hi (by rw [← iv_ref ha]; exact lg_has hg hl) k
theorem wt_is {i : Nat} {j : Fin 4} {v : Int32} {ls' : Ls} (hi : (j : Nat) = i) (hn : i < q.2.2.1) (hd : decode q.2.1 pc = .ok (.istore_n j, 1)) (hp : lp ls i (.int v) = ls') (k1 : Wt l X q d E (pc + 1) ls' st M) : Wt l X q d E pc ls (.int v :: st) M := by
  subst hp
  exact wt_pure (fun _ _ _ _ _ _ _ _ _ _ _ _ ad la hx hb hl k => lv_istore_n hx hb hd hi hl hn rfl (fun la' hl' => k la' (lp_1 rfl hl'))) k1
theorem wt_inc {i : Nat} {n : Int} {x v : Int32} {ls' : Ls} (hv : Int32.ofInt n = v) (hn : i < q.2.2.1) (hd : decode q.2.1 pc = .ok (.iinc i n, 3)) (hg : lg ls i = some (.int x)) (hp : lp ls i (.int (x + v)) = ls') (k1 : Wt l X q d E (pc + 3) ls' st M) : Wt l X q d E pc ls st M := by
  subst hp
  subst hv
  refine wt_pure (fun p e R s m args below meth c H locs Q ad la hx hb hl k => ?_) k1
  obtain ⟨j, hj⟩ := List.getElem?_of_mem (List.mem_map.mpr ⟨(i, Value.int x), lg_mem hg, rfl⟩ : (i, Value.int x) ∈ lm ad ls)
  exact lv_iinc hx hb hd hl hj rfl hn rfl (fun la' hl' => k la' (lp_1 rfl hl'))
theorem wt_go {off : Int} {t : Nat} (ht : (pc : Int) + off = (t : Int)) (hd : decode q.2.1 pc = .ok (.goto off, 3)) (k1 : Wt l X q d E t ls st M) : Wt l X q d E pc ls st M :=
  wt_pure (fun _ _ _ _ _ _ _ _ _ _ _ _ ad la hx hb hl k => lv_goto hx hb hd ht (k la hl)) k1
theorem wt_ge {off : Int} {t : Nat} {x y : Int32} (ht : (pc : Int) + off = (t : Int)) (hd : decode q.2.1 pc = .ok (.if_icmp .ge off, 3)) (k1 : y ≤ x → Wt l X q d E t ls st M) (k2 : ¬ y ≤ x → Wt l X q d E (pc + 3) ls st M) : Wt l X q d E pc ls (.int y :: .int x :: st) M :=
  wt_two (fun _ _ _ _ _ _ _ _ _ _ _ _ ad la hx hb k1 k2 => lv_icmp_ge hx hb hd ht k1 k2) k1 k2
theorem wt_eq {off : Int} {t : Nat} {x y : Int32} (ht : (pc : Int) + off = (t : Int)) (hd : decode q.2.1 pc = .ok (.if_icmp .eq off, 3)) (k1 : x = y → Wt l X q d E t ls st M) (k2 : ¬ x = y → Wt l X q d E (pc + 3) ls st M) : Wt l X q d E pc ls (.int y :: .int x :: st) M :=
  wt_two (fun _ _ _ _ _ _ _ _ _ _ _ _ ad la hx hb k1 k2 => lv_icmp_eq hx hb hd ht k1 k2) k1 k2
theorem wt_ne {off : Int} {t : Nat} {x y : Int32} (ht : (pc : Int) + off = (t : Int)) (hd : decode q.2.1 pc = .ok (.if_icmp .ne off, 3)) (k1 : ¬ x = y → Wt l X q d E t ls st M) (k2 : x = y → Wt l X q d E (pc + 3) ls st M) : Wt l X q d E pc ls (.int y :: .int x :: st) M :=
  wt_two (fun _ _ _ _ _ _ _ _ _ _ _ _ ad la hx hb k1 k2 => lv_icmp_ne hx hb hd ht k1 k2) k1 k2
theorem wt_ifne {off : Int} {t : Nat} {x : Int32} (ht : (pc : Int) + off = (t : Int)) (hd : decode q.2.1 pc = .ok (.ifCond .ne off, 3)) (k1 : ¬ x = 0 → Wt l X q d E t ls st M) (k2 : x = 0 → Wt l X q d E (pc + 3) ls st M) : Wt l X q d E pc ls (.int x :: st) M :=
  wt_two (fun _ _ _ _ _ _ _ _ _ _ _ _ ad la hx hb k1 k2 => lv_if_ne hx hb hd ht k1 k2) k1 k2
theorem wt_get {c k t idx a : Nat} {Cn : String} {T : u_T} {N : Nat} (hc : vwCl[c]? = some (Cn, T, N)) (hin : ∀ w ∈ u_ws Cn T N, w ∈ wB) (h8 : c < 8 ∧ k < N ∧ k < (tf c).length ∧ (tf c).getD k 0 = t) (hw : Cond.fieldLink q.1.cls idx (T k).1 (T k).2.1 (T k).2.2.1 ∈ wB) (hd : decode q.2.1 pc = .ok (.getfield idx, 3)) (h0 : kk M a c = true) (k1 : Wt l X q d E (pc + 3) ls (sv M a k t :: st) M) : Wt l X q d E pc ls (.ref a :: st) M := by
  intro p e R s m args below meth c' Q D g ad A H locs la hf h1 h2 hr hl hk
  obtain ⟨a0, a1, a2⟩ := kk_of h0
  have hw1 := k1 p e R s m args below meth c' Q D g ad A H locs la hf h1 h2 hr hl hk
  rw [List.map_cons, iv_ref a0]
  have he := wl_at (g := g) (ad := ad) a0 a1
  rw [en_o a2 h8.1] at he
  have hts := hf.2.2.2.2.2.2.2.1
  exact va_get hf.1 hf.2.1 hts hin hf.2.2.2.2.2.1 hf.2.2.2.2.2.2.2.2.2.1 hr.1 (a - 1) he hc k h8.2.1 (hts _ hw) (fun _ z => z) (v := iv ad (sv M a k t)) (by rw [eo_at h8.2.2.1, h8.2.2.2]) hd hw1
/-- a call that leaves the memory as it is -/
theorem wt_cv {q' : Md} {c n idx a : Nat} {T : u_T} {N : Nat} {as rest : List Value} (hW : cV q' n) (hc : vwCl[c]? = some (q'.1.cls, T, N)) (h8 : c < 8) (hw : Cond.methodLink q.1.cls idx q'.1 ∈ wB) (hd : decode q.2.1 pc = .ok (.invokevirtual idx, 3)) (e0 : pn (n + 1) st [] = some (.ref a :: as, rest)) (h0 : kk M a c = true) (hcs : cs rest ≤ 8) {ps : Option Value → Prop} (h : Ev l X q' d true 0 0 (.ref a :: as) M (fun r M' => M' = M ∧ ps r)) (k1 : ∀ r, ps r → Wt l X q (d + 1) E (pc + 3) ls (r.toList ++ rest) M) : Wt l X q (d + 1) E pc ls st M := by
  intro p e R s m args below meth c' Q D g ad A H locs la hf g1 g2 hr hl hk
  obtain ⟨r1, r2, r3, r4, r6⟩ := hr
  obtain ⟨a0, a1, a2⟩ := kk_of h0
  obtain ⟨n1, n2⟩ := pn_0 e0
  have hs := sx_kept hf.2.2.2.2.2.2.2.2.2 r3.1 r3.2.1
  have hA := hf.2.2.2.2.2.2.2.2.1
  have hts := hf.2.2.2.2.2.2.2.1
  have hp := fun av => pz_pre (X := X) (av := av) r1 r2 (fun a ha => hA a (Nat.le_trans r3.1 ha)) r4 r6 hs
  have he := wl_at (g := g) (ad := ad) a0 a1
  rw [en_o a2 h8] at he
  have hR : (rz d 0 0).frames + 1 ≤ R.frames ∧ 8 + (q'.2.2.1 + 11) + (rz d 0 0).locals ≤ R.locals := ⟨g1, by have := hW.1.2.2.2; show 8 + (q'.2.2.1 + 11) + 64 * d ≤ _; omega⟩
  have hrun := va_runV (p := p) (e := e) (below := below) (meth := meth) (locs := locs) (cells := 0) (slots := 0) (g := F0 m pc la (st.map (iv ad))) (As := as.map (iv ad)) (rest := rest.map (iv ad)) (b := ad a) (C := q'.1.cls) ⟨hf.1, hf.2.1, hf.2.2.1, hf.2.2.2.2.2.1, hts⟩ (h D g ad A) ⟨callB_of n hts (wB_good hW.1.1) rfl rfl rfl (hts _ hW.1.2.1) (hts _ hw) hW.1.2.2.1 hR, hts _ hW.2.1, hts _ hW.2.2⟩ ⟨(hp _).1, va_recv hs.1 r1 hc he, fun U hU hW' => by
      have := (hp (.ref a :: as)).2 U hU hW'
      rw [List.map_cons, iv_ref a0] at this
      exact this⟩ rfl (by rw [List.length_map]; simpa using n1) hl.1 (by
      show st.map (iv ad) = _
      rw [n2, ← iv_ref a0]
      simp) (lv_room (by rw [cs_of]; exact hcs)) hd ⟨Nat.zero_le _, Nat.zero_le _⟩
  intro T1 hT Xs
  obtain ⟨v, st₀, t, T', L, h3, X', hL, e1, e2, hq, stp⟩ := hrun T1 hT Xs
  obtain ⟨r, M', ad', o1, ⟨o2, o2'⟩, o3, o4, o5, o6, o7, o8, o9, o10⟩ := hq
  obtain ⟨rfl, -⟩ := o3 rfl
  subst o2
  have ev : v = r.map (iv ad') := by cases o1; rfl
  subst ev
  have hS' : va_S A s.heap t.heap (locs ++ L) := by
    obtain ⟨z1, z2⟩ := o10
    rw [h3] at z1 z2
    exact ⟨Nat.le_trans r3.1 z1, fun a ha hA' => by rw [z2 a (Nat.lt_of_lt_of_le ha r3.1) hA']; exact r3.2.1 a ha hA', fun x hx => by
      rcases List.mem_append.mp hx with z | z
      · exact r3.2.2 x z
      · exact hL x z⟩
  have hw1 := k1 r o2' p e R s m args below meth c' Q D g ad' A t.heap (locs ++ L) la hf g1 g2 ⟨o8, o9, hS', r4, r6⟩ hl hk
  obtain ⟨t2, x1, y1⟩ := hw1 T' e1 X'
  refine ⟨t2, stp t2 ?_, y1⟩
  have es : (r.toList ++ rest).map (iv ad') = (r.map (iv ad')).toList ++ rest.map (iv ad') := by cases r <;> simp
  rw [es] at x1
  exact x1
end WTA
/-! a walk's state as a beginning of its own -/
section BASE
variable {p : Program} {l : Launch} {e : Env} {R : Room} {s : State} {m : MethodId} {args : Array Value} {below : List Frame} {meth : Method} {c : Code} {T : State} {locs : List Loc}
theorem hears_eq {u : State} (hv : s.vm.Alike u.vm) (m : MethodId) (below : List Frame) : u.hears m below = s.hears m below := by
  have hm := hv.method?
  rcases below with _ | ⟨y, r⟩
  · simp [State.hears, hm]
  · cases y <;> simp [State.hears, State.code?_eq, hm]
theorem st_base (Xs : Stand p l e R s m args below meth c T locs 0 0) : Stand p l e R (T.setFrames (.invoking m args :: below)) m args below meth c T [] 0 0 := by
  obtain ⟨g₀, hfr⟩ := Xs.frames_eq
  obtain ⟨th, hth, -⟩ := State.frames_cons hfr
  have hcur : T.cur < T.threads.size := (Array.getElem?_eq_some_iff.mp hth).1
  have hF : (T.setFrames (.invoking m args :: below)).frames = .invoking m args :: below := State.frames_setFrames _ hcur
  have hroom : (T.setFrames (.invoking m args :: below)).hasRoom e.platform R = true := by
    obtain ⟨r1, r2, r3, r4⟩ := State.hasRoom_stack Xs.room
    have r5 := State.hasRoom_real Xs.room
    have h := Xs.room
    simp only [State.hasRoom, Bool.and_eq_true, decide_eq_true_eq] at h
    rw [State.localsInUse_invoking Xs.frames Xs.method Xs.code] at r3 r4 r5
    rw [Xs.frames, List.length_cons] at r1 r2
    have hU := State.localsInUse_invoking (s := T.setFrames (.invoking m args :: below)) hF Xs.method' Xs.code
    simp only [State.hasRoom, Bool.and_eq_true, decide_eq_true_eq, hF, hU, List.length_cons, State.stackLimits_setFrames, State.stackBytes_setFrames, Xs.limits, Xs.bytes]
    refine ⟨⟨⟨⟨by omega, by omega, by omega, by omega, by omega, h.1.1.1.2.2.2.2.2⟩, ?_⟩, ?_⟩, Xs.book⟩
    · have h1 := h.1.1.2
      have h2 := Xs.heapSize
      show T.heap.size + R.cells ≤ e.platform.maxCells
      omega
    · have h1 := h.1.2
      have h2 := Xs.used
      show T.slotsUsed + R.slots ≤ e.platform.maxSlots
      omega
  obtain ⟨th', hth', -⟩ := State.frames_cons hF
  have hcur' : (T.setFrames (.invoking m args :: below)).cur < (T.setFrames (.invoking m args :: below)).threads.size := State.cur_lt_of_frames hF
  have hsame : (T.setFrames (.invoking m args :: below)).sameButNew ((T.setFrames (.invoking m args :: below)).setFrames T.frames) [] 0 0 := (State.sameButNew.refl _ hth').setFrames T.frames hcur'
  rw [State.setFrames_setFrames, State.setFrames_self hth] at hsame
  exact ⟨Xs.admits, Xs.cas, Xs.clock, hF, hroom, (hears_eq (s := s) (u := T.setFrames (.invoking m args :: below)) Xs.warmed.alike m below).trans Xs.hears, Xs.method', Xs.code, Xs.here, Xs.tail, State.WarmedH.refl _, by rw [State.stackLimits_setFrames], by rw [State.stackBytes_setFrames], hsame⟩
end BASE
