section MORE
variable {l : Launch} {X : Nat × (Nat → Int32)} {q : Md} {d : Nat} {na : Bool} {b : Nat × Nat} {pc : Nat}
/-! String constants -/
def oSc (pc n i : Nat) : OP := fun kn _ ls st M => kn (pc + n) ls (.ref (5000 + i) :: st) M
theorem va_ldcwS {p : Program} {e : Env} {R : Room} {s : State} {m : MethodId} {args : Array Value} {below : List Frame} {meth : Method} {c : Code} {T : State} {locs : List Loc} {cells slots : Nat} (Xs : Stand p l e R s m args below meth c T locs cells slots) (hexec : p.tables.exec = Jvm.exec) {own text : String} {index : Nat} {a : Addr} (hown : s.vm.findClass own = some m.cls)
    (hconst : (Cond.stringRef own index text).before args s = true) (hev : (Term.string own index).eval args s none [] s = some (.ref a)) {g : JFrame} (hg : g.method = m) (hdg : decode c.code g.pc = .ok (.ldc_w index, 3)) :
    ∀ target, Steps p.tables e below (T.setTop { g with pc := g.pc + 3, stack := .ref a :: g.stack }) target → Steps p.tables e below (T.setTop g) target := by
  obtain ⟨k, cf, i, a', hk, hcf, hcp, -, hr, hev'⟩ := Cond.stringRef_spec hown hconst
  cases hev.symm.trans hev'
  obtain ⟨k', hk', he⟩ := Xs.warmed.alike.2.2 _ _ hk
  have hr' : k'.resolved[index]? = some (some (.string a)) := by
    rcases Xs.warmed.entry hk hk' index with h | ⟨h, -⟩
    · rw [h]; exact hr
    · rw [hr] at h; cases h
  intro target hrest
  subst hg
  jvm_step Xs.here [hexec, hdg, ldc_w.wp_string (e := e) (s := T) (f := g) Xs.here.top hk' (by rw [he]; exact hcf) hcp hr']
  exact hrest
theorem ok_sc {i idx : Nat} {tx : String} (hw : (q.1.cls, idx, tx, i) ∈ tQ) (hd : decode q.2.1 pc = .ok (.ldc idx, 2)) : OK l X q d na b pc (oSc pc 2 i) := by
  intro kn kr ls st M hk h p e R s m args below meth c Q D g ad0 A n0 S0 c0 s0 ad H locs la hf g1 g2 g3 g4 g5 g6 g7 g8 hr hl hk2
  have hZ := hf.2.2.2.2.2.2.2.2.2.2.2.2.2.1 _ hw
  have ea : ad (5000 + i) = ad0 (5000 + i) := hr.2.2.2.2.2.2.1 _ (Or.inr (by omega))
  have hW := hk _ _ _ _ h p e R s m args below meth c Q D g ad0 A n0 S0 c0 s0 ad H locs la hf g1 g2 g3 g4 g5 g6 g7 g8 hr hl hk2
  rw [List.map_cons, iv_ref (by omega), ea] at hW
  exact va_ldcS hf.1 hf.2.1 hf.2.2.2.2.2.1 hZ hd hW
theorem ok_scw {i idx : Nat} {tx : String} (hw : (q.1.cls, idx, tx, i) ∈ tQ) (hd : decode q.2.1 pc = .ok (.ldc_w idx, 3)) : OK l X q d na b pc (oSc pc 3 i) := by
  intro kn kr ls st M hk h p e R s m args below meth c Q D g ad0 A n0 S0 c0 s0 ad H locs la hf g1 g2 g3 g4 g5 g6 g7 g8 hr hl hk2
  have hZ := hf.2.2.2.2.2.2.2.2.2.2.2.2.2.1 _ hw
  have ea : ad (5000 + i) = ad0 (5000 + i) := hr.2.2.2.2.2.2.1 _ (Or.inr (by omega))
  have hW := hk _ _ _ _ h p e R s m args below meth c Q D g ad0 A n0 S0 c0 s0 ad H locs la hf g1 g2 g3 g4 g5 g6 g7 g8 hr hl hk2
  rw [List.map_cons, iv_ref (by omega), ea] at hW
  intro T hT Xs
  obtain ⟨t, a1, b1⟩ := hW T hT Xs
  exact ⟨t, va_ldcwS Xs hf.1 hf.2.2.2.2.2.1 (text := tx) hZ.1 hZ.2 (g := F0 m pc la (st.map (iv ad))) rfl (by rw [hf.2.1]; exact hd) t a1, b1⟩
/-! System.arraycopy between rows of ints -/
def oAc (pc : Nat) : OP := fun kn _ ls st M => match st with
  | .int n :: .int dp :: .ref a1 :: .int sp :: .ref a0 :: st => cond (kk M a0 9 && (kk M a1 9 && Nat.ble (cs st) 8)) (∃ x y z : Nat, (sp = nI x ∧ dp = nI y ∧ n = nI z ∧ x < 1000 ∧ y < 1000 ∧ z < 1000 ∧ x + z ≤ (mK M a0).2 ∧ y + z ≤ (mK M a1).2) ∧ kn (pc + 3) ls st (wF M a1 (va_cpy (mI M a0) (mI M a1) x y z))) False
  | _ => False
theorem ok_ac {idx : Nat} (hnat : Cond.native arraycopyName ∈ wB) (hst : Cond.static arraycopyName ∈ wB) (hini : Cond.initialized "java/lang/System" ∈ wB) (hw : Cond.methodLink q.1.cls idx arraycopyName ∈ wB) (hd : decode q.2.1 pc = .ok (.invokestatic idx, 3)) : OK l X q (d + 1) na b pc (oAc pc) := by
  intro kn kr ls st M hk h
  simp only [oAc] at h
  split at h
  · rename_i n9 dp9 a1 sp9 a0 st
    obtain ⟨h0, x, y, z, ⟨rfl, rfl, rfl, x1, y1, z1, h4, h5⟩, h9⟩ := condT h
    clear h
    have h := h9
    clear h9
    have h1 : ¬ nI x < 0 := nI_pos (by omega)
    have h2 : ¬ nI y < 0 := nI_pos (by omega)
    have h3 : ¬ nI z < 0 := nI_pos (by omega)
    have ex : (nI x).toNatClampNeg = x := nI_clamp (by omega)
    have ey : (nI y).toNatClampNeg = y := nI_clamp (by omega)
    have ez : (nI z).toNatClampNeg = z := nI_clamp (by omega)
    rw [← ex, ← ez] at h4
    rw [← ey, ← ez] at h5
    rw [← ex, ← ey, ← ez] at h
    generalize nI x = sp at h h1 h4 ex ⊢
    generalize nI y = dp at h h2 h5 ey ⊢
    generalize nI z = n at h h3 h4 h5 ez ⊢
    obtain ⟨h0, h6⟩ := Bool.and_eq_true_iff.mp h0
    obtain ⟨h6, h7⟩ := Bool.and_eq_true_iff.mp h6
    have h7 := Nat.le_of_ble_eq_true h7
    obtain ⟨p0, p1, p2⟩ := kk_of h0
    obtain ⟨q0, q1, q2⟩ := kk_of h6
    refine Wf.mem (M' := wF M a1 (va_cpy (mI M a0) (mI M a1) sp.toNatClampNeg dp.toNatClampNeg n.toNatClampNeg)) rfl id (fun p e R s m args below meth c' H locs cells slots Q D g ad A la hx hb hown hts hK hnm hml g1 g2 hP hD hS kx => ?_) (hk _ _ _ _ h)
    rw [List.map_cons, List.map_cons, List.map_cons, List.map_cons, List.map_cons, iv_ref p0, iv_ref q0]
    have he0 := wl_at (g := g) (ad := ad) p0 p1
    rw [en_i p2] at he0
    have he1 := wl_at (g := g) (ad := ad) q0 q1
    rw [en_i q2] at he1
    refine va_copyi hx hb hml hown (hts _ hw) (hts _ hnat) (hts _ hst) (hts _ hini) hK hP hD hS (a0 - 1) (a1 - 1) 1 1 he0 he1 rfl rfl rfl h1 h2 h3 h4 h5 (fun _ _ => rfl) (by omega) ?_ hd (fun H1 locs1 r1 r2 r3 => ?_)
    · rw [cs_of]
      have e5 : nativeFrameWords "java/lang/System" "arraycopy" 5 ≤ 40 := by decide +kernel
      omega
    · have hset := ast_wl (g := g) (ad := ad) (M := M) (M' := wF M a1 (va_cpy (mI M a0) (mI M a1) sp.toNatClampNeg dp.toNatClampNeg n.toNatClampNeg)) (e := .inl (g 9, (mK M a1).2, .inl (va_cpy (mI M a0) (mI M a1) sp.toNatClampNeg dp.toNatClampNeg n.toNatClampNeg))) rfl q0 q1 (fun b hb => ⟨funext fun j => wF_o hb, rfl, rfl⟩) (by rw [en_i (M := wF M a1 _) q2, wF_s]; rfl)
      rw [hset] at r1 r2
      exact kx H1 locs1 r1 r2 r3
  · exact h.elim
end MORE
