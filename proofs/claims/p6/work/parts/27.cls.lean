/-! the reference's close: a text is read under table 7; it ends in one of the tables 0 .. 6 -/
section CLS
variable {l : Launch} {X : Nat × (Nat → Int32)} {d : Nat} {M : Mm} {kr : KR}
def impF (fs gs : List Fa) : Bool := gs.all (fun g => fs.any (fun f => Nat.beq f.1 g.1 && (Nat.beq f.2.1 g.2.1 && (Nat.beq f.2.2.1 0 && (Nat.beq g.2.2.1 0 && (decide (g.2.2.2.1 ≤ f.2.2.2.1) && decide (f.2.2.2.2.1 ≤ g.2.2.2.2.1)))))))
theorem gf0 {f : Fa} (h : f.2.2.1 = 0) (g : gf M f) : f.2.2.2.1 ≤ (mI M f.1 f.2.1).toInt ∧ (mI M f.1 f.2.1).toInt ≤ f.2.2.2.2.1 := by
  unfold gf at g
  rw [h] at g
  exact ⟨g.2.1, g.2.2⟩
theorem gf1 {f : Fa} (h : f.2.2.1 = 0) (g : f.2.2.2.1 ≤ (mI M f.1 f.2.1).toInt ∧ (mI M f.1 f.2.1).toInt ≤ f.2.2.2.2.1) : gf M f := by
  unfold gf
  rw [h]
  exact ⟨h, g.1, g.2⟩
theorem impF_ok {fs gs : List Fa} (h : impF fs gs = true) (hf : ∀ f ∈ fs, gf M f) : ∀ g ∈ gs, gf M g := by
  intro g hg
  obtain ⟨f, hm, h1⟩ := List.any_eq_true.mp (List.all_eq_true.mp h g hg)
  obtain ⟨h1, h2⟩ := andT h1
  obtain ⟨h2, h3⟩ := andT h2
  obtain ⟨h3, h4⟩ := andT h3
  obtain ⟨h4, h5⟩ := andT h4
  obtain ⟨h5, h6⟩ := andT h5
  have e1 := Nat.eq_of_beq_eq_true h1
  have e2 := Nat.eq_of_beq_eq_true h2
  have q := gf0 (Nat.eq_of_beq_eq_true h3) (hf f hm)
  rw [e1, e2] at q
  exact gf1 (Nat.eq_of_beq_eq_true h4) ⟨Int.le_trans (of_decide_eq_true h5) q.1, Int.le_trans q.2 (of_decide_eq_true h6)⟩
/-- facts of places that stay -/
def offF (ms : Md3) (fs : List Fa) : Bool := fs.all (fun f => Nat.beq f.2.2.1 0 && !(inm ms f.1 f.2.1))
theorem offF_ok {ms : Md3} {fs : List Fa} {M' : Mm} (h : offF ms fs = true) (hk : kp ms M M') (hf : ∀ f ∈ fs, gf M f) : ∀ f ∈ fs, gf M' f := by
  intro f hm
  obtain ⟨h1, h2⟩ := andT (List.all_eq_true.mp h f hm)
  have h1 := Nat.eq_of_beq_eq_true h1
  have h3 : inm ms f.1 f.2.1 = false := by
    cases hq : inm ms f.1 f.2.1 with
    | false => rfl
    | true => rw [hq] at h2; cases h2
  have q := gf0 h1 (hf f hm)
  rw [← (hk _ _ h3).1] at q
  exact gf1 h1 q
def fcT : List (List Fa) := [[(154, 9, 0, 0, 0, []), (154, 5, 0, 0, 0, [])], [(154, 9, 0, 1, 1, []), (154, 0, 0, 2, 5, []), (154, 5, 0, 0, 0, [])], [(154, 9, 0, 1, 1, []), (154, 0, 0, 2, 5, []), (154, 5, 0, 1, 1, []), (154, 35, 0, 1, 30, []), (154, 36, 0, 1, 30, [])], [(154, 9, 0, 1, 1, []), (154, 0, 0, 2, 5, []), (154, 5, 0, 2, 2, []), (154, 35, 0, 1, 30, []), (154, 36, 0, 1, 30, []), (154, 37, 0, 1, 30, []), (154, 38, 0, 1, 30, [])], [(154, 9, 0, 1, 1, []), (154, 0, 0, 2, 5, []), (154, 5, 0, 3, 3, []), (154, 35, 0, 1, 30, []), (154, 36, 0, 1, 30, []), (154, 37, 0, 1, 30, []), (154, 38, 0, 1, 30, []), (154, 39, 0, 1, 30, []), (154, 40, 0, 1, 30, [])], [(154, 9, 0, 1, 1, []), (154, 0, 0, 2, 5, []), (154, 5, 0, 4, 4, []), (154, 35, 0, 1, 30, []), (154, 36, 0, 1, 30, []), (154, 37, 0, 1, 30, []), (154, 38, 0, 1, 30, []), (154, 39, 0, 1, 30, []), (154, 40, 0, 1, 30, []), (154, 41, 0, 1, 30, []), (154, 42, 0, 1, 30, [])], [(154, 9, 0, 1, 1, []), (154, 0, 0, 2, 5, []), (154, 5, 0, 5, 5, []), (154, 35, 0, 1, 30, []), (154, 36, 0, 1, 30, []), (154, 37, 0, 1, 30, []), (154, 38, 0, 1, 30, []), (154, 39, 0, 1, 30, []), (154, 40, 0, 1, 30, []), (154, 41, 0, 1, 30, []), (154, 42, 0, 1, 30, []), (154, 43, 0, 1, 30, []), (154, 44, 0, 1, 30, [])]]
def sfT : List (List Fa) := [[(150, 14, 0, 1, 1, []), (153, 0, 0, 2, 5, []), (153, 5, 0, 0, 0, [])], [(150, 14, 0, 1, 1, []), (153, 0, 0, 2, 5, []), (153, 5, 0, 1, 1, []), (153, 35, 0, 1, 30, []), (153, 36, 0, 1, 30, [])], [(150, 14, 0, 1, 1, []), (153, 0, 0, 2, 5, []), (153, 5, 0, 2, 2, []), (153, 35, 0, 1, 30, []), (153, 36, 0, 1, 30, []), (153, 37, 0, 1, 30, []), (153, 38, 0, 1, 30, [])], [(150, 14, 0, 1, 1, []), (153, 0, 0, 2, 5, []), (153, 5, 0, 3, 3, []), (153, 35, 0, 1, 30, []), (153, 36, 0, 1, 30, []), (153, 37, 0, 1, 30, []), (153, 38, 0, 1, 30, []), (153, 39, 0, 1, 30, []), (153, 40, 0, 1, 30, [])], [(150, 14, 0, 1, 1, []), (153, 0, 0, 2, 5, []), (153, 5, 0, 4, 4, []), (153, 35, 0, 1, 30, []), (153, 36, 0, 1, 30, []), (153, 37, 0, 1, 30, []), (153, 38, 0, 1, 30, []), (153, 39, 0, 1, 30, []), (153, 40, 0, 1, 30, []), (153, 41, 0, 1, 30, []), (153, 42, 0, 1, 30, [])], [(150, 14, 0, 1, 1, []), (153, 0, 0, 2, 5, []), (153, 5, 0, 5, 5, []), (153, 35, 0, 1, 30, []), (153, 36, 0, 1, 30, []), (153, 37, 0, 1, 30, []), (153, 38, 0, 1, 30, []), (153, 39, 0, 1, 30, []), (153, 40, 0, 1, 30, []), (153, 41, 0, 1, 30, []), (153, 42, 0, 1, 30, []), (153, 43, 0, 1, 30, []), (153, 44, 0, 1, 30, [])], [(150, 14, 0, 0, 0, [])]]
def fcs (s : Nat) : List Fa := fcT.getD s []
def sfs (p : Nat) : List Fa := sfT.getD p []
/-- what reading a line may change; what the loop and the tail may; what all may -/
def msR : Md3 := [(150, 4, 10), (150, 13, 13), (152, 0, 7), (154, 0, 201), (156, 0, 24)]
def msT9 : Md3 := [(150, 0, 0), (150, 4, 11), (150, 13, 14), (150, 22, 23), (152, 0, 7), (153, 0, 201), (154, 0, 201), (155, 0, 24), (156, 0, 24), (157, 0, 24)]
def msC : Md3 := [(150, 0, 0), (150, 2, 11), (150, 13, 14), (150, 22, 23), (152, 0, 7), (153, 0, 201), (154, 0, 201), (155, 0, 24), (156, 0, 24), (157, 0, 24)]
theorem all7 {f : Nat → Bool} (h : (List.range 7).all f = true) {s : Nat} (hs : s < 7) : f s = true := List.all_eq_true.mp h s (List.mem_range.mpr hs)
theorem off_fc {s : Nat} (hs : s < 7) : offF msN (fcs s) = true := all7 (f := fun s => offF msN (fcs s)) (by decide +kernel) hs
theorem off_sN {s : Nat} (hs : s < 7) : offF msN (sfs s) = true := all7 (f := fun s => offF msN (sfs s)) (by decide +kernel) hs
theorem off_sR {s : Nat} (hs : s < 7) : offF msR (sfs s) = true := all7 (f := fun s => offF msR (sfs s)) (by decide +kernel) hs
def chkR (E Q : List Fa) (s : Nat) (K : Con) : Bool := impF (E ++ fcs s) K.1.2.2 && (K.2.1.all (fun m => ina msR m.1 m.2.1 m.2.2) && K.2.2.all (fun p => p.1.isNone && (List.range 7).any (fun s' => impF p.2.2 (Q ++ fcs s'))))
theorem rd_of {e : Int} {K : Con} {dd s : Nat} {E Q : List Fa} (hv : Vc l X U0 Pt7 e dd K) (h1 : U0 K.1.1 = uX7_readLine) (h2 : K.1.2.1 = [(2, 0, 0, [150])]) (hc : chkR E Q s K = true) (hI : Iv Pt7 M) (he : e ≤ (mI M 150 5).toInt) (hE : ∀ f ∈ E, gf M f) (hf : ∀ f ∈ fcs s, gf M f) (h : ∀ M' s', s' < 7 → Jv Pt7 msR (M, e) M' → (∀ f ∈ Q, gf M' f) → (∀ f ∈ fcs s', gf M' f) → kr none M') : Ev l X uX7_readLine dd true 0 0 [.ref 150] M kr := by
  obtain ⟨c1, c2⟩ := andT hc
  obtain ⟨c2, c3⟩ := andT c2
  have := hv [.ref 150] M kr hI he (by rw [h2]; exact ⟨⟨rfl, List.mem_singleton.mpr rfl⟩, trivial⟩) (impF_ok c1 (fun f hm => (List.mem_append.mp hm).elim (hE f) (hf f))) (fun r M' hJ hp => by
    obtain ⟨p, hp, g1, -, g3⟩ := hp
    obtain ⟨c4, c5⟩ := andT (List.all_eq_true.mp c3 p hp)
    obtain ⟨s', hs', c5⟩ := List.any_eq_true.mp c5
    have hq := impF_ok c5 g3
    have hn : r = none := by
      cases hz : p.1 with
      | some b => rw [hz] at c4; cases c4
      | none =>
        rw [hz] at g1
        cases r with
        | none => rfl
        | some v => exact g1.elim
    rw [hn]
    exact h M' s' (List.mem_range.mp hs') (Jv_tr (Jv.rf hI he) hJ c2) (fun f hm => hq f (List.mem_append.mpr (Or.inl hm))) (fun f hm => hq f (List.mem_append.mpr (Or.inr hm))))
  rw [h1] at this
  exact this
theorem lt7 {s : Nat} (h : s < 7) : s = 0 ∨ s = 1 ∨ s = 2 ∨ s = 3 ∨ s = 4 ∨ s = 5 ∨ s = 6 := by omega
set_option maxRecDepth 20000 in
theorem rd_ev {e : Int} {s : Nat} (hs : s < 7) (hI : Iv Pt7 M) (he : e ≤ (mI M 150 5).toInt) (hf : ∀ f ∈ fcs s, gf M f) (h : ∀ M' s', s' < 7 → Jv Pt7 msR (M, e) M' → (∀ f ∈ fcs s', gf M' f) → kr none M') : Ev l X uX7_readLine (d + 10) true 0 0 [.ref 150] M kr := by
  have go : ∀ {K : Con} {s : Nat}, Vc l X U0 Pt7 e (d + 10) K → U0 K.1.1 = uX7_readLine → K.1.2.1 = [(2, 0, 0, [150])] → chkR [] [] s K = true → (∀ f ∈ fcs s, gf M f) → Ev l X uX7_readLine (d + 10) true 0 0 [.ref 150] M kr := fun hv h1 h2 hc hf => rd_of hv h1 h2 hc hI he (fun f hm => absurd hm List.not_mem_nil) hf (fun M' s' h1 h2 _ h3 => h M' s' h1 h2 h3)
  rcases lt7 hs with rfl | rfl | rfl | rfl | rfl | rfl | rfl
  · exact go (vc1208 d) rfl rfl (by decide +kernel) hf
  · exact go (vc1312 d) rfl rfl (by decide +kernel) hf
  · exact go (vc1320 d) rfl rfl (by decide +kernel) hf
  · exact go (vc1328 d) rfl rfl (by decide +kernel) hf
  · exact go (vc1336 d) rfl rfl (by decide +kernel) hf
  · exact go (vc1344 d) rfl rfl (by decide +kernel) hf
  · exact go (vc1347 d) rfl rfl (by decide +kernel) hf
set_option maxRecDepth 20000 in
theorem rz_ev {e : Int} {s : Nat} (hs : s < 7) (hI : Iv Pt7 M) (he : e ≤ (mI M 150 5).toInt) (h0 : mI M 150 6 = 0) (hf : ∀ f ∈ fcs s, gf M f) (h : ∀ M' s', s' < 7 → Jv Pt7 msR (M, e) M' → (mI M' 150 13).toInt = 1 → (∀ f ∈ fcs s', gf M' f) → kr none M') : Ev l X uX7_readLine (d + 10) true 0 0 [.ref 150] M kr := by
  have go : ∀ {K : Con} {s : Nat}, Vc l X U0 Pt7 e (d + 10) K → U0 K.1.1 = uX7_readLine → K.1.2.1 = [(2, 0, 0, [150])] → chkR [(150, 6, 0, 0, 1, [])] [(150, 13, 0, 1, 1, [])] s K = true → (∀ f ∈ fcs s, gf M f) → Ev l X uX7_readLine (d + 10) true 0 0 [.ref 150] M kr := fun hv h1 h2 hc hf => rd_of hv h1 h2 hc hI he (fun f hm => by
    obtain rfl := List.mem_singleton.mp hm
    exact gf1 (f := (150, 6, 0, 0, 1, [])) rfl (by show (0 : Int) ≤ (mI M 150 6).toInt ∧ (mI M 150 6).toInt ≤ 1; rw [h0]; decide)) hf (fun M' s' h1 h2 h4 h3 => h M' s' h1 h2 (by
      have q := gf0 (f := (150, 13, 0, 1, 1, [])) rfl (h4 _ (List.mem_singleton.mpr rfl))
      have q : (1 : Int) ≤ (mI M' 150 13).toInt ∧ (mI M' 150 13).toInt ≤ 1 := q
      omega) h3)
  rcases lt7 hs with rfl | rfl | rfl | rfl | rfl | rfl | rfl
  · exact go (vc1366 (d + 7)) rfl rfl (by decide +kernel) hf
  · exact go (vc1377 (d + 7)) rfl rfl (by decide +kernel) hf
  · exact go (vc1378 (d + 7)) rfl rfl (by decide +kernel) hf
  · exact go (vc1379 (d + 7)) rfl rfl (by decide +kernel) hf
  · exact go (vc1380 (d + 7)) rfl rfl (by decide +kernel) hf
  · exact go (vc1381 (d + 7)) rfl rfl (by decide +kernel) hf
  · exact go (vc1383 (d + 7)) rfl rfl (by decide +kernel) hf
def Kw7 : List Con := [Kc1127, Kc1385]
def KtC (p s : Nat) : Con := ((0, [(2, 0, 0, [150]), (0, iLo, iHi, [])], fcs s ++ sfs p), msT9, (some (0, iLo, iHi, []), [], sfs p) :: cond (Nat.beq s 0) [] [(some (0, iLo, iHi, []), [], sfs (s - 1))])
def tlC (p s : Nat) : Bool := run (stpc Pt7 msT9 (KtC p s).2.2 Kw7 152 cdX7_close) (hsp [] none []) 1000 125 (ent (KtC p s))
set_option maxRecDepth 20000 in
theorem tl_00 : tlC 0 0 = true := by decide +kernel
set_option maxRecDepth 20000 in
theorem tl_01 : tlC 0 1 = true := by decide +kernel
set_option maxRecDepth 20000 in
theorem tl_02 : tlC 0 2 = true := by decide +kernel
set_option maxRecDepth 20000 in
theorem tl_03 : tlC 0 3 = true := by decide +kernel
set_option maxRecDepth 20000 in
theorem tl_04 : tlC 0 4 = true := by decide +kernel
set_option maxRecDepth 20000 in
theorem tl_05 : tlC 0 5 = true := by decide +kernel
set_option maxRecDepth 20000 in
theorem tl_06 : tlC 0 6 = true := by decide +kernel
set_option maxRecDepth 20000 in
theorem tl_10 : tlC 1 0 = true := by decide +kernel
set_option maxRecDepth 20000 in
theorem tl_11 : tlC 1 1 = true := by decide +kernel
set_option maxRecDepth 20000 in
theorem tl_12 : tlC 1 2 = true := by decide +kernel
set_option maxRecDepth 20000 in
theorem tl_13 : tlC 1 3 = true := by decide +kernel
set_option maxRecDepth 20000 in
theorem tl_14 : tlC 1 4 = true := by decide +kernel
set_option maxRecDepth 20000 in
theorem tl_15 : tlC 1 5 = true := by decide +kernel
set_option maxRecDepth 20000 in
theorem tl_16 : tlC 1 6 = true := by decide +kernel
set_option maxRecDepth 20000 in
theorem tl_20 : tlC 2 0 = true := by decide +kernel
set_option maxRecDepth 20000 in
theorem tl_21 : tlC 2 1 = true := by decide +kernel
set_option maxRecDepth 20000 in
theorem tl_22 : tlC 2 2 = true := by decide +kernel
set_option maxRecDepth 20000 in
theorem tl_23 : tlC 2 3 = true := by decide +kernel
set_option maxRecDepth 20000 in
theorem tl_24 : tlC 2 4 = true := by decide +kernel
set_option maxRecDepth 20000 in
theorem tl_25 : tlC 2 5 = true := by decide +kernel
set_option maxRecDepth 20000 in
theorem tl_26 : tlC 2 6 = true := by decide +kernel
set_option maxRecDepth 20000 in
theorem tl_30 : tlC 3 0 = true := by decide +kernel
set_option maxRecDepth 20000 in
theorem tl_31 : tlC 3 1 = true := by decide +kernel
set_option maxRecDepth 20000 in
theorem tl_32 : tlC 3 2 = true := by decide +kernel
set_option maxRecDepth 20000 in
theorem tl_33 : tlC 3 3 = true := by decide +kernel
set_option maxRecDepth 20000 in
theorem tl_34 : tlC 3 4 = true := by decide +kernel
set_option maxRecDepth 20000 in
theorem tl_35 : tlC 3 5 = true := by decide +kernel
set_option maxRecDepth 20000 in
theorem tl_36 : tlC 3 6 = true := by decide +kernel
set_option maxRecDepth 20000 in
theorem tl_40 : tlC 4 0 = true := by decide +kernel
set_option maxRecDepth 20000 in
theorem tl_41 : tlC 4 1 = true := by decide +kernel
set_option maxRecDepth 20000 in
theorem tl_42 : tlC 4 2 = true := by decide +kernel
set_option maxRecDepth 20000 in
theorem tl_43 : tlC 4 3 = true := by decide +kernel
set_option maxRecDepth 20000 in
theorem tl_44 : tlC 4 4 = true := by decide +kernel
set_option maxRecDepth 20000 in
theorem tl_45 : tlC 4 5 = true := by decide +kernel
set_option maxRecDepth 20000 in
theorem tl_46 : tlC 4 6 = true := by decide +kernel
set_option maxRecDepth 20000 in
theorem tl_50 : tlC 5 0 = true := by decide +kernel
set_option maxRecDepth 20000 in
theorem tl_51 : tlC 5 1 = true := by decide +kernel
set_option maxRecDepth 20000 in
theorem tl_52 : tlC 5 2 = true := by decide +kernel
set_option maxRecDepth 20000 in
theorem tl_53 : tlC 5 3 = true := by decide +kernel
set_option maxRecDepth 20000 in
theorem tl_54 : tlC 5 4 = true := by decide +kernel
set_option maxRecDepth 20000 in
theorem tl_55 : tlC 5 5 = true := by decide +kernel
set_option maxRecDepth 20000 in
theorem tl_56 : tlC 5 6 = true := by decide +kernel
set_option maxRecDepth 20000 in
theorem tl_60 : tlC 6 0 = true := by decide +kernel
set_option maxRecDepth 20000 in
theorem tl_61 : tlC 6 1 = true := by decide +kernel
set_option maxRecDepth 20000 in
theorem tl_62 : tlC 6 2 = true := by decide +kernel
set_option maxRecDepth 20000 in
theorem tl_63 : tlC 6 3 = true := by decide +kernel
set_option maxRecDepth 20000 in
theorem tl_64 : tlC 6 4 = true := by decide +kernel
set_option maxRecDepth 20000 in
theorem tl_65 : tlC 6 5 = true := by decide +kernel
set_option maxRecDepth 20000 in
theorem tl_66 : tlC 6 6 = true := by decide +kernel
theorem tl_all {p s : Nat} (hp : p < 7) (hs : s < 7) : tlC p s = true := by
  rcases lt7 hp with rfl | rfl | rfl | rfl | rfl | rfl | rfl
  · rcases lt7 hs with rfl | rfl | rfl | rfl | rfl | rfl | rfl
    · exact tl_00
    · exact tl_01
    · exact tl_02
    · exact tl_03
    · exact tl_04
    · exact tl_05
    · exact tl_06
  · rcases lt7 hs with rfl | rfl | rfl | rfl | rfl | rfl | rfl
    · exact tl_10
    · exact tl_11
    · exact tl_12
    · exact tl_13
    · exact tl_14
    · exact tl_15
    · exact tl_16
  · rcases lt7 hs with rfl | rfl | rfl | rfl | rfl | rfl | rfl
    · exact tl_20
    · exact tl_21
    · exact tl_22
    · exact tl_23
    · exact tl_24
    · exact tl_25
    · exact tl_26
  · rcases lt7 hs with rfl | rfl | rfl | rfl | rfl | rfl | rfl
    · exact tl_30
    · exact tl_31
    · exact tl_32
    · exact tl_33
    · exact tl_34
    · exact tl_35
    · exact tl_36
  · rcases lt7 hs with rfl | rfl | rfl | rfl | rfl | rfl | rfl
    · exact tl_40
    · exact tl_41
    · exact tl_42
    · exact tl_43
    · exact tl_44
    · exact tl_45
    · exact tl_46
  · rcases lt7 hs with rfl | rfl | rfl | rfl | rfl | rfl | rfl
    · exact tl_50
    · exact tl_51
    · exact tl_52
    · exact tl_53
    · exact tl_54
    · exact tl_55
    · exact tl_56
  · rcases lt7 hs with rfl | rfl | rfl | rfl | rfl | rfl | rfl
    · exact tl_60
    · exact tl_61
    · exact tl_62
    · exact tl_63
    · exact tl_64
    · exact tl_65
    · exact tl_66
theorem gre_i {r : Option Value} {a b : Int} (h : gre r (some (0, a, b, []))) : ∃ x, r = some (.int x) := by
  cases r with
  | none => exact h.elim
  | some v =>
    cases v with
    | int x => exact ⟨x, rfl⟩
    | long x => have := h.1; cases this
    | ref x => have := h.1; cases this
    | _ => exact h.elim
set_option maxRecDepth 20000 in
theorem tl_ok {M0 : Mm} {p s : Nat} {n : Int32} {b : Nat × Nat} (hp : p < 7) (hs : s < 7) (hJ : Jv Pt7 msT9 (M0, 0) M) (hf : ∀ f ∈ fcs s, gf M f) (hg : ∀ f ∈ sfs p, gf M f) (h : ∀ (r : Int32) (M' : Mm) (q : Nat), q < 7 → Jv Pt7 msT9 (M0, 0) M' → (∀ f ∈ sfs q, gf M' f) → kr (some (.int r)) M') : Wf l X uX7_close (d + 11) true b 125 [(0, .ref 150), (1, .int n)] [] M kr := by
  have hr : ∀ r M', Jv Pt7 msT9 (M0, 0) M' → gps [.ref 150, .int n] r M' (KtC p s).2.2 → kr r M' := by
    intro r M' hJ' hq
    obtain ⟨q, hq, g1, -, g3⟩ := hq
    rcases List.mem_cons.mp hq with rfl | hq
    · obtain ⟨x, rfl⟩ := gre_i g1
      exact h x M' p hp hJ' g3
    · cases hb : Nat.beq s 0 with
      | true => rw [hb] at hq; exact absurd hq List.not_mem_nil
      | false =>
        rw [hb] at hq
        obtain rfl := List.mem_singleton.mp hq
        obtain ⟨x, rfl⟩ := gre_i g1
        exact h x M' (s - 1) (by omega) hJ' g3
  exact from_ok (Hs := []) (fuel := 1000) (stp := stpc Pt7 msT9 (KtC p s).2.2 Kw7 152 cdX7_close) (J := Jv Pt7 msT9 (M0, 0)) (tb := ctb l X (d + 10) U0 cdX7_close) (by rw [← ceX7_close]; exact tkX7_close) (stpc_ok (M0 := (M0, 0)) (List.forall_mem_cons.mpr ⟨vc1127 (d + 10), List.forall_mem_cons.mpr ⟨vc1385 (d + 10), fun _ h => absurd h List.not_mem_nil⟩⟩) (cpyX (d + 10)) hr) (fun _ h => absurd h List.not_mem_nil) (tl_all hp hs) hJ (ent_in (K := KtC p s) (av := [.ref 150, .int n]) (Nat.le_of_ble_eq_true rfl) ⟨⟨rfl, List.mem_singleton.mpr rfl⟩, ⟨rfl, i32_lo _, i32_hi _⟩, trivial⟩ (fun f hm => (List.mem_append.mp hm).elim (hf f) (hg f)))
theorem Jv_e0 {ms : Md3} {M' : Mm} {e : Int} (h : Jv Pt7 ms (M, e) M') : Jv Pt7 ms (M, 0) M' := ⟨h.1, h.2.1, h.2.2.1, (h.2.1.2.2.2 150 5 (by decide)).1⟩
set_option maxRecDepth 20000 in
theorem cl_loop {M0 : Mm} {p : Nat} {n : Int32} {b : Nat × Nat} (hp : p < 7) (h : ∀ (r : Int32) (M' : Mm) (q : Nat), q < 7 → Jv Pt7 msT9 (M0, 0) M' → (∀ f ∈ sfs q, gf M' f) → kr (some (.int r)) M') : ∀ (m s : Nat) (M : Mm), s < 7 → Jv Pt7 msT9 (M0, 0) M → (∀ f ∈ fcs s, gf M f) → (∀ f ∈ sfs p, gf M f) → (902 : Int) ≤ (mI M 150 5).toInt + m → Wf l X uX7_close (d + 11) true b 98 [(0, .ref 150), (1, .int n)] [] M kr := by
  intro m
  induction m with
  | zero =>
    intro s M hs hJ hf hg hm
    have := (hJ.2.1.2.2.2 150 5 (by decide)).2
    have : (mI M 150 5).toInt ≤ 901 := this
    omega
  | succ m ih =>
    intro s M hs hJ hf hg hm
    have k150 : kk M 150 7 = true := kk_ok hJ.2.1 rfl
    refine Wf.sAl tkX7_close rfl rfl rfl ?_
    refine Wf.sG tkX7_close rfl k150 ?_
    refine Wf.sIf (x := mI M 150 13) tkX7_close rfl (fun _ => tl_ok hp hs hJ hf hg h) (fun _ => ?_)
    refine Wf.sAl tkX7_close rfl rfl rfl ?_
    refine Wf.sG tkX7_close rfl k150 ?_
    refine Wf.sIc tkX7_close rfl ?_
    refine Wf.sCm (x := mI M 150 6) (y := 59) tkX7_close rfl (fun _ => tl_ok hp hs hJ hf hg h) (fun _ => ?_)
    refine Wf.sAl tkX7_close rfl rfl rfl ?_
    refine Wf.sCv (as := []) (rest := []) tkX7_close rfl rfl k150 rfl ?_
    refine nx_ev (d := d + 8) (e := (mI M 150 5).toInt) hJ.2.1 (Int.le_refl _) (fun M1 hJ1 hP1 => ?_)
    have hJ1' : Jv Pt7 msT9 (M0, 0) M1 := Jv_tr hJ (Jv_e0 hJ1) (by decide)
    have hf1 := offF_ok (off_fc hs) hJ1.2.2.1 hf
    have hg1 := offF_ok (off_sN hp) hJ1.2.2.1 hg
    have k150 : kk M1 150 7 = true := kk_ok hJ1.2.1 rfl
    refine Wf.sAl tkX7_close rfl rfl rfl ?_
    refine Wf.sCv (as := []) (rest := []) tkX7_close rfl rfl k150 rfl ?_
    rcases hP1.2 with h0 | hgr
    · refine rz_ev (d := d) (e := (mI M1 150 5).toInt) hs hJ1.2.1 (Int.le_refl _) h0 hf1 (fun M2 s' hs' hJ2 h13 hf2 => ?_)
      have hJ2' : Jv Pt7 msT9 (M0, 0) M2 := Jv_tr hJ1' (Jv_e0 hJ2) (by decide)
      have hg2 := offF_ok (off_sR hp) hJ2.2.2.1 hg1
      have k150 : kk M2 150 7 = true := kk_ok hJ2.2.1 rfl
      refine Wf.sGo tkX7_close rfl ?_
      refine Wf.sAl tkX7_close rfl rfl rfl ?_
      refine Wf.sG tkX7_close rfl k150 ?_
      refine Wf.sIf (x := mI M2 150 13) tkX7_close rfl (fun _ => tl_ok hp hs' hJ2' hf2 hg2 h) (fun z => ?_)
      have z : mI M2 150 13 = 0 := z
      rw [z] at h13
      exact absurd h13 (by decide)
    · refine rd_ev (d := d) (e := (mI M1 150 5).toInt) hs hJ1.2.1 (Int.le_refl _) hf1 (fun M2 s' hs' hJ2 hf2 => ?_)
      have hJ2' : Jv Pt7 msT9 (M0, 0) M2 := Jv_tr hJ1' (Jv_e0 hJ2) (by decide)
      have hg2 := offF_ok (off_sR hp) hJ2.2.2.1 hg1
      refine Wf.sGo tkX7_close rfl ?_
      have := hJ2.2.2.2
      have : (mI M1 150 5).toInt ≤ (mI M2 150 5).toInt := this
      exact ih s' M2 hs' hJ2' hf2 hg2 (by omega)
end CLS
