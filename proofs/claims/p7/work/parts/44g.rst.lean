/-! the reference's state behind some lines -/
section RST
variable {l : Launch} {X : Nat × (Nat → Int32)} {d : Nat} {w : Nat × Nat} {p r : Nat} {I : Nat → Nat → Int32} {L : Nat → Nat → Int64} {kr : KR} {b : Nat → Nat} {n e : Nat} {nm : List Nm} {F : Nat → Nat} {W : Int32}
def FR (F : Nat → Nat) (W : Int32) (I : Nat → Nat → Int32) : Prop := (∀ k, k < 67 → k ≠ 10 → I 154 k = nI (F k)) ∧ I 154 10 = W ∧ (∀ c, c < 5 → I 156 (18 + c) = nI (F (300 + c))) ∧ (∀ f, f < 6 → I 156 f = nI (F (12 + 4 * f))) ∧ ∀ i, 6 ≤ i → i < 25 → (i < 18 ∨ 23 ≤ i) → I 156 i = 0
/-- numbers of names are those of lines read -/
def KM (F : Nat → Nat) (nm : List Nm) : Prop := ∀ i, i < nm.length → ((nmD nm i).2.2.1 = 1 → (nmD nm i).2.2.2 < F 4) ∧ ((nmD nm i).2.2.1 = 2 → (nmD nm i).2.2.2 < F 5) ∧ ((nmD nm i).2.2.1 = 3 → (nmD nm i).2.2.2 < F 6)
def SF (b : Nat → Nat) (n : Nat) (P : Ps) (I : Nat → Nat → Int32) : Prop := RX b n I ∧ P.2.2.2 ≤ n ∧ TR b n P.2.2.2 I ∧ I 150 13 = 0 ∧ FR P.1 P.2.1 I ∧ RN b P.2.2.1 I ∧ SI P.2.2.1 ∧ UN b P.2.2.1 ∧ KM P.1 P.2.2.1 ∧ (P.1 9 = 0 ↔ P.1 0 = 0)
/-- what a line may change -/
def sQ (I I' : Nat → Nat → Int32) : Prop := (∀ a i, ¬ (a = 150 ∧ ((4 ≤ i ∧ i ≤ 10) ∨ i = 13)) → a ≠ 152 → a ≠ 154 → a ≠ 156 → I' a i = I a i) ∧ (I' 150 13 = 0 → I 150 13 = 0 ∧ I' 150 9 = I 150 9)
theorem sQ.rf : sQ I I := ⟨fun _ _ _ _ _ _ => rfl, fun h => ⟨h, rfl⟩⟩
theorem sQ.tr {I' I'' : Nat → Nat → Int32} (h : sQ I I') (h2 : sQ I' I'') : sQ I I'' := ⟨fun a i z1 z2 z3 z4 => (h2.1 a i z1 z2 z3 z4).trans (h.1 a i z1 z2 z3 z4), fun q => ⟨(h.2 (h2.2 q).1).1, (h2.2 q).2.trans (h.2 (h2.2 q).1).2⟩⟩
theorem sN.sQ {I' : Nat → Nat → Int32} (h : sN I I') : sQ I I' := ⟨fun a i z1 z2 _ _ => h a i (by omega) z2, fun q => ⟨(h 150 13 (by omega) (by decide)).symm.trans q, h 150 9 (by omega) (by decide)⟩⟩
theorem sM.sQ {I' : Nat → Nat → Int32} (h : sM I I') : sQ I I' := ⟨fun a i z1 z2 z3 _ => h a i (by omega) z2 (by omega), fun q => ⟨(h 150 13 (by omega) (by decide) (by omega)).symm.trans q, h 150 9 (by omega) (by decide) (by omega)⟩⟩
theorem sQ_fl {k s : Nat} : sQ I (flR I k s) := ⟨fun a i z1 _ _ _ => by unfold flR; rw [u2_o (by omega), u2_o (by omega), u2_o (by omega)], fun q => absurd q flR_n⟩
/-- rows' own places -/
def sP (I I' : Nat → Nat → Int32) : Prop := ∀ a i, ¬ (a = 154 ∧ i < 67) → a ≠ 156 → I' a i = I a i
theorem sP.rf : sP I I := fun _ _ _ _ => rfl
theorem sP.tr {I' I'' : Nat → Nat → Int32} (h : sP I I') (h2 : sP I' I'') : sP I I'' := fun a i z1 z2 => (h2 a i z1 z2).trans (h a i z1 z2)
theorem sP.sQ {I' : Nat → Nat → Int32} (h : sP I I') : sQ I I' := ⟨fun a i _ _ z3 z4 => h a i (by omega) z4, fun q => ⟨(h 150 13 (by omega) (by decide)).symm.trans q, h 150 9 (by omega) (by decide)⟩⟩
theorem sP_4 {k : Nat} {v : Int32} (hk : k < 67) : sP I (u2 I 154 k v) := fun a i z1 _ => u2_o (by omega)
theorem sP_6 {k : Nat} {v : Int32} : sP I (u2 I 156 k v) := fun a i _ z2 => u2_o (by omega)
theorem RX_sP {I' : Nat → Nat → Int32} (hr : RX b n I) (hs : sP I I') : RX b n I' := ⟨hr.1, by rw [hs 150 3 (by omega) (by decide)]; exact hr.2.1, fun i hi => ⟨(hr.2.2 i hi).1, by rw [hs 151 i (by omega) (by decide)]; exact (hr.2.2 i hi).2⟩⟩
theorem TR_sP {I' : Nat → Nat → Int32} (hc : TR b n e I) (hs : sP I I') : TR b n e I' := ⟨by rw [hs 150 6 (by omega) (by decide)]; exact hc.1, by rw [hs 150 4 (by omega) (by decide)]; exact hc.2.1, by rw [hs 150 5 (by omega) (by decide)]; exact hc.2.2.1, fun q => by rw [hs 150 7 (by omega) (by decide)]; exact hc.2.2.2.1 q, fun q => ⟨by rw [hs 150 8 (by omega) (by decide)]; exact (hc.2.2.2.2 q).1, fun k hk => by rw [hs 152 k (by omega) (by decide)]; exact (hc.2.2.2.2 q).2 k hk⟩⟩
theorem RN_cg {I' : Nat → Nat → Int32} (hn : RN b nm I) (h : ∀ i, 67 ≤ i → I' 154 i = I 154 i) : RN b nm I' := ⟨fun i hi => by
  obtain ⟨h1, h2, h3⟩ := hn.1 i hi
  exact ⟨by rw [h _ (by omega)]; exact h1, h2, fun j hj => ⟨by rw [h _ (by omega)]; exact (h3 j hj).1, (h3 j hj).2⟩⟩, fun m hm hx => by rw [h _ (by omega)]; exact hn.2 m hm hx⟩
theorem RN_sP {I' : Nat → Nat → Int32} (hn : RN b nm I) (hs : sP I I') : RN b nm I' := RN_cg hn (fun i hi => hs 154 i (by omega) (by decide))
theorem RN_sN {I' : Nat → Nat → Int32} (hn : RN b nm I) (hs : sN I I') : RN b nm I' := RN_cg hn (fun i hi => hs 154 i (by omega) (by decide))
theorem RX_sM {I' : Nat → Nat → Int32} (hr : RX b n I) (hs : sM I I') : RX b n I' := ⟨hr.1, by rw [hs 150 3 (by omega) (by decide) (by omega)]; exact hr.2.1, fun i hi => ⟨(hr.2.2 i hi).1, by rw [hs 151 i (by omega) (by decide) (by omega)]; exact (hr.2.2 i hi).2⟩⟩
theorem FR_cg {I' : Nat → Nat → Int32} (h : FR F W I) (h4 : ∀ k, k < 67 → I' 154 k = I 154 k) (h6 : ∀ k, I' 156 k = I 156 k) : FR F W I' := ⟨fun k z1 z2 => by rw [h4 k z1]; exact h.1 k z1 z2, by rw [h4 10 (by decide)]; exact h.2.1, fun c hc => by rw [h6]; exact h.2.2.1 c hc, fun c hc => by rw [h6]; exact h.2.2.2.1 c hc, fun i z1 z2 z3 => by rw [h6]; exact h.2.2.2.2 i z1 z2 z3⟩
theorem FR_sN {I' : Nat → Nat → Int32} (h : FR F W I) (hs : sN I I') : FR F W I' := FR_cg h (fun k _ => hs 154 k (by omega) (by decide)) (fun k => hs 156 k (by omega) (by decide))
theorem FR_sM {I' : Nat → Nat → Int32} (h : FR F W I) (hs : sM I I') : FR F W I' := FR_cg h (fun k _ => hs 154 k (by omega) (by decide) (by omega)) (fun k => hs 156 k (by omega) (by decide) (by omega))
theorem FR_s {k v : Nat} (h : FR F W I) (hk : k < 67 ∧ k ≠ 10) (hh : k < 12 ∨ 33 ≤ k ∨ k % 4 ≠ 0) : FR (uF F k v) W (u2 I 154 k (nI v)) := by
  refine ⟨fun j z1 z2 => ?_, by rw [u2_o (by omega)]; exact h.2.1, fun c hc => by rw [u2_o (by omega), uF_o (by omega)]; exact h.2.2.1 c hc, fun f hf => by rw [u2_o (by omega), uF_o (by omega)]; exact h.2.2.2.1 f hf, fun i z1 z2 z3 => by rw [u2_o (by omega)]; exact h.2.2.2.2 i z1 z2 z3⟩
  by_cases q : j = k
  · subst q
    rw [u2_s, uF_s]
  · rw [u2_o (by omega), uF_o q]
    exact h.1 j z1 z2
theorem FR_W {V : Int32} (h : FR F W I) : FR F V (u2 I 154 10 V) := ⟨fun j z1 z2 => by rw [u2_o (by omega)]; exact h.1 j z1 z2, u2_s, fun c hc => by rw [u2_o (by omega)]; exact h.2.2.1 c hc, fun f hf => by rw [u2_o (by omega)]; exact h.2.2.2.1 f hf, fun i z1 z2 z3 => by rw [u2_o (by omega)]; exact h.2.2.2.2 i z1 z2 z3⟩
theorem FR_c {c v : Nat} (h : FR F W I) (hc : c < 5) : FR (uF F (300 + c) v) W (u2 I 156 (18 + c) (nI v)) := by
  refine ⟨fun j z1 z2 => by rw [u2_o (by omega), uF_o (by omega)]; exact h.1 j z1 z2, by rw [u2_o (by omega)]; exact h.2.1, fun j hj => ?_, fun f hf => by rw [u2_o (by omega), uF_o (by omega)]; exact h.2.2.2.1 f hf, fun i z1 z2 z3 => by rw [u2_o (by omega)]; exact h.2.2.2.2 i z1 z2 z3⟩
  by_cases q : j = c
  · subst q
    rw [u2_s, uF_s]
  · rw [u2_o (by omega), uF_o (by omega)]
    exact h.2.2.1 j hj
theorem KM_c {F' : Nat → Nat} (h : KM F nm) (h4 : F 4 ≤ F' 4) (h5 : F 5 ≤ F' 5) (h6 : F 6 ≤ F' 6) : KM F' nm := fun i hi => by
  obtain ⟨a1, a2, a3⟩ := h i hi
  exact ⟨fun q => by have := a1 q; omega, fun q => by have := a2 q; omega, fun q => by have := a3 q; omega⟩
theorem KM_a {x : Nm} (h : KM F nm) (hx : (x.2.2.1 = 1 → x.2.2.2 < F 4) ∧ (x.2.2.1 = 2 → x.2.2.2 < F 5) ∧ (x.2.2.1 = 3 → x.2.2.2 < F 6)) : KM F (nm ++ [x]) := by
  intro i hi
  rw [List.length_append] at hi
  have hi : i < nm.length + 1 := hi
  rcases Nat.lt_or_ge i nm.length with z5 | z5
  · rw [nmD_o z5]; exact h i z5
  · rw [show i = nm.length by omega, nmD_a]; exact hx
theorem and01 (x : Int32) : x &&& 1 = 0 ∨ x &&& 1 = 1 := by
  have e : (x &&& 1).toBitVec.toNat = x.toBitVec.toNat % 2 := by
    rw [Int32.toBitVec_and, BitVec.toNat_and]
    exact Nat.and_one_is_mod _
  rcases Nat.mod_two_eq_zero_or_one x.toBitVec.toNat with h | h
  · left
    apply Int32.toBitVec_inj.mp
    apply BitVec.eq_of_toNat_eq
    rw [e, h]
    rfl
  · right
    apply Int32.toBitVec_inj.mp
    apply BitVec.eq_of_toNat_eq
    rw [e, h]
    rfl
theorem y_hasBit {k : Nat} {M : Mm} (h : kr (some (.int (bI (isWl W k)))) M) : Ev l X uX7_hasBit d true 0 0 [.int W, .int (nI k)] M kr := by
  unfold isWl at h
  refine k_bit (fun z => ?_) (fun z => ?_)
  · have z : (W >>> (nI k &&& 31)) &&& 1 = 0 := (and01 _).resolve_right z
    rw [decide_eq_true z] at h
    exact h
  · have z : ¬ (W >>> (nI k &&& 31)) &&& 1 = 0 := fun q => by rw [z] at q; cases q
    rw [decide_eq_false z] at h
    exact h
theorem y_cellHere_f (hf : ¬ I 150 13 = 0) (h : kr (some (.int 0)) (mk w p r I L)) : Ev l X uX7_cellHere (d + 2) true 0 0 [.ref 150] (mk w p r I L) kr := by
  refine Ev.of (by decide) (Nat.le_of_ble_eq_true rfl) ?_
  refine Wf.gc tkX7_cellHere [] ?_
  conv => whnf
  refine ⟨0, ⟨rfl, by decide, show 0 < 202 by decide⟩, ?_⟩
  conv => whnf
  refine ⟨1, ⟨rfl, by decide, show 1 < 202 by decide⟩, ?_⟩
  conv => whnf
  refine y_numberHere_f (d := d) hf ?_
  conv => whnf
  exact h
theorem y_cellHere (hf : FR F W I) (hB : Bd F W nm) (hT : 0 < F 0) (he : e ≤ n) (hc : TR b n e I) (h0 : I 150 13 = 0) (h1 : bnd b n 0 (F 0 * F 1 - 1) e = 0 → kr (some (.int (nI (tvl b n e)))) (mk w p r I L)) (h2 : bnd b n 0 (F 0 * F 1 - 1) e ≠ 0 → kr (some (.int 0)) (mk w p r (flR I (bnd b n 0 (F 0 * F 1 - 1) e) (tst b n e)) L)) : Ev l X uX7_cellHere (d + 2) true 0 0 [.ref 150] (mk w p r I L) kr := by
  have hm : F 0 * F 1 ≤ 5 * 4 := Nat.mul_le_mul hB.1.1 hB.1.2.1
  have hm1 : 2 * 2 ≤ F 0 * F 1 := Nat.mul_le_mul (hB.2.2.2.2.2 hT).1 (hB.2.2.2.2.2 hT).2
  have ev : (I 154 0 * I 154 1 - 1 : Int32) = nI (F 0 * F 1 - 1) := by
    rw [hf.1 0 (by decide) (by decide), hf.1 1 (by decide) (by decide), nI_mul, show (1 : Int32) = nI 1 from rfl, nI_sub (by omega)]
  refine Ev.of (by decide) (Nat.le_of_ble_eq_true rfl) ?_
  refine Wf.gc tkX7_cellHere [] ?_
  conv => whnf
  refine ⟨0, ⟨rfl, by decide, show 0 < 202 by decide⟩, ?_⟩
  conv => whnf
  refine ⟨1, ⟨rfl, by decide, show 1 < 202 by decide⟩, ?_⟩
  conv => whnf
  show Ev l X uX7_numberHere (d + 1) true 0 0 [.ref 150, .int (nI 0), .int (I 154 0 * I 154 1 - 1)] (mk w p r I L) _
  rw [ev]
  refine y_numberHere (d := d) (by decide) (by omega) he hc h0 (fun q => ?_) (fun q => ?_)
  · conv => whnf
    exact h1 q
  · conv => whnf
    exact h2 q
end RST
