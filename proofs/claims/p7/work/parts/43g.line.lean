/-! LINES: what a text says up to a place, as numbers by places (as the reference's row has them, 300 + c: the face of canon c), the walls, the names -/
section PST
def uF (F : Nat → Nat) (k v : Nat) : Nat → Nat := fun j => if j = k then v else F j
theorem uF_s {F : Nat → Nat} {k v : Nat} : uF F k v k = v := if_pos rfl
theorem uF_o {F : Nat → Nat} {k v j : Nat} (h : j ≠ k) : uF F k v j = F j := if_neg h
abbrev Ps : Type := (Nat → Nat) × Int32 × List Nm × Nat
abbrev Rs : Type := (Nat × Nat) ⊕ Ps
/-- k tokens further -/
def tn (b : Nat → Nat) (n : Nat) : Nat → Nat → Nat
  | 0, e => e
  | k + 1, e => tsp b n (tn b n k e)
theorem tn_b {b : Nat → Nat} {n e : Nat} (h : e ≤ n) : ∀ k, tn b n k e ≤ n
  | 0 => h
  | k + 1 => (tsp_b (tn_b h k)).2
def isWl (W : Int32) (k : Nat) : Bool := !(decide ((W >>> (nI k &&& 31)) &&& 1 = 0))
def fov (F : Nat → Nat) (v : Nat) : Option Nat := ff (fun g => Nat.beq (F (14 + 4 * g)) v) (F 4) 0
def toc (F : Nat → Nat) (f : Nat) : Option Nat := ff (fun c => Nat.beq (F (300 + c)) f) (F 5) 0
def usd (F : Nat → Nat) (c : Nat) : Option Nat := ff (fun u => Nat.beq (F (53 + 2 * u)) c) (F 7) 0
variable (b : Nat → Nat) (n : Nat)
def nw (e so k : Nat) : Nm := (tst b n e, tsp b n e - tst b n e, so, k)
def lnClose (F : Nat → Nat) (W : Int32) (nm : List Nm) (e : Nat) : Rs :=
  if (lab b n 7 2 5 (tn b n 1 e)).1 ≠ 0 then .inl (lab b n 7 2 5 (tn b n 1 e))
  else if (lab b n 8 2 4 (tn b n 3 e)).1 ≠ 0 then .inl (lab b n 8 2 4 (tn b n 3 e))
  else if (lab b n 9 0 100 (tn b n 5 e)).1 ≠ 0 then .inl (lab b n 9 0 100 (tn b n 5 e))
  else .inr (uF (uF (uF (uF F 0 (tvl b n (tn b n 2 e))) 1 (tvl b n (tn b n 4 e))) 2 (tvl b n (tn b n 6 e))) 9 1, W, nm, tn b n 7 e)
def lnWall (F : Nat → Nat) (W : Int32) (nm : List Nm) (e : Nat) : Rs :=
  if 5 ≤ F 3 then .inl (5, tst b n e)
  else if 0 < F 6 then .inl (7, tst b n e)
  else if bnd b n 0 (F 0 * F 1 - 1) (tn b n 1 e) ≠ 0 then .inl (bnd b n 0 (F 0 * F 1 - 1) (tn b n 1 e), tst b n (tn b n 1 e))
  else if isWl W (tvl b n (tn b n 1 e)) = true then .inl (3, tst b n (tn b n 1 e))
  else .inr (uF F 3 (F 3 + 1), W ||| ((1 : Int32) <<< (nI (tvl b n (tn b n 1 e)) &&& 31)), nm, tn b n 2 e)
def lnFace (F : Nat → Nat) (W : Int32) (nm : List Nm) (e : Nat) : Rs :=
  if 6 ≤ F 4 then .inl (5, tst b n e)
  else if tel b n nm (tn b n 1 e) ≠ 0 then .inl (tel b n nm (tn b n 1 e), tst b n (tn b n 1 e))
  else match kin b n (tn b n 2 e) with
    | none => .inl (1, tst b n (tn b n 2 e))
    | some kd =>
      if (lab b n 10 1 99 (tn b n 3 e)).1 ≠ 0 then .inl (lab b n 10 1 99 (tn b n 3 e))
      else if (lab b n 11 0 9 (tn b n 5 e)).1 ≠ 0 then .inl (lab b n 11 0 9 (tn b n 5 e))
      else if (lab b n 12 0 (F 0 * F 1 - 1) (tn b n 7 e)).1 ≠ 0 then .inl (lab b n 12 0 (F 0 * F 1 - 1) (tn b n 7 e))
      else if (fov F (tvl b n (tn b n 8 e))).isSome = true then .inl (3, tst b n (tn b n 8 e))
      else .inr (uF (uF (uF (uF (uF F (11 + 4 * F 4) kd) (12 + 4 * F 4) (tvl b n (tn b n 4 e))) (13 + 4 * F 4) (tvl b n (tn b n 6 e))) (14 + 4 * F 4) (tvl b n (tn b n 8 e))) 4 (F 4 + 1), W, nm ++ [nw b n (tn b n 1 e) 1 (F 4)], tn b n 9 e)
def lnCanon (F : Nat → Nat) (W : Int32) (nm : List Nm) (e : Nat) : Rs :=
  if 5 ≤ F 5 then .inl (5, tst b n e)
  else if tel b n nm (tn b n 1 e) ≠ 0 then .inl (tel b n nm (tn b n 1 e), tst b n (tn b n 1 e))
  else if (nam b n (nm ++ [nw b n (tn b n 1 e) 2 (F 5)]) 1 (tn b n 2 e)).1 ≠ 0 then .inl ((nam b n (nm ++ [nw b n (tn b n 1 e) 2 (F 5)]) 1 (tn b n 2 e)).1, tst b n (tn b n 2 e))
  else if (toc F (nam b n (nm ++ [nw b n (tn b n 1 e) 2 (F 5)]) 1 (tn b n 2 e)).2).isSome = true then .inl (3, tst b n (tn b n 2 e))
  else if (lab b n 16 1 30 (tn b n 3 e)).1 ≠ 0 then .inl (lab b n 16 1 30 (tn b n 3 e))
  else if (lab b n 17 1 9 (tn b n 5 e)).1 ≠ 0 then .inl (lab b n 17 1 9 (tn b n 5 e))
  else .inr (uF (uF (uF (uF F (300 + F 5) (nam b n (nm ++ [nw b n (tn b n 1 e) 2 (F 5)]) 1 (tn b n 2 e)).2) (35 + 2 * F 5) (tvl b n (tn b n 4 e))) (36 + 2 * F 5) (tvl b n (tn b n 6 e))) 5 (F 5 + 1), W, nm ++ [nw b n (tn b n 1 e) 2 (F 5)], tn b n 7 e)
def lnWalker (F : Nat → Nat) (W : Int32) (nm : List Nm) (e : Nat) : Rs :=
  if 4 ≤ F 6 then .inl (5, tst b n e)
  else if tel b n nm (tn b n 1 e) ≠ 0 then .inl (tel b n nm (tn b n 1 e), tst b n (tn b n 1 e))
  else if (lab b n 18 0 (F 0 * F 1 - 1) (tn b n 2 e)).1 ≠ 0 then .inl (lab b n 18 0 (F 0 * F 1 - 1) (tn b n 2 e))
  else if isWl W (tvl b n (tn b n 3 e)) = true then .inl (7, tst b n (tn b n 3 e))
  else if (lab b n 19 0 (F 0 * F 1 - 1) (tn b n 4 e)).1 ≠ 0 then .inl (lab b n 19 0 (F 0 * F 1 - 1) (tn b n 4 e))
  else if isWl W (tvl b n (tn b n 5 e)) = true then .inl (7, tst b n (tn b n 5 e))
  else .inr (uF (uF (uF F (45 + 2 * F 6) (tvl b n (tn b n 3 e))) (46 + 2 * F 6) (tvl b n (tn b n 5 e))) 6 (F 6 + 1), W, nm ++ [nw b n (tn b n 1 e) 3 (F 6)], tn b n 6 e)
def lnUnsure (F : Nat → Nat) (W : Int32) (nm : List Nm) (e : Nat) : Rs :=
  if 4 ≤ F 7 then .inl (5, tst b n e)
  else if (nam b n nm 2 (tn b n 1 e)).1 ≠ 0 then .inl ((nam b n nm 2 (tn b n 1 e)).1, tst b n (tn b n 1 e))
  else if (usd F (nam b n nm 2 (tn b n 1 e)).2).isSome = true then .inl (3, tst b n (tn b n 1 e))
  else if bnd b n 1 30 (tn b n 2 e) ≠ 0 then .inl (bnd b n 1 30 (tn b n 2 e), tst b n (tn b n 2 e))
  else .inr (uF (uF (uF F (53 + 2 * F 7) (nam b n nm 2 (tn b n 1 e)).2) (54 + 2 * F 7) (tvl b n (tn b n 2 e))) 7 (F 7 + 1), W, nm, tn b n 3 e)
def lnDropped (F : Nat → Nat) (W : Int32) (nm : List Nm) (e : Nat) : Rs :=
  if (nam b n nm 1 (tn b n 1 e)).1 ≠ 0 then .inl ((nam b n nm 1 (tn b n 1 e)).1, tst b n (tn b n 1 e))
  else if F (61 + (nam b n nm 1 (tn b n 1 e)).2) ≠ 0 then .inl (3, tst b n (tn b n 1 e))
  else if (lab b n 20 1 40 (tn b n 2 e)).1 ≠ 0 then .inl (lab b n 20 1 40 (tn b n 2 e))
  else .inr (uF (uF F (61 + (nam b n nm 1 (tn b n 1 e)).2) (tvl b n (tn b n 3 e))) 8 (F 8 + 1), W, nm, tn b n 4 e)
def ln (F : Nat → Nat) (W : Int32) (nm : List Nm) (e : Nat) : Rs :=
  if bgl b n e = false then .inl (1, tst b n e)
  else if isW b n 0 e = true then (if 0 < F 0 then .inl (3, tst b n e) else lnClose b n F W nm e)
  else if F 0 = 0 then .inl (6, tst b n e)
  else if isW b n 1 e = true then lnWall b n F W nm e
  else if isW b n 2 e = true then lnFace b n F W nm e
  else if isW b n 3 e = true then lnCanon b n F W nm e
  else if isW b n 4 e = true then lnWalker b n F W nm e
  else if isW b n 5 e = true then lnUnsure b n F W nm e
  else lnDropped b n F W nm e
/-- all lines -/
def rdT : Nat → Ps → Rs
  | 0, P => .inl (1, tst b n P.2.2.2)
  | f + 1, P => match ln b n P.1 P.2.1 P.2.2.1 P.2.2.2 with
    | .inl er => .inl er
    | .inr P' => if tso b n P'.2.2.2 = 0 then (if 0 < P'.1 4 then .inr P' else .inl (6, tst b n P'.2.2.2)) else if tso b n P'.2.2.2 = 3 then rdT f (P'.1, P'.2.1, P'.2.2.1, tsp b n P'.2.2.2) else .inl (1, tst b n P'.2.2.2)
end PST
section PLC
variable {l : Launch} {X : Nat × (Nat → Int32)} {d : Nat} {w : Nat × Nat} {p r : Nat} {I : Nat → Nat → Int32} {L : Nat → Nat → Int64} {kr : KR} {b : Nat → Nat} {n e : Nat} {nm : List Nm} {F : Nat → Nat} {W : Int32}
/-- the class's plan q -/
def PC (q : Nat) (F : Nat → Nat) (W : Int32) (I : Nat → Nat → Int32) : Prop := (I q 0 = nI (F 0) ∧ I q 1 = nI (F 1) ∧ I q 2 = nI (F 2) ∧ I q 3 = W ∧ I q 4 = nI (F 4) ∧ I q 10 = nI (F 5) ∧ I q 14 = nI (F 6) ∧ I q 17 = nI (F 7)) ∧ (∀ f, f < F 4 → I (q + 1) f = nI (F (11 + 4 * f)) ∧ I (q + 2) f = nI (F (12 + 4 * f)) ∧ I (q + 3) f = nI (F (13 + 4 * f)) ∧ I (q + 4) f = nI (F (14 + 4 * f))) ∧ (∀ f, f < 6 → I (q + 5) f = nI (F (61 + f))) ∧ (∀ c, c < F 5 → I (q + 6) c = nI (F (300 + c)) ∧ I (q + 7) c = nI (F (35 + 2 * c)) ∧ I (q + 8) c = nI (F (36 + 2 * c))) ∧ (∀ k, k < F 6 → I (q + 9) k = nI (F (45 + 2 * k)) ∧ I (q + 10) k = nI (F (46 + 2 * k))) ∧ (∀ u, u < F 7 → I (q + 11) u = nI (F (53 + 2 * u)) ∧ I (q + 12) u = nI (F (54 + 2 * u)))
theorem PC_cg {q : Nat} {I' : Nat → Nat → Int32} (h : PC q F W I) (h0 : ∀ i, i < 20 → I' q i = I q i) (h1 : ∀ f, f < F 4 → I' (q + 1) f = I (q + 1) f ∧ I' (q + 2) f = I (q + 2) f ∧ I' (q + 3) f = I (q + 3) f ∧ I' (q + 4) f = I (q + 4) f) (h2 : ∀ f, f < 6 → I' (q + 5) f = I (q + 5) f) (h3 : ∀ c, c < F 5 → I' (q + 6) c = I (q + 6) c ∧ I' (q + 7) c = I (q + 7) c ∧ I' (q + 8) c = I (q + 8) c) (h4 : ∀ k, k < F 6 → I' (q + 9) k = I (q + 9) k ∧ I' (q + 10) k = I (q + 10) k) (h5 : ∀ u, u < F 7 → I' (q + 11) u = I (q + 11) u ∧ I' (q + 12) u = I (q + 12) u) : PC q F W I' := by
  obtain ⟨⟨a0, a1, a2, a3, a4, a5, a6, a7⟩, b1, b2, b3, b4, b5⟩ := h
  refine ⟨⟨by rw [h0 0 (by decide)]; exact a0, by rw [h0 1 (by decide)]; exact a1, by rw [h0 2 (by decide)]; exact a2, by rw [h0 3 (by decide)]; exact a3, by rw [h0 4 (by decide)]; exact a4, by rw [h0 10 (by decide)]; exact a5, by rw [h0 14 (by decide)]; exact a6, by rw [h0 17 (by decide)]; exact a7⟩, fun f hf => ?_, fun f hf => by rw [h2 f hf]; exact b2 f hf, fun c hc => ?_, fun k hk => ?_, fun u hu => ?_⟩
  · obtain ⟨z1, z2, z3, z4⟩ := h1 f hf
    rw [z1, z2, z3, z4]
    exact b1 f hf
  · obtain ⟨z1, z2, z3⟩ := h3 c hc
    rw [z1, z2, z3]
    exact b3 c hc
  · obtain ⟨z1, z2⟩ := h4 k hk
    rw [z1, z2]
    exact b4 k hk
  · obtain ⟨z1, z2⟩ := h5 u hu
    rw [z1, z2]
    exact b5 u hu
theorem PC_eq {q : Nat} {I' : Nat → Nat → Int32} (h : PC q F W I) (he : ∀ a i, q ≤ a → a ≤ q + 12 → I' a i = I a i) : PC q F W I' :=
  PC_cg h (fun i _ => he _ i (by omega) (by omega)) (fun f _ => ⟨he _ f (by omega) (by omega), he _ f (by omega) (by omega), he _ f (by omega) (by omega), he _ f (by omega) (by omega)⟩) (fun f _ => he _ f (by omega) (by omega)) (fun c _ => ⟨he _ c (by omega) (by omega), he _ c (by omega) (by omega), he _ c (by omega) (by omega)⟩) (fun k _ => ⟨he _ k (by omega) (by omega), he _ k (by omega) (by omega)⟩) (fun u _ => ⟨he _ u (by omega) (by omega), he _ u (by omega) (by omega)⟩)
theorem PC_sT {q : Nat} {I' : Nat → Nat → Int32} {L' : Nat → Nat → Int64} (hq : 7 ≤ q) (h : PC q F W I) (hs : sT I I' L L') : PC q F W I' := PC_eq h (fun a i z1 z2 => hs.1 a i (by omega))
/-- a new entry of an array behind those that count -/
theorem PC_new {q : Nat} {j i : Nat} {v : Int32} (h : PC q F W I) (hj : (j = 1 ∨ j = 2 ∨ j = 3 ∨ j = 4) ∧ F 4 ≤ i ∨ (j = 6 ∨ j = 7 ∨ j = 8) ∧ F 5 ≤ i ∨ (j = 9 ∨ j = 10) ∧ F 6 ≤ i ∨ (j = 11 ∨ j = 12) ∧ F 7 ≤ i) : PC q F W (u2 I (q + j) i v) :=
  PC_cg h (fun k _ => u2_o (by omega)) (fun f hf => ⟨u2_o (by omega), u2_o (by omega), u2_o (by omega), u2_o (by omega)⟩) (fun f hf => u2_o (by omega)) (fun c hc => ⟨u2_o (by omega), u2_o (by omega), u2_o (by omega)⟩) (fun k hk => ⟨u2_o (by omega), u2_o (by omega)⟩) (fun u hu => ⟨u2_o (by omega), u2_o (by omega)⟩)
/-- the class's state behind some lines -/
def SC (b : Nat → Nat) (n q : Nat) (P : Ps) (I : Nat → Nat → Int32) (L : Nat → Nat → Int64) : Prop := TX b n I ∧ P.2.2.2 ≤ n ∧ TC b n P.2.2.2 I L ∧ NC b P.2.2.1 I L ∧ PC q P.1 P.2.1 I
theorem fl_13 {k s : Nat} : fl I k s 2 13 = nI k := by unfold fl; rw [u2_o (by decide), u2_s]
theorem fl_14 {k s : Nat} : fl I k s 2 14 = nI s := by unfold fl; rw [u2_s]
end PLC
