/-! codes of operations, what they do to a state, and that it is so -/
abbrev Cd : Type := Nat × Nat × Nat × Nat × Int × List Nat
def vok (v : Int) : Bool := decide (iLo ≤ v) && decide (v ≤ iHi)
theorem vok_ok {v : Int} (h : vok v = true) : (Int32.ofInt v).toInt = v := by
  obtain ⟨h1, h2⟩ := andT h
  rw [Int32.toInt_ofInt]
  exact bm (of_decide_eq_true h1) (of_decide_eq_true h2)
def vokL (v : Int) : Bool := decide (lLo ≤ v) && decide (v ≤ lHi)
theorem vokL_ok {v : Int} (h : vokL v = true) : (Int64.ofInt v).toInt = v := by
  obtain ⟨h1, h2⟩ := andT h
  have h1 := of_decide_eq_true h1
  have h2 := of_decide_eq_true h2
  unfold lLo at h1
  unfold lHi at h2
  rw [Int64.toInt_ofInt]
  exact Int.bmod_eq_of_le (by show -9223372036854775808 ≤ v; omega) (by show v < 9223372036854775808; omega)
def cop (l : Launch) (X : Nat × (Nat → Int32)) (d : Nat) (U : Nat → Md) (pc : Nat) (c : Cd) : OP := match c.1 with
  | 0 => oIc pc c.2.1 (Int32.ofInt c.2.2.2.2.1)
  | 1 => oIl pc c.2.1 c.2.2.1
  | 2 => oIs pc c.2.1 c.2.2.1
  | 3 => oInc pc c.2.1 (Int32.ofInt c.2.2.2.2.1)
  | 4 => o2 pc (fun x y => x + y)
  | 5 => o2 pc (fun x y => x - y)
  | 6 => o2 pc (fun x y => x * y)
  | 7 => o2 pc (fun x y => x &&& y)
  | 8 => o2 pc (fun x y => x ||| y)
  | 9 => o2 pc (fun x y => x ^^^ y)
  | 10 => o2 pc (fun x y => x <<< (y &&& 31))
  | 11 => o2 pc (fun x y => x >>> (y &&& 31))
  | 12 => o2 pc (fun x y => (x.toUInt32 >>> (y.toUInt32 &&& Int32.toUInt32 31)).toInt32)
  | 13 => oGo c.2.1
  | 14 => oIf pc c.2.1 (fun x => cpP c.2.2.1 x 0) (fun x => cpN c.2.2.1 x 0)
  | 15 => oCm pc c.2.1 (cpP c.2.2.1) (cpN c.2.2.1)
  | 16 => oTs c.2.2.2.2.1 c.2.2.2.2.2 c.2.1
  | 17 => oLl pc c.2.1 c.2.2.1
  | 18 => oAl pc c.2.1 c.2.2.1
  | 19 => oLs pc c.2.1 c.2.2.1
  | 20 => oAs pc c.2.1 c.2.2.1
  | 21 => o2d pc (fun x y => x / y)
  | 22 => o2d pc (fun x y => x - x / y * y)
  | 23 => o1 pc (fun x => -x)
  | 24 => o1 pc (fun x => x.toInt8.toInt32)
  | 25 => o1 pc (fun x => (x.toUInt32 % 65536).toInt32)
  | 26 => oL2 pc (fun x y => x + y)
  | 27 => oL2 pc (fun x y => x - y)
  | 28 => oL2 pc (fun x y => x * y)
  | 29 => oL2d pc (fun x y => x / y)
  | 30 => oL2d pc (fun x y => x - x / y * y)
  | 31 => oi2l pc
  | 32 => olcmp pc
  | 33 => oLc pc c.2.1 (Int64.ofInt c.2.2.2.2.1)
  | 34 => oDup pc
  | 35 => oDup2 pc
  | 36 => oPop pc
  | 37 => oG pc c.2.1 c.2.2.1 c.2.2.2.1
  | 38 => oPI pc c.2.1 c.2.2.1
  | 39 => oPZ pc c.2.1 c.2.2.1
  | 40 => oPL pc c.2.1 c.2.2.1
  | 41 => oPR pc c.2.1 c.2.2.1
  | 42 => oIal pc
  | 43 => oBal pc
  | 44 => oLal pc
  | 45 => oAal pc c.2.1
  | 46 => oIas pc
  | 47 => oBas pc
  | 48 => oLas pc
  | 49 => oSc pc c.2.1 c.2.2.1
  | 50 => oAc pc
  | 51 => oCv l X d pc (U c.2.1) c.2.2.1 c.2.2.2.1
  | 52 => oCs l X d pc (U c.2.1) c.2.2.2.1
  | 53 => oCq l X d pc (U c.2.1) c.2.2.2.1
  | 54 => oIr
  | 55 => oZr
  | 56 => oLr
  | 57 => oVr
  | 58 => oCs l X d pc (U c.2.1) 5
  | _ => fun _ _ _ _ _ => False
def astep (P : Pk) (ms : Md3) (ps : List Po) (Ks : List Con) (cy : Nat) (pc : Nat) (c : Cd) (A : ASt) : Option (List (Nat × ASt)) := match c.1 with
  | 0 => cond (vok c.2.2.2.2.1) (aIc pc c.2.1 c.2.2.2.2.1 A) none
  | 1 => aLd 0 pc c.2.1 c.2.2.1 A
  | 2 => aSt 0 pc c.2.1 c.2.2.1 A
  | 3 => cond (vok c.2.2.2.2.1) (aInc pc c.2.1 c.2.2.2.2.1 A) none
  | 4 => aAd pc A
  | 5 => aSb pc A
  | 6 => a2 bMul pc A
  | 7 => a2 bAnd pc A
  | 8 => a2 bAny pc A
  | 9 => a2 bAny pc A
  | 10 => a2 bShl pc A
  | 11 => a2 bAny pc A
  | 12 => a2 bAny pc A
  | 13 => aGo c.2.1 A
  | 14 => aIf pc c.2.1 c.2.2.1 A
  | 15 => aCm pc c.2.1 c.2.2.1 A
  | 16 => aTs c.2.2.2.2.1 c.2.2.2.2.2 c.2.1 A
  | 17 => aLd 1 pc c.2.1 c.2.2.1 A
  | 18 => aAl pc c.2.1 c.2.2.1 A
  | 19 => aSt 1 pc c.2.1 c.2.2.1 A
  | 20 => aSt 2 pc c.2.1 c.2.2.1 A
  | 21 => a2d bDiv pc A
  | 22 => a2d bRem pc A
  | 23 => a1 pc A
  | 24 => a1 pc A
  | 25 => a1 pc A
  | 26 => aL2 pc A
  | 27 => aL2 pc A
  | 28 => aL2 pc A
  | 29 => aL2d pc A
  | 30 => aL2d pc A
  | 31 => ai2l pc A
  | 32 => alcmp pc A
  | 33 => cond (vokL c.2.2.2.2.1) (aLc pc c.2.1 c.2.2.2.2.1 A) none
  | 34 => aDup pc A
  | 35 => aDup2 pc A
  | 36 => aPop pc A
  | 37 => aG P pc c.2.1 c.2.2.1 c.2.2.2.1 A
  | 38 => aPI P ms false pc c.2.1 c.2.2.1 A
  | 39 => aPI P ms true pc c.2.1 c.2.2.1 A
  | 40 => aPL P ms pc c.2.1 c.2.2.1 A
  | 41 => aPR P ms pc c.2.1 c.2.2.1 A
  | 42 => aIal P pc 9 A
  | 43 => aIal P pc 8 A
  | 44 => aLal P pc A
  | 45 => aAal P pc c.2.1 A
  | 46 => aIas P ms pc A
  | 47 => aBas P ms pc A
  | 48 => aLas P ms pc A
  | 49 => aSc pc c.2.1 c.2.2.1 A
  | 50 => aCp P ms pc A
  | 51 => aCv P ms Ks pc c.2.1 c.2.2.1 c.2.2.2.1 A
  | 52 => aCl P ms Ks pc c.2.1 c.2.2.2.1 A
  | 53 => aCq P ms Ks pc c.2.1 c.2.2.2.1 A
  | 54 => aRt ps 0 A
  | 55 => aRt ps 1 A
  | 56 => aRt ps 2 A
  | 57 => aRt ps 3 A
  | 58 => cond (Nat.beq c.2.1 cy) (aCp P ms pc A) none
  | _ => none
section STEP9
variable {l : Launch} {X : Nat × (Nat → Int32)} {U : Nat → Md} {P : Pk} {ms : Md3} {M0 : Mm × Int} {av : List Value} {r0 : List Int} {kr : KR} {A : ASt} {L : List (Nat × ASt)} {pc d cy : Nat} {ps : List Po} {Ks : List Con}
theorem astep_ok {c : Cd} (hK : ∀ K ∈ Ks, Vc l X U P M0.2 d K) (hC : Cpy l X d (U cy)) (hr : ∀ r M', Jv P ms M0 M' → gps av r M' ps → kr r M') (he : astep P ms ps Ks cy pc c A = some L) : Sd (Jv P ms M0) av r0 kr (cop l X d U pc c) A L := by
  obtain ⟨ck, c1, c2, c3, cv, ct⟩ := c
  match ck with
  | 0 =>
    obtain ⟨h0, he⟩ := condN (show cond (vok cv) (aIc pc c1 cv A) none = some L from he)
    exact aIc_ok (v := Int32.ofInt cv) (by rw [vok_ok h0]; exact he)
  | 1 => exact aIl_ok he
  | 2 => exact aIs_ok he
  | 3 =>
    obtain ⟨h0, he⟩ := condN (show cond (vok cv) (aInc pc c1 cv A) none = some L from he)
    exact aInc_ok (v := Int32.ofInt cv) (by rw [vok_ok h0]; exact he)
  | 4 => exact aAd_ok he
  | 5 => exact aSb_ok he
  | 6 => exact a2_ok bMul_ok he
  | 7 => exact a2_ok bAnd_ok he
  | 8 => exact a2_ok bAny_ok he
  | 9 => exact a2_ok bAny_ok he
  | 10 => exact a2_ok bShl_ok he
  | 11 => exact a2_ok bAny_ok he
  | 12 => exact a2_ok bAny_ok he
  | 13 => exact aGo_ok he
  | 14 => exact aIf_ok he
  | 15 => exact aCm_ok he
  | 16 => exact aTs_ok he
  | 17 => exact aLl_ok he
  | 18 => exact aAl_ok he
  | 19 => exact aLs_ok he
  | 20 => exact aAs_ok he
  | 21 => exact a2d_ok bDiv_ok he
  | 22 => exact a2d_ok bRem_ok he
  | 23 => exact a1_ok he
  | 24 => exact a1_ok he
  | 25 => exact a1_ok he
  | 26 => exact aL2_ok he
  | 27 => exact aL2_ok he
  | 28 => exact aL2_ok he
  | 29 => exact aL2d_ok he
  | 30 => exact aL2d_ok he
  | 31 => exact ai2l_ok he
  | 32 => exact alcmp_ok he
  | 33 =>
    obtain ⟨h0, he⟩ := condN (show cond (vokL cv) (aLc pc c1 cv A) none = some L from he)
    exact aLc_ok (v := Int64.ofInt cv) (by rw [vokL_ok h0]; exact he)
  | 34 => exact aDup_ok he
  | 35 => exact aDup2_ok he
  | 36 => exact aPop_ok he
  | 37 => exact aG_ok he
  | 38 => exact aPI_ok he
  | 39 => exact aPZ_ok he
  | 40 => exact aPL_ok he
  | 41 => exact aPR_ok he
  | 42 => exact aIal_ok he
  | 43 => exact aBal_ok he
  | 44 => exact aLal_ok he
  | 45 => exact aAal_ok he
  | 46 => exact aIas_ok he
  | 47 => exact aBas_ok he
  | 48 => exact aLas_ok he
  | 49 => exact aSc_ok he
  | 50 => exact aAc_ok he
  | 51 => exact aCv_ok hK he
  | 52 => exact aCs_ok hK he
  | 53 => exact aCq_ok hK he
  | 54 => exact aIr_ok hr he
  | 55 => exact aZr_ok hr he
  | 56 => exact aLr_ok hr he
  | 57 => exact aVr_ok hr he
  | 58 =>
    obtain ⟨h0, he2⟩ := condN (show cond (Nat.beq c1 cy) (aCp P ms pc A) none = some L from he)
    have e := Nat.eq_of_beq_eq_true h0
    subst e
    exact aCy_ok hC he2
  | k + 59 => cases he
end STEP9
