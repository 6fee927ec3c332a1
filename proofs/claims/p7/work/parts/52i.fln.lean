/-! fallen -/
section FLN
variable {l : Launch} {X : Nat × (Nat → Int32)} {d : Nat} {w : Nat × Nat} {p r : Nat} {I : Nat → Nat → Int32} {L : Nat → Nat → Int64} {kr : KR} {M : Mm} {o : Ost} {A : Ast}
def flS (T : Rw) : Nat → Int32
  | 0 => 0
  | f + 1 => if T f = 0 then flS T f ||| ((1 : Int32) <<< (nI f &&& 31)) else flS T f
theorem flF_it (hR : RA A) (hA : AS6 A p I) (n : Nat) : ∀ f, f ≤ A.1.1 4 → flF I p (A.1.1 5) n f = flS (itR A.1 A.2.1 n) f
  | 0, _ => rfl
  | f + 1, hf => by
    have e : (fw I p f (cOf I (A.1.1 5) (nI f)) n).2.1 = itR A.1 A.2.1 n f := by
      rw [fw_c hR hA (by omega), (it_F (P := A.1) (S := A.2.1) (ra_FC hR).1 (ra_FC hR).2 (show f < A.1.1 4 by omega) n).2.1]
      rfl
    show (if (fw I p f (cOf I (A.1.1 5) (nI f)) n).2.1 = 0 then _ else _) = (if itR A.1 A.2.1 n f = 0 then _ else _)
    rw [e, flF_it hR hA n f (by omega)]
def qFallen (n : Int32) (A : Ast) : Int32 := (an1 (A.1.1 4) 0 60 n (fun N => flS (itR A.1 A.2.1 N) (A.1.1 4))).1
theorem x_fallen {n : Int32} (hp : p = 7 ∨ p = 20) (hR : RA A) (hA : AS6 A p I) (h : ∀ I', kr (some (.int (qFallen n A))) (mk w p r I' L)) : Ev l X uX6_fallen (d + 3) true 0 0 [.ref 1, .int n] (mk w p r I L) kr := by
  refine pX6_fallen (as_vC hp hR hA) (fun I' _ => ?_)
  have e : an1 (A.1.1 4) 0 60 n (fun N => flF I p (A.1.1 5) N (A.1.1 4)) = an1 (A.1.1 4) 0 60 n (fun N => flS (itR A.1 A.2.1 N) (A.1.1 4)) := an1_cg (by decide) (by decide) (fun N _ _ => flF_it hR hA N _ (Nat.le_refl _))
  rw [e]
  exact h I'
theorem x_fallen0 {n : Int32} (hp : p = 7 ∨ p = 20) (hA : NC6 p I) (h : ∀ I', kr (some (.int (-1))) (mk w p r I' L)) : Ev l X uX6_fallen (d + 3) true 0 0 [.ref 1, .int n] (mk w p r I L) kr := by
  refine pX6_fallen (nc_vC hp hA) (fun I' _ => ?_)
  exact h I'
set_option maxRecDepth 20000 in
theorem y_fallenOn {T : Rw} {N : Nat} (hN : I 153 4 = nI N) (hb : N ≤ 6) (hT : ∀ j, j < 25 → I 161 j = T j) (h : kr (some (.int (flS T N))) (mk w p r I L)) : Ev l X uX7_fallenOn (d + 1) true 0 0 [.ref 150, .ref 161] (mk w p r I L) kr := by
  refine Ev.of (by decide) (Nat.le_of_ble_eq_true rfl) ?_
  refine Wf.gc tkX7_fallenOn [4] ?_
  conv => whnf
  refine down (fun i => Wf l X uX7_fallenOn (d + 1) true (mC (mk w p r I L) + 0, mS (mk w p r I L) + 0) 4 [(0, .ref 150), (1, .ref 161), (2, .int (flS T i)), (3, .int (nI i))] [] (mk w p r I L) kr) N ?_ ?_ 0 (Nat.zero_le _)
  · refine Wf.gc tkX7_fallenOn [] ?_
    conv => whnf
    refine ⟨4, ⟨rfl, by decide, show 4 < 202 by decide⟩, ?_⟩
    conv => whnf
    refine b1' (by show I 153 4 ≤ nI N; rw [hN]; exact Int32.le_refl _) ?_
    conv => whnf
    exact h
  · intro i hi ih
    have m28 : ∀ v : Int32, (flS T i ||| v) = flS T (i + 1) → Wf l X uX7_fallenOn (d + 1) true (mC (mk w p r I L) + 0, mS (mk w p r I L) + 0) 28 [(0, .ref 150), (1, .ref 161), (2, .int (flS T i)), (3, .int (nI i))] [.int v, .int (flS T i)] (mk w p r I L) kr := by
      intro v hv
      refine Wf.gc tkX7_fallenOn [4] ?_
      conv => whnf
      show Wf l X uX7_fallenOn (d + 1) true (mC (mk w p r I L) + 0, mS (mk w p r I L) + 0) 4 [(0, .ref 150), (1, .ref 161), (2, .int (flS T i ||| v)), (3, .int (nI i + 1))] [] (mk w p r I L) kr
      rw [nI_s, hv]
      exact ih
    refine Wf.gc tkX7_fallenOn [28] ?_
    conv => whnf
    refine ⟨4, ⟨rfl, by decide, show 4 < 202 by decide⟩, ?_⟩
    conv => whnf
    refine b2' (by show ¬ I 153 4 ≤ nI i; rw [hN, nI_leI (by omega) (by omega)]; omega) ?_
    conv => whnf
    refine ⟨i, ⟨rfl, by omega, show i < 25 by omega⟩, ?_⟩
    conv => whnf
    refine ⟨fun z => ?_, fun z => ?_⟩
    · have z : ¬ I 161 i = 0 := z
      rw [hT i (by omega)] at z
      conv => whnf
      refine m28 0 ?_
      show flS T i ||| 0 = if T i = 0 then _ else flS T i
      rw [if_neg z, Int32.or_zero]
    · have z : I 161 i = 0 := z
      rw [hT i (by omega)] at z
      conv => whnf
      refine m28 _ ?_
      show flS T i ||| ((1 : Int32) <<< (nI i &&& 31)) = if T i = 0 then _ else _
      rw [if_pos z]
set_option maxRecDepth 20000 in
theorem y_fallen {n : Int32} (hR : RA A) (hA0 : AS7 A I) (h : ∀ I', kr (some (.int (qFallen n A))) (mk w p r I' L)) : Ev l X uX7_fallen (d + 3) true 0 0 [.ref 150, .int n] (mk w p r I L) kr := by
  obtain ⟨hF, hC⟩ := ra_FC hR
  have h0 : ¬ A.1.1 4 = 0 := by have := hR.1.2.2; omega
  refine Ev.of (by decide) (Nat.le_of_ble_eq_true rfl) ?_
  refine Wf.gc tkX7_fallen [14] ?_
  conv => whnf
  refine y_good ?_
  have hA := AS7_g hA0
  generalize hH : u2 (u2 I 150 0 0) 150 11 0 = H at hA
  have h14 : H 150 14 = 1 := hA.1
  conv => whnf
  show Ev l X uX7_aheadWhy (d + 2) true 0 0 [.ref 150, .int (H 150 14), .int 0, .int n] (mk w p r H L) _
  rw [h14]
  refine y_aheadWhy (d := d + 1) (a := true) (fun b hb => ?_)
  cases b with
  | true =>
    obtain ⟨z1, z2⟩ := hb.mp rfl
    obtain ⟨N, hN1, hN, en⟩ := ixR_ex (lo := 0) (hi := 60) (by decide) (by decide) z1 z2
    have e0 : qFallen n A = flS (itR A.1 A.2.1 N) (A.1.1 4) := by
      unfold qFallen
      rw [en, an1_1 hR.1.2.2 hN1 hN (by decide)]
    show Wf l X uX7_fallen (d + 3) true (mC (mk w p r I L) + 0, mS (mk w p r I L) + 0) 14 [(0, .ref 150), (1, .int n)] [.int 0] (mk w p r H L) kr
    refine Wf.gc tkX7_fallen [] ?_
    conv => whnf
    refine b1' rfl ?_
    conv => whnf
    rw [en]
    refine y_daysOn (d := d) (by omega) hR hA (fun K k1 k2 k3 => ?_)
    conv => whnf
    refine y_fallenOn (d := d + 1) (N := A.1.1 4) ((k1 153 4 (by decide) (by decide)).trans (hA.2.1.1 4 (by decide) (by decide))) hF k3 ?_
    conv => whnf
    have q := h K
    rw [e0] at q
    exact q
  | false =>
    have e0 : qFallen n A = -1 := by
      unfold qFallen an1
      rw [if_neg h0, ixR_none (fun y => by have := hb.mpr y; cases this)]
    rw [e0] at h
    show Wf l X uX7_fallen (d + 3) true (mC (mk w p r I L) + 0, mS (mk w p r I L) + 0) 14 [(0, .ref 150), (1, .int n)] [.int 2] (mk w p r H L) kr
    refine Wf.gc tkX7_fallen [] ?_
    conv => whnf
    refine b2' (by decide) ?_
    conv => whnf
    refine y_no ?_
    conv => whnf
    exact h _
set_option maxRecDepth 20000 in
theorem y_fallen0 {n : Int32} (hA0 : NC7 I) (h : ∀ I', kr (some (.int (-1))) (mk w p r I' L)) : Ev l X uX7_fallen (d + 3) true 0 0 [.ref 150, .int n] (mk w p r I L) kr := by
  refine Ev.of (by decide) (Nat.le_of_ble_eq_true rfl) ?_
  refine Wf.gc tkX7_fallen [14] ?_
  conv => whnf
  refine y_good ?_
  have hA := NC7_g hA0
  generalize hH : u2 (u2 I 150 0 0) 150 11 0 = H at hA
  have h14 : H 150 14 = 0 := hA.1
  conv => whnf
  show Ev l X uX7_aheadWhy (d + 2) true 0 0 [.ref 150, .int (H 150 14), .int 0, .int n] (mk w p r H L) _
  rw [h14]
  refine y_aheadWhy (d := d + 1) (a := false) (fun b hb => ?_)
  show Wf l X uX7_fallen (d + 3) true (mC (mk w p r I L) + 0, mS (mk w p r I L) + 0) 14 [(0, .ref 150), (1, .int n)] [.int 1] (mk w p r H L) kr
  refine Wf.gc tkX7_fallen [] ?_
  conv => whnf
  refine b2' (by decide) ?_
  conv => whnf
  refine y_no ?_
  conv => whnf
  exact h _
theorem j6_fallen (d : Nat) {n : Int32} (hL : LX M) (hv : SV o M) (h : ∀ M', LX M' → M'.1 = M.1 → SV o M' → kr (some (.int (lfq (qFallen n) (-1) o))) M') : Ev l X uX6_fallen (d + 12) true 0 0 [.ref 1, .int n] M kr := by
  refine jQ hL hv (fun k h => p6_fallen d hL.li h) ?_ (by decide +kernel) h
  have hp := Iv_p hL.iv
  cases o with
  | none => exact x_fallen0 (d := d + 9) hp hv.2.1 (fun I' => rfl)
  | some A => exact x_fallen (d := d + 9) hp hv.1 hv.2.1 (fun I' => rfl)
theorem j7_fallen (d : Nat) {n : Int32} (hL : LX M) (hv : SV o M) (h : ∀ M', LX M' → M'.1 = M.1 → SV o M' → kr (some (.int (lfq (qFallen n) (-1) o))) M') : Ev l X uX7_fallen (d + 12) true 0 0 [.ref 150, .int n] M kr := by
  refine jQ hL hv (fun k h => p7_fallen d hL.li h) ?_ (by decide +kernel) h
  cases o with
  | none => exact y_fallen0 (d := d + 9) hv.2.2 (fun I' => rfl)
  | some A => exact y_fallen (d := d + 9) hv.1 hv.2.2 (fun I' => rfl)
end FLN
