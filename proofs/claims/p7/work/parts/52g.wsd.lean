/-! wet, sunny, dropsIn, fallsIn -/
section WSD
variable {l : Launch} {X : Nat × (Nat → Int32)} {d : Nat} {w : Nat × Nat} {p r : Nat} {I : Nat → Nat → Int32} {L : Nat → Nat → Int64} {kr : KR} {M : Mm} {o : Ost} {A : Ast}
theorem lets_it (hR : RA A) (hA : AS6 A p I) {j : Nat} (hj : j < A.1.1 4) (n : Nat) : lets I p (A.1.1 5) j n = ltF A.1 (itR A.1 A.2.1 n) j := by
  obtain ⟨c1, c2, c3, c4⟩ := hA.1.2.1 j hj
  have ho : ∀ c, cnS (A.1.1 5) A.2.1 (nI j) = some c → c < A.1.1 5 := fun c hc => by have := (ff_lt hc).2.1; omega
  have ev : vxO I p (cnS (A.1.1 5) A.2.1 (nI j)) = vxP A.1 (cnS (A.1.1 5) A.2.1 (nI j)) := by
    cases hq : cnS (A.1.1 5) A.2.1 (nI j) with
    | none => rfl
    | some c => exact (hA.1.2.2.2.1 c (ho c hq)).2.1
  have ee : evO I p (cnS (A.1.1 5) A.2.1 (nI j)) = evP A.1 (cnS (A.1.1 5) A.2.1 (nI j)) := by
    cases hq : cnS (A.1.1 5) A.2.1 (nI j) with
    | none => rfl
    | some c => exact (hA.1.2.2.2.1 c (ho c hq)).2.2
  obtain ⟨a1, a2, a3, a4, a5⟩ := it_F (P := A.1) (S := A.2.1) (ra_FC hR).1 (ra_FC hR).2 hj n
  have ec : cnS (A.1.1 5) (itR A.1 A.2.1 n) (nI j) = cnS (A.1.1 5) A.2.1 (nI j) := by
    unfold cnS
    refine ff_cong (fun i _ hi => ?_)
    rw [a5 i (by omega)]
  unfold lets ltF
  rw [fw_c hR hA hj, cOf_cn hA.2.1, c1, ev, ee, ec, a1, a2, a3]
  rfl
theorem wtF_it (hR : RA A) (hA : AS6 A p I) (n : Nat) : ∀ f, f ≤ A.1.1 4 → wtF I p (A.1.1 5) n f = wtS A.1 (itR A.1 A.2.1 n) f
  | 0, _ => rfl
  | f + 1, hf => by
    show (if lets I p (A.1.1 5) f n = true then _ else _) = (if ltF A.1 (itR A.1 A.2.1 n) f = true then _ else _)
    rw [lets_it hR hA (by omega), wtF_it hR hA n f (by omega), (hA.1.2.1 f (by omega)).2.2.2]
theorem it_24 (hF : A.1.1 4 ≤ 6) (n : Nat) : itR A.1 A.2.1 (n + 1) 24 = wtS A.1 (itR A.1 A.2.1 n) (A.1.1 4) := by
  show nR A.1 (itR A.1 A.2.1 n) 24 = _
  unfold nR
  rw [if_neg (by omega), if_neg (by omega), if_neg (by omega), if_neg (by decide), if_pos rfl]
theorem an1_cg {F lo hi : Nat} {n : Int32} {g1 g2 : Nat → Int32} (hl : lo ≤ hi) (hh : hi < 1000) (h : ∀ N, lo ≤ N → N ≤ hi → g1 N = g2 N) : an1 F lo hi n g1 = an1 F lo hi n g2 := by
  unfold an1
  split
  · rfl
  · by_cases c : nI lo ≤ n ∧ n ≤ nI hi
    · obtain ⟨N, h1, h2, e⟩ := ixR_ex (by omega) hl c.1 c.2
      rw [e, ixR_some h1 h2 (by omega)]
      exact congrArg (fun z => (z, (0 : Int32))) (h N h1 h2)
    · rw [ixR_none c]
def qWet (n : Int32) (A : Ast) : Int32 := (an1 (A.1.1 4) 1 60 n (fun N => itR A.1 A.2.1 N 24)).1
theorem x_wet {n : Int32} (hp : p = 7 ∨ p = 20) (hR : RA A) (hA : AS6 A p I) (h : ∀ I', kr (some (.int (qWet n A))) (mk w p r I' L)) : Ev l X uX6_wet (d + 3) true 0 0 [.ref 1, .int n] (mk w p r I L) kr := by
  refine pX6_wet (as_vC hp hR hA) (fun I' _ => ?_)
  have e : an1 (A.1.1 4) 1 60 n (fun N => wtF I p (A.1.1 5) (N - 1) (A.1.1 4)) = an1 (A.1.1 4) 1 60 n (fun N => itR A.1 A.2.1 N 24) := an1_cg (by decide) (by decide) (fun N h1 _ => by
    rw [wtF_it hR hA (N - 1) _ (Nat.le_refl _), ← it_24 (ra_FC hR).1, Nat.sub_add_cancel h1])
  rw [e]
  exact h I'
theorem x_wet0 {n : Int32} (hp : p = 7 ∨ p = 20) (hA : NC6 p I) (h : ∀ I', kr (some (.int (-1))) (mk w p r I' L)) : Ev l X uX6_wet (d + 3) true 0 0 [.ref 1, .int n] (mk w p r I L) kr := by
  refine pX6_wet (nc_vC hp hA) (fun I' _ => ?_)
  exact h I'
set_option maxRecDepth 20000 in
theorem y_wet {n : Int32} (hR : RA A) (hA0 : AS7 A I) (h : ∀ I', kr (some (.int (qWet n A))) (mk w p r I' L)) : Ev l X uX7_wet (d + 3) true 0 0 [.ref 150, .int n] (mk w p r I L) kr := by
  obtain ⟨hF, hC⟩ := ra_FC hR
  have h0 : ¬ A.1.1 4 = 0 := by have := hR.1.2.2; omega
  refine Ev.of (by decide) (Nat.le_of_ble_eq_true rfl) ?_
  refine Wf.gc tkX7_wet [14] ?_
  conv => whnf
  refine y_good ?_
  have hA := AS7_g hA0
  generalize hH : u2 (u2 I 150 0 0) 150 11 0 = H at hA
  have h14 : H 150 14 = 1 := hA.1
  conv => whnf
  show Ev l X uX7_aheadWhy (d + 2) true 0 0 [.ref 150, .int (H 150 14), .int 1, .int n] (mk w p r H L) _
  rw [h14]
  refine y_aheadWhy (d := d + 1) (a := true) (fun b hb => ?_)
  cases b with
  | true =>
    obtain ⟨z1, z2⟩ := hb.mp rfl
    obtain ⟨N, hN1, hN, en⟩ := ixR_ex (lo := 1) (hi := 60) (by decide) (by decide) z1 z2
    have e0 : qWet n A = itR A.1 A.2.1 N 24 := by
      unfold qWet
      rw [en, an1_1 hR.1.2.2 hN1 hN (by decide)]
    show Wf l X uX7_wet (d + 3) true (mC (mk w p r I L) + 0, mS (mk w p r I L) + 0) 14 [(0, .ref 150), (1, .int n)] [.int 0] (mk w p r H L) kr
    refine Wf.gc tkX7_wet [] ?_
    conv => whnf
    refine b1' rfl ?_
    conv => whnf
    rw [en]
    refine y_daysOn (d := d) (by omega) hR hA (fun K k1 k2 k3 => ?_)
    conv => whnf
    refine ⟨24, ⟨rfl, by decide, show 24 < 25 by decide⟩, ?_⟩
    conv => whnf
    have q := h K
    rw [e0, ← k3 24 (by decide)] at q
    exact q
  | false =>
    have e0 : qWet n A = -1 := by
      unfold qWet an1
      rw [if_neg h0, ixR_none (fun y => by have := hb.mpr y; cases this)]
    rw [e0] at h
    show Wf l X uX7_wet (d + 3) true (mC (mk w p r I L) + 0, mS (mk w p r I L) + 0) 14 [(0, .ref 150), (1, .int n)] [.int 2] (mk w p r H L) kr
    refine Wf.gc tkX7_wet [] ?_
    conv => whnf
    refine b2' (by decide) ?_
    conv => whnf
    refine y_no ?_
    conv => whnf
    exact h _
set_option maxRecDepth 20000 in
theorem y_wet0 {n : Int32} (hA0 : NC7 I) (h : ∀ I', kr (some (.int (-1))) (mk w p r I' L)) : Ev l X uX7_wet (d + 3) true 0 0 [.ref 150, .int n] (mk w p r I L) kr := by
  refine Ev.of (by decide) (Nat.le_of_ble_eq_true rfl) ?_
  refine Wf.gc tkX7_wet [14] ?_
  conv => whnf
  refine y_good ?_
  have hA := NC7_g hA0
  generalize hH : u2 (u2 I 150 0 0) 150 11 0 = H at hA
  have h14 : H 150 14 = 0 := hA.1
  conv => whnf
  show Ev l X uX7_aheadWhy (d + 2) true 0 0 [.ref 150, .int (H 150 14), .int 1, .int n] (mk w p r H L) _
  rw [h14]
  refine y_aheadWhy (d := d + 1) (a := false) (fun b hb => ?_)
  show Wf l X uX7_wet (d + 3) true (mC (mk w p r I L) + 0, mS (mk w p r I L) + 0) 14 [(0, .ref 150), (1, .int n)] [.int 1] (mk w p r H L) kr
  refine Wf.gc tkX7_wet [] ?_
  conv => whnf
  refine b2' (by decide) ?_
  conv => whnf
  refine y_no ?_
  conv => whnf
  exact h _
theorem j6_wet (d : Nat) {n : Int32} (hL : LX M) (hv : SV o M) (h : ∀ M', LX M' → M'.1 = M.1 → SV o M' → kr (some (.int (lfq (qWet n) (-1) o))) M') : Ev l X uX6_wet (d + 12) true 0 0 [.ref 1, .int n] M kr := by
  refine jQ hL hv (fun k h => p6_wet d hL.li h) ?_ (by decide +kernel) h
  have hp := Iv_p hL.iv
  cases o with
  | none => exact x_wet0 (d := d + 9) hp hv.2.1 (fun I' => rfl)
  | some A => exact x_wet (d := d + 9) hp hv.1 hv.2.1 (fun I' => rfl)
theorem j7_wet (d : Nat) {n : Int32} (hL : LX M) (hv : SV o M) (h : ∀ M', LX M' → M'.1 = M.1 → SV o M' → kr (some (.int (lfq (qWet n) (-1) o))) M') : Ev l X uX7_wet (d + 12) true 0 0 [.ref 150, .int n] M kr := by
  refine jQ hL hv (fun k h => p7_wet d hL.li h) ?_ (by decide +kernel) h
  cases o with
  | none => exact y_wet0 (d := d + 9) hv.2.2 (fun I' => rfl)
  | some A => exact y_wet (d := d + 9) hv.1 hv.2.2 (fun I' => rfl)
/-! fallsIn -/
def qFallsIn (f : Int32) (A : Ast) : Int32 := match ixO (A.1.1 4) f with
  | none => -1
  | some j => oI (ff (fun n => decide (itR A.1 A.2.1 n j = 0)) 61 0)
theorem x_fallsIn {f : Int32} (hp : p = 7 ∨ p = 20) (hR : RA A) (hA : AS6 A p I) (h : ∀ I', kr (some (.int (qFallsIn f A))) (mk w p r I' L)) : Ev l X uX6_fallsIn (d + 2) true 0 0 [.ref 1, .int f] (mk w p r I L) kr := by
  refine pX6_fallsIn (as_vC hp hR hA) (fun I' _ => ?_)
  have q := h I'
  unfold qFallsIn at q
  cases hx : ixO (A.1.1 4) f with
  | none => rw [hx] at q; exact q
  | some j =>
    rw [hx] at q
    have hj : j < A.1.1 4 := (ixO_lt (by have := (ra_FC hR).1; omega) hx).1
    have e : ff (fun n => decide ((fw I p j (cOf I (A.1.1 5) (nI j)) n).2.1 = 0)) 61 0 = ff (fun n => decide (itR A.1 A.2.1 n j = 0)) 61 0 := ff_cong (fun n _ _ => by
      rw [fw_c hR hA hj, (it_F (P := A.1) (S := A.2.1) (ra_FC hR).1 (ra_FC hR).2 hj n).2.1]
      rfl)
    show kr (some (.int (oI (ff (fun n => decide ((fw I p j (cOf I (A.1.1 5) (nI j)) n).2.1 = 0)) 61 0)))) _
    rw [e]
    exact q
theorem x_fallsIn0 {f : Int32} (hp : p = 7 ∨ p = 20) (hA : NC6 p I) (h : ∀ I', kr (some (.int (-1))) (mk w p r I' L)) : Ev l X uX6_fallsIn (d + 2) true 0 0 [.ref 1, .int f] (mk w p r I L) kr := by
  refine pX6_fallsIn (nc_vC hp hA) (fun I' _ => ?_)
  rw [show ixO 0 f = none from ixO_none (by omega) nc_no]
  exact h I'
set_option maxRecDepth 20000 in
theorem y_fallsIn {f : Int32} (hR : RA A) (hA0 : AS7 A I) (h : ∀ I', kr (some (.int (qFallsIn f A))) (mk w p r I' L)) : Ev l X uX7_fallsIn (d + 3) true 0 0 [.ref 150, .int f] (mk w p r I L) kr := by
  obtain ⟨hF, hC⟩ := ra_FC hR
  refine Ev.of (by decide) (Nat.le_of_ble_eq_true rfl) ?_
  refine Wf.gc tkX7_fallsIn [25] ?_
  conv => whnf
  refine y_good ?_
  have hA := AS7_g hA0
  generalize hH : u2 (u2 I 150 0 0) 150 11 0 = H at hA
  have eF : H 153 4 = nI (A.1.1 4) := hA.2.1.1 4 (by decide) (by decide)
  conv => whnf
  refine y_isFace (d := d + 1) hA.1 eF (by omega) (fun g hg ef => ?_) (fun z => ?_)
  · have e0 : qFallsIn f A = oI (ff (fun n => decide (itR A.1 A.2.1 n g = 0)) 61 0) := by
      unfold qFallsIn
      rw [ef, ixO_some hg (by omega)]
    rw [e0] at h
    conv => whnf
    refine b1 (by decide) ?_
    conv => whnf
    refine y_daysOn (d := d) (N := 0) (by decide) hR hA (fun K k1 k2 k3 => ?_)
    conv => whnf
    refine srch (e := 61) (P := fun n => decide (itR A.1 A.2.1 n g = 0)) (Wi := fun n => ∀ Q : Nat → Nat → Int32, (∀ x i, x ≠ 160 → x ≠ 161 → Q x i = H x i) → (∀ c, c < A.1.1 5 → Q 160 c = vx0 A.1 c) → (∀ j, j < 25 → Q 161 j = itR A.1 A.2.1 n j) → Wf l X uX7_fallsIn (d + 3) true (mC (mk w p r I L) + 0, mS (mk w p r I L) + 0) 25 [(0, .ref 150), (1, .int f), (2, .int (nI n))] [] (mk w p r Q L) kr) (K := fun o => o = ff (fun n => decide (itR A.1 A.2.1 n g = 0)) 61 0) (fun ho => ?_) (fun n hn => ⟨fun hP ho => ?_, fun hP ih => ?_⟩) 0 (Nat.zero_le _) rfl K k1 k2 k3
    · intro Q q1 q2 q3
      rw [← ho] at h
      refine Wf.gc tkX7_fallsIn [] ?_
      conv => whnf
      refine b1' (by decide) ?_
      conv => whnf
      exact h _
    · intro Q q1 q2 q3
      rw [← ho] at h
      have hP : itR A.1 A.2.1 n g = 0 := of_decide_eq_true hP
      refine Wf.gc tkX7_fallsIn [] ?_
      conv => whnf
      refine b2' (by show ¬ (60 : Int32) < nI n; rw [show (60 : Int32) = nI 60 from rfl, nI_ltI (by decide) (by omega)]; omega) ?_
      conv => whnf
      rw [ef]
      refine ⟨g, ⟨rfl, by omega, show g < 25 by omega⟩, ?_⟩
      conv => whnf
      refine b2 (fun z => z (by show Q 161 g = 0; rw [q3 g (by omega)]; exact hP)) ?_
      conv => whnf
      exact h _
    · intro Q q1 q2 q3
      have hP : ¬ itR A.1 A.2.1 n g = 0 := of_decide_eq_false hP
      refine Wf.gc tkX7_fallsIn [25] ?_
      conv => whnf
      refine b2' (by show ¬ (60 : Int32) < nI n; rw [show (60 : Int32) = nI 60 from rfl, nI_ltI (by decide) (by omega)]; omega) ?_
      conv => whnf
      rw [ef]
      refine ⟨g, ⟨rfl, by omega, show g < 25 by omega⟩, ?_⟩
      conv => whnf
      refine b1 (by show ¬ Q 161 g = 0; rw [q3 g (by omega)]; exact hP) ?_
      conv => whnf
      refine y_dayOn_161 (d := d + 1) (P := A.1) (S := itR A.1 A.2.1 n) (V := vx0 A.1) (calm := false) hR.1.1 hR.1.2.1 (RIg_it hF hC hR.1.2.1 hR.2.2.1.g n) (FS_cg hA.2.1 (fun k _ => q1 153 k (by decide) (by decide))) q2 q3 (fun K' w1 w2 => ?_)
      rw [nR_g] at w2
      conv => whnf
      show Wf l X uX7_fallsIn (d + 3) true (mC (mk w p r I L) + 0, mS (mk w p r I L) + 0) 25 [(0, .ref 150), (1, .int (nI g)), (2, .int (nI n + 1))] [] (mk w p r K' L) kr
      rw [nI_s, ← ef]
      exact ih K' (fun x i z1 z2 => by rw [w1 x i z2]; exact q1 x i z1 z2) (fun c hc => by rw [w1 160 c (by decide)]; exact q2 c hc) w2
  · have e0 : qFallsIn f A = -1 := by
      unfold qFallsIn
      rw [show ixO (A.1.1 4) f = none from ixO_none (by omega) z]
    rw [e0] at h
    conv => whnf
    refine b2 (fun z => z rfl) ?_
    conv => whnf
    refine y_no ?_
    conv => whnf
    exact h _
set_option maxRecDepth 20000 in
theorem y_fallsIn0 {f : Int32} (hA0 : NC7 I) (h : ∀ I', kr (some (.int (-1))) (mk w p r I' L)) : Ev l X uX7_fallsIn (d + 3) true 0 0 [.ref 150, .int f] (mk w p r I L) kr := by
  refine Ev.of (by decide) (Nat.le_of_ble_eq_true rfl) ?_
  refine Wf.gc tkX7_fallsIn [] ?_
  conv => whnf
  refine y_good ?_
  have hA := NC7_g hA0
  generalize hH : u2 (u2 I 150 0 0) 150 11 0 = H at hA
  conv => whnf
  refine y_isFace0 (d := d + 1) hA.1 ?_
  conv => whnf
  refine b2 (fun z => z rfl) ?_
  conv => whnf
  refine y_no ?_
  conv => whnf
  exact h _
theorem j6_fallsIn (d : Nat) {f : Int32} (hL : LX M) (hv : SV o M) (h : ∀ M', LX M' → M'.1 = M.1 → SV o M' → kr (some (.int (lfq (qFallsIn f) (-1) o))) M') : Ev l X uX6_fallsIn (d + 12) true 0 0 [.ref 1, .int f] M kr := by
  refine jQ hL hv (fun k h => p6_fallsIn d hL.li h) ?_ (by decide +kernel) h
  have hp := Iv_p hL.iv
  cases o with
  | none => exact x_fallsIn0 (d := d + 10) hp hv.2.1 (fun I' => rfl)
  | some A => exact x_fallsIn (d := d + 10) hp hv.1 hv.2.1 (fun I' => rfl)
theorem j7_fallsIn (d : Nat) {f : Int32} (hL : LX M) (hv : SV o M) (h : ∀ M', LX M' → M'.1 = M.1 → SV o M' → kr (some (.int (lfq (qFallsIn f) (-1) o))) M') : Ev l X uX7_fallsIn (d + 12) true 0 0 [.ref 150, .int f] M kr := by
  refine jQ hL hv (fun k h => p7_fallsIn d hL.li h) ?_ (by decide +kernel) h
  cases o with
  | none => exact y_fallsIn0 (d := d + 9) hv.2.2 (fun I' => rfl)
  | some A => exact y_fallsIn (d := d + 9) hv.1 hv.2.2 (fun I' => rfl)
end WSD
