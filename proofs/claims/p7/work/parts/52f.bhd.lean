/-! bears, holds, drops -/
section BHD
variable {l : Launch} {X : Nat × (Nat → Int32)} {d : Nat} {w : Nat × Nat} {p r : Nat} {I : Nat → Nat → Int32} {L : Nat → Nat → Int64} {kr : KR} {M : Mm} {o : Ost} {A : Ast}
theorem an2_cg {F : Nat} {f : Int32} {lo hi : Nat} {n : Int32} {g1 g2 : Nat → Nat → Int32} (hF : F < 1000) (h : ∀ j N, j < F → g1 j N = g2 j N) : an2 F f lo hi n g1 = an2 F f lo hi n g2 := by
  unfold an2
  cases hx : ixO F f with
  | none => rfl
  | some j =>
    cases ixR lo hi n with
    | none => rfl
    | some N => exact congrArg (fun z => (z, (0 : Int32))) (h j N (ixO_lt (by omega) hx).1)
theorem as_vC (hp : p = 7 ∨ p = 20) (hR : RA A) (hA : AS6 A p I) : vC p I (A.1.1 4) (A.1.1 5) := ⟨hp, hA.1.1.2.2.2.2.1, (ra_FC hR).1, hA.1.1.2.2.2.2.2.1, (ra_FC hR).2⟩
theorem nc_vC (hp : p = 7 ∨ p = 20) (hA : NC6 p I) : vC p I 0 0 := ⟨hp, (nc4 hA).1, by decide, (nc4 hA).2, by decide⟩
def crS (A : Ast) (j N : Nat) : Fc := cIt (nI (A.1.1 (11 + 4 * j))) (nI (A.1.1 (13 + 4 * j))) (vxP A.1 (cnS (A.1.1 5) A.2.1 (nI j))) (evP A.1 (cnS (A.1.1 5) A.2.1 (nI j))) (A.2.1 23, A.2.1 j, A.2.1 (6 + j), 0) N
theorem fw_c (hR : RA A) (hA : AS6 A p I) {j : Nat} (hj : j < A.1.1 4) (N : Nat) : fw I p j (cOf I (A.1.1 5) (nI j)) N = crS A j N := by
  obtain ⟨c1, c2, c3, c4⟩ := hA.1.2.1 j hj
  obtain ⟨m1, m2, m3⟩ := hA.2.1.1 j hj
  have ho : ∀ c, cnS (A.1.1 5) A.2.1 (nI j) = some c → c < A.1.1 5 := fun c hc => by have := (ff_lt hc).2.1; omega
  have ev : vxO I p (cnS (A.1.1 5) A.2.1 (nI j)) = vxP A.1 (cnS (A.1.1 5) A.2.1 (nI j)) := by
    cases hq : cnS (A.1.1 5) A.2.1 (nI j) with
    | none => rfl
    | some c => exact (hA.1.2.2.2.1 c (ho c hq)).2.1
  have ee : evO I p (cnS (A.1.1 5) A.2.1 (nI j)) = evP A.1 (cnS (A.1.1 5) A.2.1 (nI j)) := by
    cases hq : cnS (A.1.1 5) A.2.1 (nI j) with
    | none => rfl
    | some c => exact (hA.1.2.2.2.1 c (ho c hq)).2.2
  have en : nowF I j = (A.2.1 23, A.2.1 j, A.2.1 (6 + j), 0) := by
    unfold nowF
    rw [show I 34 j = A.2.1 j from m1, show I 35 j = A.2.1 (6 + j) from m2, hA.2.1.2.2.1]
  unfold fw crS
  rw [cOf_cn hA.2.1, c1, c3, ev, ee, en]
set_option maxRecDepth 20000 in
theorem y_aheadWhy {a : Bool} {lo n : Int32} (h : ∀ b : Bool, (b = true ↔ (lo ≤ n ∧ n ≤ 60)) → kr (some (.int (if a = true then (if b = true then 0 else 2) else 1))) (mk w p r I L)) : Ev l X uX7_aheadWhy (d + 1) true 0 0 [.ref 150, .int (bI a), .int lo, .int n] (mk w p r I L) kr := by
  refine Ev.of (by decide) (Nat.le_of_ble_eq_true rfl) ?_
  refine Wf.gc tkX7_aheadWhy [] ?_
  conv => whnf
  refine y_in (fun z1 z2 => ?_) (fun z => ?_)
  · conv => whnf
    refine y_why (a := a) (b := true) ?_
    conv => whnf
    exact h true ⟨fun _ => ⟨z1, z2⟩, fun _ => rfl⟩
  · conv => whnf
    refine y_why (a := a) (b := false) ?_
    conv => whnf
    exact h false ⟨(fun y => by cases y), fun y => absurd y z⟩
def qBears (f n : Int32) (A : Ast) : Int32 := (an2 (A.1.1 4) f 0 60 n (fun j N => itR A.1 A.2.1 N (6 + j))).1
theorem x_bears {f n : Int32} (hp : p = 7 ∨ p = 20) (hR : RA A) (hA : AS6 A p I) (h : ∀ I', kr (some (.int (qBears f n A))) (mk w p r I' L)) : Ev l X uX6_bears (d + 3) true 0 0 [.ref 1, .int f, .int n] (mk w p r I L) kr := by
  refine pX6_bears (as_vC hp hR hA) (fun I' _ => ?_)
  have e : an2 (A.1.1 4) f 0 60 n (fun j N => (fw I p j (cOf I (A.1.1 5) (nI j)) N).2.2.1) = an2 (A.1.1 4) f 0 60 n (fun j N => itR A.1 A.2.1 N (6 + j)) := an2_cg (by have := (ra_FC hR).1; omega) (fun j N hj => (congrArg (fun z : Fc => z.2.2.1) (fw_c hR hA hj N)).trans ((it_F (P := A.1) (S := A.2.1) (ra_FC hR).1 (ra_FC hR).2 hj N).2.2.1.symm))
  rw [e]
  exact h I'
theorem x_bears0 {f n : Int32} (hp : p = 7 ∨ p = 20) (hA : NC6 p I) (h : ∀ I', kr (some (.int (-1))) (mk w p r I' L)) : Ev l X uX6_bears (d + 3) true 0 0 [.ref 1, .int f, .int n] (mk w p r I L) kr := by
  refine pX6_bears (nc_vC hp hA) (fun I' _ => ?_)
  have e : ∀ g : Nat → Nat → Int32, (an2 0 f 0 60 n g).1 = -1 := fun g => by
    unfold an2
    rw [show ixO 0 f = none from ixO_none (by omega) nc_no]
  rw [e]
  exact h I'
set_option maxRecDepth 20000 in
theorem y_bears {f n : Int32} (hR : RA A) (hA0 : AS7 A I) (h : ∀ I', kr (some (.int (qBears f n A))) (mk w p r I' L)) : Ev l X uX7_bears (d + 3) true 0 0 [.ref 150, .int f, .int n] (mk w p r I L) kr := by
  obtain ⟨hF, hC⟩ := ra_FC hR
  refine Ev.of (by decide) (Nat.le_of_ble_eq_true rfl) ?_
  refine Wf.gc tkX7_bears [15] ?_
  conv => whnf
  refine y_good ?_
  have hA := AS7_g hA0
  generalize hH : u2 (u2 I 150 0 0) 150 11 0 = H at hA
  have eF : H 153 4 = nI (A.1.1 4) := hA.2.1.1 4 (by decide) (by decide)
  have n15 : ∀ v : Int32, ¬ v = 0 → qBears f n A = -1 → Wf l X uX7_bears (d + 3) true (mC (mk w p r I L) + 0, mS (mk w p r I L) + 0) 15 [(0, .ref 150), (1, .int f), (2, .int n)] [.int v] (mk w p r H L) kr := by
    intro v hv e
    rw [e] at h
    refine Wf.gc tkX7_bears [] ?_
    conv => whnf
    refine b2' hv ?_
    conv => whnf
    refine y_no ?_
    conv => whnf
    exact h _
  conv => whnf
  refine y_isFace (d := d + 1) hA.1 eF (by omega) (fun g hg ef => ?_) (fun z => ?_)
  · conv => whnf
    refine y_aheadWhy (d := d + 1) (a := true) (fun b hb => ?_)
    cases b with
    | true =>
      obtain ⟨z1, z2⟩ := hb.mp rfl
      obtain ⟨N, -, hN, en⟩ := ixR_ex (lo := 0) (hi := 60) (by decide) (by decide) z1 z2
      have e0 : qBears f n A = itR A.1 A.2.1 N (6 + g) := by
        unfold qBears
        rw [ef, en, an2_1 hg (by omega) (Nat.zero_le _) hN (by decide)]
      show Wf l X uX7_bears (d + 3) true (mC (mk w p r I L) + 0, mS (mk w p r I L) + 0) 15 [(0, .ref 150), (1, .int f), (2, .int n)] [.int 0] (mk w p r H L) kr
      refine Wf.gc tkX7_bears [] ?_
      conv => whnf
      refine b1' rfl ?_
      conv => whnf
      rw [en]
      refine y_daysOn (d := d) (by omega) hR hA (fun K k1 k2 k3 => ?_)
      · conv => whnf
        rw [ef]
        refine ⟨6 + g, ⟨nI_add 6 g, by omega, show 6 + g < 25 by omega⟩, ?_⟩
        conv => whnf
        have q := h K
        rw [e0, ← k3 (6 + g) (by omega)] at q
        exact q
    | false =>
      have e0 : qBears f n A = -1 := by
        unfold qBears an2
        rw [show ixO (A.1.1 4) f = some g by rw [ef]; exact ixO_some hg (by omega), ixR_none (fun y => by have := hb.mpr y; cases this)]
      exact n15 2 (by decide) e0
  · conv => whnf
    refine y_aheadWhy (d := d + 1) (a := false) (fun b hb => ?_)
    have e0 : qBears f n A = -1 := by
      unfold qBears an2
      rw [show ixO (A.1.1 4) f = none from ixO_none (by omega) z]
    exact n15 1 (by decide) e0
set_option maxRecDepth 20000 in
theorem y_bears0 {f n : Int32} (hA0 : NC7 I) (h : ∀ I', kr (some (.int (-1))) (mk w p r I' L)) : Ev l X uX7_bears (d + 3) true 0 0 [.ref 150, .int f, .int n] (mk w p r I L) kr := by
  refine Ev.of (by decide) (Nat.le_of_ble_eq_true rfl) ?_
  refine Wf.gc tkX7_bears [15] ?_
  conv => whnf
  refine y_good ?_
  have hA := NC7_g hA0
  generalize hH : u2 (u2 I 150 0 0) 150 11 0 = H at hA
  conv => whnf
  refine y_isFace0 (d := d + 1) hA.1 ?_
  conv => whnf
  refine y_aheadWhy (d := d + 1) (a := false) (fun b hb => ?_)
  show Wf l X uX7_bears (d + 3) true (mC (mk w p r I L) + 0, mS (mk w p r I L) + 0) 15 [(0, .ref 150), (1, .int f), (2, .int n)] [.int 1] (mk w p r H L) kr
  refine Wf.gc tkX7_bears [] ?_
  conv => whnf
  refine b2' (by decide) ?_
  conv => whnf
  refine y_no ?_
  conv => whnf
  exact h _
theorem j6_bears (d : Nat) {f n : Int32} (hL : LX M) (hv : SV o M) (h : ∀ M', LX M' → M'.1 = M.1 → SV o M' → kr (some (.int (lfq (qBears f n) (-1) o))) M') : Ev l X uX6_bears (d + 12) true 0 0 [.ref 1, .int f, .int n] M kr := by
  refine jQ hL hv (fun k h => p6_bears d hL.li h) ?_ (by decide +kernel) h
  have hp := Iv_p hL.iv
  cases o with
  | none => exact x_bears0 (d := d + 9) hp hv.2.1 (fun I' => rfl)
  | some A => exact x_bears (d := d + 9) hp hv.1 hv.2.1 (fun I' => rfl)
theorem j7_bears (d : Nat) {f n : Int32} (hL : LX M) (hv : SV o M) (h : ∀ M', LX M' → M'.1 = M.1 → SV o M' → kr (some (.int (lfq (qBears f n) (-1) o))) M') : Ev l X uX7_bears (d + 12) true 0 0 [.ref 150, .int f, .int n] M kr := by
  refine jQ hL hv (fun k h => p7_bears d hL.li h) ?_ (by decide +kernel) h
  cases o with
  | none => exact y_bears0 (d := d + 9) hv.2.2 (fun I' => rfl)
  | some A => exact y_bears (d := d + 9) hv.1 hv.2.2 (fun I' => rfl)
def qHolds (f n : Int32) (A : Ast) : Int32 := (an2 (A.1.1 4) f 0 60 n (fun j N => itR A.1 A.2.1 N j)).1
theorem x_holds {f n : Int32} (hp : p = 7 ∨ p = 20) (hR : RA A) (hA : AS6 A p I) (h : ∀ I', kr (some (.int (qHolds f n A))) (mk w p r I' L)) : Ev l X uX6_holds (d + 3) true 0 0 [.ref 1, .int f, .int n] (mk w p r I L) kr := by
  refine pX6_holds (as_vC hp hR hA) (fun I' _ => ?_)
  have e : an2 (A.1.1 4) f 0 60 n (fun j N => (fw I p j (cOf I (A.1.1 5) (nI j)) N).2.1) = an2 (A.1.1 4) f 0 60 n (fun j N => itR A.1 A.2.1 N j) := an2_cg (by have := (ra_FC hR).1; omega) (fun j N hj => (congrArg (fun z : Fc => z.2.1) (fw_c hR hA hj N)).trans ((it_F (P := A.1) (S := A.2.1) (ra_FC hR).1 (ra_FC hR).2 hj N).2.1.symm))
  rw [e]
  exact h I'
theorem x_holds0 {f n : Int32} (hp : p = 7 ∨ p = 20) (hA : NC6 p I) (h : ∀ I', kr (some (.int (-1))) (mk w p r I' L)) : Ev l X uX6_holds (d + 3) true 0 0 [.ref 1, .int f, .int n] (mk w p r I L) kr := by
  refine pX6_holds (nc_vC hp hA) (fun I' _ => ?_)
  have e : ∀ g : Nat → Nat → Int32, (an2 0 f 0 60 n g).1 = -1 := fun g => by
    unfold an2
    rw [show ixO 0 f = none from ixO_none (by omega) nc_no]
  rw [e]
  exact h I'
set_option maxRecDepth 20000 in
theorem y_holds {f n : Int32} (hR : RA A) (hA0 : AS7 A I) (h : ∀ I', kr (some (.int (qHolds f n A))) (mk w p r I' L)) : Ev l X uX7_holds (d + 3) true 0 0 [.ref 150, .int f, .int n] (mk w p r I L) kr := by
  obtain ⟨hF, hC⟩ := ra_FC hR
  refine Ev.of (by decide) (Nat.le_of_ble_eq_true rfl) ?_
  refine Wf.gc tkX7_holds [15] ?_
  conv => whnf
  refine y_good ?_
  have hA := AS7_g hA0
  generalize hH : u2 (u2 I 150 0 0) 150 11 0 = H at hA
  have eF : H 153 4 = nI (A.1.1 4) := hA.2.1.1 4 (by decide) (by decide)
  have n15 : ∀ v : Int32, ¬ v = 0 → qHolds f n A = -1 → Wf l X uX7_holds (d + 3) true (mC (mk w p r I L) + 0, mS (mk w p r I L) + 0) 15 [(0, .ref 150), (1, .int f), (2, .int n)] [.int v] (mk w p r H L) kr := by
    intro v hv e
    rw [e] at h
    refine Wf.gc tkX7_holds [] ?_
    conv => whnf
    refine b2' hv ?_
    conv => whnf
    refine y_no ?_
    conv => whnf
    exact h _
  conv => whnf
  refine y_isFace (d := d + 1) hA.1 eF (by omega) (fun g hg ef => ?_) (fun z => ?_)
  · conv => whnf
    refine y_aheadWhy (d := d + 1) (a := true) (fun b hb => ?_)
    cases b with
    | true =>
      obtain ⟨z1, z2⟩ := hb.mp rfl
      obtain ⟨N, -, hN, en⟩ := ixR_ex (lo := 0) (hi := 60) (by decide) (by decide) z1 z2
      have e0 : qHolds f n A = itR A.1 A.2.1 N g := by
        unfold qHolds
        rw [ef, en, an2_1 hg (by omega) (Nat.zero_le _) hN (by decide)]
      show Wf l X uX7_holds (d + 3) true (mC (mk w p r I L) + 0, mS (mk w p r I L) + 0) 15 [(0, .ref 150), (1, .int f), (2, .int n)] [.int 0] (mk w p r H L) kr
      refine Wf.gc tkX7_holds [] ?_
      conv => whnf
      refine b1' rfl ?_
      conv => whnf
      rw [en]
      refine y_daysOn (d := d) (by omega) hR hA (fun K k1 k2 k3 => ?_)
      · conv => whnf
        rw [ef]
        refine ⟨g, ⟨rfl, by omega, show g < 25 by omega⟩, ?_⟩
        conv => whnf
        have q := h K
        rw [e0, ← k3 g (by omega)] at q
        exact q
    | false =>
      have e0 : qHolds f n A = -1 := by
        unfold qHolds an2
        rw [show ixO (A.1.1 4) f = some g by rw [ef]; exact ixO_some hg (by omega), ixR_none (fun y => by have := hb.mpr y; cases this)]
      exact n15 2 (by decide) e0
  · conv => whnf
    refine y_aheadWhy (d := d + 1) (a := false) (fun b hb => ?_)
    have e0 : qHolds f n A = -1 := by
      unfold qHolds an2
      rw [show ixO (A.1.1 4) f = none from ixO_none (by omega) z]
    exact n15 1 (by decide) e0
set_option maxRecDepth 20000 in
theorem y_holds0 {f n : Int32} (hA0 : NC7 I) (h : ∀ I', kr (some (.int (-1))) (mk w p r I' L)) : Ev l X uX7_holds (d + 3) true 0 0 [.ref 150, .int f, .int n] (mk w p r I L) kr := by
  refine Ev.of (by decide) (Nat.le_of_ble_eq_true rfl) ?_
  refine Wf.gc tkX7_holds [15] ?_
  conv => whnf
  refine y_good ?_
  have hA := NC7_g hA0
  generalize hH : u2 (u2 I 150 0 0) 150 11 0 = H at hA
  conv => whnf
  refine y_isFace0 (d := d + 1) hA.1 ?_
  conv => whnf
  refine y_aheadWhy (d := d + 1) (a := false) (fun b hb => ?_)
  show Wf l X uX7_holds (d + 3) true (mC (mk w p r I L) + 0, mS (mk w p r I L) + 0) 15 [(0, .ref 150), (1, .int f), (2, .int n)] [.int 1] (mk w p r H L) kr
  refine Wf.gc tkX7_holds [] ?_
  conv => whnf
  refine b2' (by decide) ?_
  conv => whnf
  refine y_no ?_
  conv => whnf
  exact h _
theorem j6_holds (d : Nat) {f n : Int32} (hL : LX M) (hv : SV o M) (h : ∀ M', LX M' → M'.1 = M.1 → SV o M' → kr (some (.int (lfq (qHolds f n) (-1) o))) M') : Ev l X uX6_holds (d + 12) true 0 0 [.ref 1, .int f, .int n] M kr := by
  refine jQ hL hv (fun k h => p6_holds d hL.li h) ?_ (by decide +kernel) h
  have hp := Iv_p hL.iv
  cases o with
  | none => exact x_holds0 (d := d + 9) hp hv.2.1 (fun I' => rfl)
  | some A => exact x_holds (d := d + 9) hp hv.1 hv.2.1 (fun I' => rfl)
theorem j7_holds (d : Nat) {f n : Int32} (hL : LX M) (hv : SV o M) (h : ∀ M', LX M' → M'.1 = M.1 → SV o M' → kr (some (.int (lfq (qHolds f n) (-1) o))) M') : Ev l X uX7_holds (d + 12) true 0 0 [.ref 150, .int f, .int n] M kr := by
  refine jQ hL hv (fun k h => p7_holds d hL.li h) ?_ (by decide +kernel) h
  cases o with
  | none => exact y_holds0 (d := d + 9) hv.2.2 (fun I' => rfl)
  | some A => exact y_holds (d := d + 9) hv.1 hv.2.2 (fun I' => rfl)
def qDrops (f n : Int32) (A : Ast) : Int32 := (an2 (A.1.1 4) f 0 60 n (fun j N => (crS A j N).2.2.2)).1
theorem x_drops {f n : Int32} (hp : p = 7 ∨ p = 20) (hR : RA A) (hA : AS6 A p I) (h : ∀ I', kr (some (.int (qDrops f n A))) (mk w p r I' L)) : Ev l X uX6_drops (d + 3) true 0 0 [.ref 1, .int f, .int n] (mk w p r I L) kr := by
  refine pX6_drops (as_vC hp hR hA) (fun I' _ => ?_)
  have e : an2 (A.1.1 4) f 0 60 n (fun j N => (fw I p j (cOf I (A.1.1 5) (nI j)) N).2.2.2) = an2 (A.1.1 4) f 0 60 n (fun j N => (crS A j N).2.2.2) := an2_cg (by have := (ra_FC hR).1; omega) (fun j N hj => (congrArg (fun z : Fc => z.2.2.2) (fw_c hR hA hj N)).trans (rfl))
  rw [e]
  exact h I'
theorem x_drops0 {f n : Int32} (hp : p = 7 ∨ p = 20) (hA : NC6 p I) (h : ∀ I', kr (some (.int (-1))) (mk w p r I' L)) : Ev l X uX6_drops (d + 3) true 0 0 [.ref 1, .int f, .int n] (mk w p r I L) kr := by
  refine pX6_drops (nc_vC hp hA) (fun I' _ => ?_)
  have e : ∀ g : Nat → Nat → Int32, (an2 0 f 0 60 n g).1 = -1 := fun g => by
    unfold an2
    rw [show ixO 0 f = none from ixO_none (by omega) nc_no]
  rw [e]
  exact h I'
set_option maxRecDepth 20000 in
theorem y_drops {f n : Int32} (hR : RA A) (hA0 : AS7 A I) (h : ∀ I', kr (some (.int (qDrops f n A))) (mk w p r I' L)) : Ev l X uX7_drops (d + 3) true 0 0 [.ref 150, .int f, .int n] (mk w p r I L) kr := by
  obtain ⟨hF, hC⟩ := ra_FC hR
  refine Ev.of (by decide) (Nat.le_of_ble_eq_true rfl) ?_
  refine Wf.gc tkX7_drops [15] ?_
  conv => whnf
  refine y_good ?_
  have hA := AS7_g hA0
  generalize hH : u2 (u2 I 150 0 0) 150 11 0 = H at hA
  have eF : H 153 4 = nI (A.1.1 4) := hA.2.1.1 4 (by decide) (by decide)
  have n15 : ∀ v : Int32, ¬ v = 0 → qDrops f n A = -1 → Wf l X uX7_drops (d + 3) true (mC (mk w p r I L) + 0, mS (mk w p r I L) + 0) 15 [(0, .ref 150), (1, .int f), (2, .int n)] [.int v] (mk w p r H L) kr := by
    intro v hv e
    rw [e] at h
    refine Wf.gc tkX7_drops [] ?_
    conv => whnf
    refine b2' hv ?_
    conv => whnf
    refine y_no ?_
    conv => whnf
    exact h _
  conv => whnf
  refine y_isFace (d := d + 1) hA.1 eF (by omega) (fun g hg ef => ?_) (fun z => ?_)
  · conv => whnf
    refine y_aheadWhy (d := d + 1) (a := true) (fun b hb => ?_)
    cases b with
    | true =>
      obtain ⟨z1, z2⟩ := hb.mp rfl
      obtain ⟨N, -, hN, en⟩ := ixR_ex (lo := 0) (hi := 60) (by decide) (by decide) z1 z2
      have e0 : qDrops f n A = (crS A g N).2.2.2 := by
        unfold qDrops
        rw [ef, en, an2_1 hg (by omega) (Nat.zero_le _) hN (by decide)]
      show Wf l X uX7_drops (d + 3) true (mC (mk w p r I L) + 0, mS (mk w p r I L) + 0) 15 [(0, .ref 150), (1, .int f), (2, .int n)] [.int 0] (mk w p r H L) kr
      refine Wf.gc tkX7_drops [] ?_
      conv => whnf
      refine b1' rfl ?_
      conv => whnf
      rw [en]
      refine y_daysOn (d := d) (by omega) hR hA (fun K k1 k2 k3 => ?_)
      · conv => whnf
        rw [ef]
        refine ⟨12 + g, ⟨nI_add 12 g, by omega, show 12 + g < 25 by omega⟩, ?_⟩
        conv => whnf
        refine ⟨12 + g, ⟨nI_add 12 g, by omega, show 12 + g < 25 by omega⟩, ?_⟩
        conv => whnf
        have q := h K
        have ed : K 161 (12 + g) - K 157 (12 + g) = (crS A g N).2.2.2 := by
          rw [k3 (12 + g) (by omega), k1 157 (12 + g) (by decide) (by decide), hA.2.2.2.1 (12 + g) (by omega), (it_F (P := A.1) (S := A.2.1) (ra_FC hR).1 (ra_FC hR).2 hg N).2.2.2.1]
          show A.2.1 (12 + g) + (crS A g N).2.2.2 - A.2.1 (12 + g) = _
          rw [Int32.add_comm, Int32.add_sub_cancel]
        rw [e0, ← ed] at q
        exact q
    | false =>
      have e0 : qDrops f n A = -1 := by
        unfold qDrops an2
        rw [show ixO (A.1.1 4) f = some g by rw [ef]; exact ixO_some hg (by omega), ixR_none (fun y => by have := hb.mpr y; cases this)]
      exact n15 2 (by decide) e0
  · conv => whnf
    refine y_aheadWhy (d := d + 1) (a := false) (fun b hb => ?_)
    have e0 : qDrops f n A = -1 := by
      unfold qDrops an2
      rw [show ixO (A.1.1 4) f = none from ixO_none (by omega) z]
    exact n15 1 (by decide) e0
set_option maxRecDepth 20000 in
theorem y_drops0 {f n : Int32} (hA0 : NC7 I) (h : ∀ I', kr (some (.int (-1))) (mk w p r I' L)) : Ev l X uX7_drops (d + 3) true 0 0 [.ref 150, .int f, .int n] (mk w p r I L) kr := by
  refine Ev.of (by decide) (Nat.le_of_ble_eq_true rfl) ?_
  refine Wf.gc tkX7_drops [15] ?_
  conv => whnf
  refine y_good ?_
  have hA := NC7_g hA0
  generalize hH : u2 (u2 I 150 0 0) 150 11 0 = H at hA
  conv => whnf
  refine y_isFace0 (d := d + 1) hA.1 ?_
  conv => whnf
  refine y_aheadWhy (d := d + 1) (a := false) (fun b hb => ?_)
  show Wf l X uX7_drops (d + 3) true (mC (mk w p r I L) + 0, mS (mk w p r I L) + 0) 15 [(0, .ref 150), (1, .int f), (2, .int n)] [.int 1] (mk w p r H L) kr
  refine Wf.gc tkX7_drops [] ?_
  conv => whnf
  refine b2' (by decide) ?_
  conv => whnf
  refine y_no ?_
  conv => whnf
  exact h _
theorem j6_drops (d : Nat) {f n : Int32} (hL : LX M) (hv : SV o M) (h : ∀ M', LX M' → M'.1 = M.1 → SV o M' → kr (some (.int (lfq (qDrops f n) (-1) o))) M') : Ev l X uX6_drops (d + 12) true 0 0 [.ref 1, .int f, .int n] M kr := by
  refine jQ hL hv (fun k h => p6_drops d hL.li h) ?_ (by decide +kernel) h
  have hp := Iv_p hL.iv
  cases o with
  | none => exact x_drops0 (d := d + 9) hp hv.2.1 (fun I' => rfl)
  | some A => exact x_drops (d := d + 9) hp hv.1 hv.2.1 (fun I' => rfl)
theorem j7_drops (d : Nat) {f n : Int32} (hL : LX M) (hv : SV o M) (h : ∀ M', LX M' → M'.1 = M.1 → SV o M' → kr (some (.int (lfq (qDrops f n) (-1) o))) M') : Ev l X uX7_drops (d + 12) true 0 0 [.ref 150, .int f, .int n] M kr := by
  refine jQ hL hv (fun k h => p7_drops d hL.li h) ?_ (by decide +kernel) h
  cases o with
  | none => exact y_drops0 (d := d + 9) hv.2.2 (fun I' => rfl)
  | some A => exact y_drops (d := d + 9) hv.1 hv.2.2 (fun I' => rfl)
end BHD
