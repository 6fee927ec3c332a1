/-! dropsIn, sunny, fallen -/
section DSF
variable {l : Launch} {X : Nat × (Nat → Int32)} {d : Nat} {w : Nat × Nat} {p r : Nat} {I : Nat → Nat → Int32} {L : Nat → Nat → Int64} {kr : KR} {M : Mm} {o : Ost} {A : Ast}
/-! sunny -/
def qSunny (A : Ast) : Int32 := oI ((ff (fun i => decide (itR A.1 A.2.1 (i + 1) 24 = 0)) 60 0).map (· + 1))
theorem x_sunny (hp : p = 7 ∨ p = 20) (hR : RA A) (hA : AS6 A p I) (h : ∀ I', kr (some (.int (qSunny A))) (mk w p r I' L)) : Ev l X uX6_sunny (d + 3) true 0 0 [.ref 1] (mk w p r I L) kr := by
  refine pX6_sunny (as_vC hp hR hA) (fun I' _ => ?_)
  have h0 : ¬ A.1.1 4 = 0 := by have := hR.1.2.2; omega
  have e : ff (fun i => decide (wtF I p (A.1.1 5) i (A.1.1 4) = 0)) 60 0 = ff (fun i => decide (itR A.1 A.2.1 (i + 1) 24 = 0)) 60 0 := ff_cong (fun n _ _ => by
    rw [wtF_it hR hA n _ (Nat.le_refl _), ← it_24 (ra_FC hR).1])
  unfold an0
  rw [if_neg h0, e]
  exact h I'
theorem x_sunny0 (hp : p = 7 ∨ p = 20) (hA : NC6 p I) (h : ∀ I', kr (some (.int (-1))) (mk w p r I' L)) : Ev l X uX6_sunny (d + 3) true 0 0 [.ref 1] (mk w p r I L) kr := by
  refine pX6_sunny (nc_vC hp hA) (fun I' _ => ?_)
  exact h I'
theorem oI_s {o : Option Nat} {n : Nat} (h : some n = o) : oI (o.map (· + 1)) = nI (n + 1) := by
  rw [← h]
  rfl
theorem oI_0 {o : Option Nat} (h : none = o) : oI (o.map (· + 1)) = -2 := by
  rw [← h]
  rfl
set_option maxRecDepth 20000 in
theorem y_sunny (hR : RA A) (hA0 : AS7 A I) (h : ∀ I', kr (some (.int (qSunny A))) (mk w p r I' L)) : Ev l X uX7_sunny (d + 3) true 0 0 [.ref 150] (mk w p r I L) kr := by
  obtain ⟨hF, hC⟩ := ra_FC hR
  refine Ev.of (by decide) (Nat.le_of_ble_eq_true rfl) ?_
  refine Wf.gc tkX7_sunny [24] ?_
  conv => whnf
  refine y_good ?_
  have hA := AS7_g hA0
  generalize hH : u2 (u2 I 150 0 0) 150 11 0 = H at hA
  have h14 : H 150 14 = 1 := hA.1
  unfold qSunny at h
  conv => whnf
  refine b1 (by show ¬ H 150 14 = 0; rw [h14]; decide) ?_
  conv => whnf
  refine y_daysOn (d := d) (N := 0) (by decide) hR hA (fun K k1 k2 k3 => ?_)
  conv => whnf
  refine srch (e := 60) (P := fun n => decide (itR A.1 A.2.1 (n + 1) 24 = 0)) (Wi := fun n => ∀ Q : Nat → Nat → Int32, (∀ x i, x ≠ 160 → x ≠ 161 → Q x i = H x i) → (∀ c, c < A.1.1 5 → Q 160 c = vx0 A.1 c) → (∀ j, j < 25 → Q 161 j = itR A.1 A.2.1 n j) → Wf l X uX7_sunny (d + 3) true (mC (mk w p r I L) + 0, mS (mk w p r I L) + 0) 24 [(0, .ref 150), (1, .int (nI (n + 1)))] [] (mk w p r Q L) kr) (K := fun o => o = ff (fun n => decide (itR A.1 A.2.1 (n + 1) 24 = 0)) 60 0) (fun ho => ?_) (fun n hn => ⟨fun hP ho => ?_, fun hP ih => ?_⟩) 0 (Nat.zero_le _) rfl K k1 k2 k3
  · intro Q q1 q2 q3
    rw [oI_0 ho] at h
    refine Wf.gc tkX7_sunny [] ?_
    conv => whnf
    refine b1' (by decide) ?_
    conv => whnf
    exact h _
  · intro Q q1 q2 q3
    rw [oI_s ho] at h
    have hP : itR A.1 A.2.1 (n + 1) 24 = 0 := of_decide_eq_true hP
    refine Wf.gc tkX7_sunny [] ?_
    conv => whnf
    refine b2' (by show ¬ (60 : Int32) < nI (n + 1); rw [show (60 : Int32) = nI 60 from rfl, nI_ltI (by decide) (by omega)]; omega) ?_
    conv => whnf
    refine y_dayOn_161 (d := d + 1) (P := A.1) (S := itR A.1 A.2.1 n) (V := vx0 A.1) (calm := false) hR.1.1 hR.1.2.1 (RIg_it hF hC hR.1.2.1 hR.2.2.1.g n) (FS_cg hA.2.1 (fun k _ => q1 153 k (by decide) (by decide))) q2 q3 (fun K' w1 w2 => ?_)
    rw [nR_g] at w2
    conv => whnf
    refine ⟨24, ⟨rfl, by decide, show 24 < 25 by decide⟩, ?_⟩
    conv => whnf
    refine b2 (fun z => z (by show K' 161 24 = 0; rw [w2 24 (by decide)]; exact hP)) ?_
    conv => whnf
    exact h _
  · intro Q q1 q2 q3
    have hP : ¬ itR A.1 A.2.1 (n + 1) 24 = 0 := of_decide_eq_false hP
    refine Wf.gc tkX7_sunny [24] ?_
    conv => whnf
    refine b2' (by show ¬ (60 : Int32) < nI (n + 1); rw [show (60 : Int32) = nI 60 from rfl, nI_ltI (by decide) (by omega)]; omega) ?_
    conv => whnf
    refine y_dayOn_161 (d := d + 1) (P := A.1) (S := itR A.1 A.2.1 n) (V := vx0 A.1) (calm := false) hR.1.1 hR.1.2.1 (RIg_it hF hC hR.1.2.1 hR.2.2.1.g n) (FS_cg hA.2.1 (fun k _ => q1 153 k (by decide) (by decide))) q2 q3 (fun K' w1 w2 => ?_)
    rw [nR_g] at w2
    conv => whnf
    refine ⟨24, ⟨rfl, by decide, show 24 < 25 by decide⟩, ?_⟩
    conv => whnf
    refine b1 (by show ¬ K' 161 24 = 0; rw [w2 24 (by decide)]; exact hP) ?_
    conv => whnf
    show Wf l X uX7_sunny (d + 3) true (mC (mk w p r I L) + 0, mS (mk w p r I L) + 0) 24 [(0, .ref 150), (1, .int (nI (n + 1) + 1))] [] (mk w p r K' L) kr
    rw [nI_s]
    exact ih K' (fun x i z1 z2 => by rw [w1 x i z2]; exact q1 x i z1 z2) (fun c hc => by rw [w1 160 c (by decide)]; exact q2 c hc) w2
set_option maxRecDepth 20000 in
theorem y_sunny0 (hA0 : NC7 I) (h : ∀ I', kr (some (.int (-1))) (mk w p r I' L)) : Ev l X uX7_sunny (d + 3) true 0 0 [.ref 150] (mk w p r I L) kr := by
  refine Ev.of (by decide) (Nat.le_of_ble_eq_true rfl) ?_
  refine Wf.gc tkX7_sunny [] ?_
  conv => whnf
  refine y_good ?_
  have hA := NC7_g hA0
  generalize hH : u2 (u2 I 150 0 0) 150 11 0 = H at hA
  conv => whnf
  refine b2 (fun z => z hA.1) ?_
  conv => whnf
  refine y_no ?_
  conv => whnf
  exact h _
theorem j6_sunny (d : Nat) (hL : LX M) (hv : SV o M) (h : ∀ M', LX M' → M'.1 = M.1 → SV o M' → kr (some (.int (lfq qSunny (-1) o))) M') : Ev l X uX6_sunny (d + 12) true 0 0 [.ref 1] M kr := by
  refine jQ hL hv (fun k h => p6_sunny d hL.li h) ?_ (by decide +kernel) h
  have hp := Iv_p hL.iv
  cases o with
  | none => exact x_sunny0 (d := d + 9) hp hv.2.1 (fun I' => rfl)
  | some A => exact x_sunny (d := d + 9) hp hv.1 hv.2.1 (fun I' => rfl)
theorem j7_sunny (d : Nat) (hL : LX M) (hv : SV o M) (h : ∀ M', LX M' → M'.1 = M.1 → SV o M' → kr (some (.int (lfq qSunny (-1) o))) M') : Ev l X uX7_sunny (d + 12) true 0 0 [.ref 150] M kr := by
  refine jQ hL hv (fun k h => p7_sunny d hL.li h) ?_ (by decide +kernel) h
  cases o with
  | none => exact y_sunny0 (d := d + 9) hv.2.2 (fun I' => rfl)
  | some A => exact y_sunny (d := d + 9) hv.1 hv.2.2 (fun I' => rfl)
/-! dropsIn -/
def qDropsIn (f : Int32) (A : Ast) : Int32 := match ixO (A.1.1 4) f with
  | none => -1
  | some j => oI ((ff (fun i => ltF A.1 (itR A.1 A.2.1 i) j) 60 0).map (· + 1))
theorem x_dropsIn {f : Int32} (hp : p = 7 ∨ p = 20) (hR : RA A) (hA : AS6 A p I) (h : ∀ I', kr (some (.int (qDropsIn f A))) (mk w p r I' L)) : Ev l X uX6_dropsIn (d + 2) true 0 0 [.ref 1, .int f] (mk w p r I L) kr := by
  refine pX6_dropsIn (as_vC hp hR hA) (fun I' _ => ?_)
  have q := h I'
  unfold qDropsIn at q
  cases hx : ixO (A.1.1 4) f with
  | none => rw [hx] at q; exact q
  | some j =>
    rw [hx] at q
    have hj : j < A.1.1 4 := (ixO_lt (by have := (ra_FC hR).1; omega) hx).1
    have e : ff (fun i => lets I p (A.1.1 5) j i) 60 0 = ff (fun i => ltF A.1 (itR A.1 A.2.1 i) j) 60 0 := ff_cong (fun n _ _ => lets_it hR hA hj n)
    show kr (some (.int (oI ((ff (fun i => lets I p (A.1.1 5) j i) 60 0).map (· + 1))))) _
    rw [e]
    exact q
theorem x_dropsIn0 {f : Int32} (hp : p = 7 ∨ p = 20) (hA : NC6 p I) (h : ∀ I', kr (some (.int (-1))) (mk w p r I' L)) : Ev l X uX6_dropsIn (d + 2) true 0 0 [.ref 1, .int f] (mk w p r I L) kr := by
  refine pX6_dropsIn (nc_vC hp hA) (fun I' _ => ?_)
  rw [show ixO 0 f = none from ixO_none (by omega) nc_no]
  exact h I'
theorem nx_lt {P : Ps} {S : Rw} {f : Nat} : (nxF P S f).2.2.2 = if ltF P S f = true then 1 else 0 := by
  unfold ltF cLt nxF cSt
  dsimp only
  by_cases z : S f = 0
  · rw [if_pos z, decide_eq_false (fun y => y.1 z)]
    rfl
  · rw [if_neg z]
    split
    · rename_i y
      rw [decide_eq_false (fun x => x.2 y)]
      rfl
    · rename_i y
      rw [decide_eq_true ⟨z, y⟩]
      split <;> rfl
set_option maxHeartbeats 2000000 in
set_option maxRecDepth 20000 in
theorem y_dropsIn {f : Int32} (hR : RA A) (hA0 : AS7 A I) (h : ∀ I', kr (some (.int (qDropsIn f A))) (mk w p r I' L)) : Ev l X uX7_dropsIn (d + 3) true 0 0 [.ref 150, .int f] (mk w p r I L) kr := by
  obtain ⟨hF, hC⟩ := ra_FC hR
  refine Ev.of (by decide) (Nat.le_of_ble_eq_true rfl) ?_
  refine Wf.gc tkX7_dropsIn [25] ?_
  conv => whnf
  refine y_good ?_
  have hA := AS7_g hA0
  generalize hH : u2 (u2 I 150 0 0) 150 11 0 = H at hA
  have eF : H 153 4 = nI (A.1.1 4) := hA.2.1.1 4 (by decide) (by decide)
  conv => whnf
  refine y_isFace (d := d + 1) hA.1 eF (by omega) (fun g hg ef => ?_) (fun z => ?_)
  · have e0 : qDropsIn f A = oI ((ff (fun i => ltF A.1 (itR A.1 A.2.1 i) g) 60 0).map (· + 1)) := by
      unfold qDropsIn
      rw [ef, ixO_some hg (by omega)]
    rw [e0] at h
    obtain ⟨n0, hn0, -, kk⟩ := hR.2.2.1.2.2.2
    obtain ⟨k0, hk0, ek⟩ := kk g hg
    have s12 : H 157 (12 + g) = nI k0 := (hA.2.2.2.1 (12 + g) (by omega)).trans ek
    have n12 : ∀ n, itR A.1 A.2.1 (n + 1) (12 + g) = itR A.1 A.2.1 n (12 + g) + (nxF A.1 (itR A.1 A.2.1 n) g).2.2.2 := fun n => by
      show nR A.1 (itR A.1 A.2.1 n) (12 + g) = _
      unfold nR
      rw [if_neg (by omega), if_neg (by omega), if_pos (by omega), Nat.add_sub_cancel_left]
    conv => whnf
    refine b1 (by decide) ?_
    conv => whnf
    refine y_daysOn (d := d) (N := 0) (by decide) hR hA (fun K k1 k2 k3 => ?_)
    conv => whnf
    refine srch (e := 60) (P := fun i => ltF A.1 (itR A.1 A.2.1 i) g) (Wi := fun n => itR A.1 A.2.1 n (12 + g) = nI k0 → ∀ Q : Nat → Nat → Int32, (∀ x i, x ≠ 160 → x ≠ 161 → Q x i = H x i) → (∀ c, c < A.1.1 5 → Q 160 c = vx0 A.1 c) → (∀ j, j < 25 → Q 161 j = itR A.1 A.2.1 n j) → Wf l X uX7_dropsIn (d + 3) true (mC (mk w p r I L) + 0, mS (mk w p r I L) + 0) 25 [(0, .ref 150), (1, .int f), (2, .int (nI (n + 1)))] [] (mk w p r Q L) kr) (K := fun o => o = ff (fun i => ltF A.1 (itR A.1 A.2.1 i) g) 60 0) (fun ho => ?_) (fun n hn => ⟨fun hP ho => ?_, fun hP ih => ?_⟩) 0 (Nat.zero_le _) rfl ek K k1 k2 k3
    · intro _ Q q1 q2 q3
      rw [oI_0 ho] at h
      refine Wf.gc tkX7_dropsIn [] ?_
      conv => whnf
      refine b1' (by decide) ?_
      conv => whnf
      exact h _
    · intro ei Q q1 q2 q3
      rw [oI_s ho] at h
      have e12 : itR A.1 A.2.1 (n + 1) (12 + g) = nI (k0 + 1) := by
        rw [n12, ei, nx_lt, if_pos hP, nI_s]
      refine Wf.gc tkX7_dropsIn [] ?_
      conv => whnf
      refine b2' (by show ¬ (60 : Int32) < nI (n + 1); rw [show (60 : Int32) = nI 60 from rfl, nI_ltI (by decide) (by omega)]; omega) ?_
      conv => whnf
      refine y_dayOn_161 (d := d + 1) (P := A.1) (S := itR A.1 A.2.1 n) (V := vx0 A.1) (calm := false) hR.1.1 hR.1.2.1 (RIg_it hF hC hR.1.2.1 hR.2.2.1.g n) (FS_cg hA.2.1 (fun k _ => q1 153 k (by decide) (by decide))) q2 q3 (fun K' w1 w2 => ?_)
      rw [nR_g] at w2
      conv => whnf
      rw [ef]
      refine ⟨12 + g, ⟨nI_add 12 g, by omega, show 12 + g < 25 by omega⟩, ?_⟩
      conv => whnf
      refine ⟨12 + g, ⟨nI_add 12 g, by omega, show 12 + g < 25 by omega⟩, ?_⟩
      conv => whnf
      have v1 : K' 161 (12 + g) = nI (k0 + 1) := (w2 (12 + g) (by omega)).trans e12
      have v2 : K' 157 (12 + g) = nI k0 := (w1 157 _ (by decide)).trans ((q1 157 _ (by decide) (by decide)).trans s12)
      refine b2' (by show ¬ K' 161 (12 + g) ≤ K' 157 (12 + g); rw [v1, v2, nI_leI (by omega) (by omega)]; omega) ?_
      conv => whnf
      exact h _
    · intro ei Q q1 q2 q3
      have hP : ltF A.1 (itR A.1 A.2.1 n) g = false := hP
      have e12 : itR A.1 A.2.1 (n + 1) (12 + g) = nI k0 := by
        rw [n12, ei, nx_lt, if_neg (by rw [hP]; decide), Int32.add_zero]
      refine Wf.gc tkX7_dropsIn [25] ?_
      conv => whnf
      refine b2' (by show ¬ (60 : Int32) < nI (n + 1); rw [show (60 : Int32) = nI 60 from rfl, nI_ltI (by decide) (by omega)]; omega) ?_
      conv => whnf
      refine y_dayOn_161 (d := d + 1) (P := A.1) (S := itR A.1 A.2.1 n) (V := vx0 A.1) (calm := false) hR.1.1 hR.1.2.1 (RIg_it hF hC hR.1.2.1 hR.2.2.1.g n) (FS_cg hA.2.1 (fun k _ => q1 153 k (by decide) (by decide))) q2 q3 (fun K' w1 w2 => ?_)
      rw [nR_g] at w2
      conv => whnf
      rw [ef]
      refine ⟨12 + g, ⟨nI_add 12 g, by omega, show 12 + g < 25 by omega⟩, ?_⟩
      conv => whnf
      refine ⟨12 + g, ⟨nI_add 12 g, by omega, show 12 + g < 25 by omega⟩, ?_⟩
      conv => whnf
      have v1 : K' 161 (12 + g) = nI k0 := (w2 (12 + g) (by omega)).trans e12
      have v2 : K' 157 (12 + g) = nI k0 := (w1 157 _ (by decide)).trans ((q1 157 _ (by decide) (by decide)).trans s12)
      refine b1' (by show K' 161 (12 + g) ≤ K' 157 (12 + g); rw [v1, v2]; exact Int32.le_refl _) ?_
      conv => whnf
      show Wf l X uX7_dropsIn (d + 3) true (mC (mk w p r I L) + 0, mS (mk w p r I L) + 0) 25 [(0, .ref 150), (1, .int (nI g)), (2, .int (nI (n + 1) + 1))] [] (mk w p r K' L) kr
      rw [nI_s, ← ef]
      exact ih e12 K' (fun x i z1 z2 => by rw [w1 x i z2]; exact q1 x i z1 z2) (fun c hc => by rw [w1 160 c (by decide)]; exact q2 c hc) w2
  · have e0 : qDropsIn f A = -1 := by
      unfold qDropsIn
      rw [show ixO (A.1.1 4) f = none from ixO_none (by omega) z]
    rw [e0] at h
    conv => whnf
    refine b2 (fun z => z rfl) ?_
    conv => whnf
    refine y_no ?_
    conv => whnf
    exact h _
set_option maxRecDepth 20000 in
theorem y_dropsIn0 {f : Int32} (hA0 : NC7 I) (h : ∀ I', kr (some (.int (-1))) (mk w p r I' L)) : Ev l X uX7_dropsIn (d + 3) true 0 0 [.ref 150, .int f] (mk w p r I L) kr := by
  refine Ev.of (by decide) (Nat.le_of_ble_eq_true rfl) ?_
  refine Wf.gc tkX7_dropsIn [] ?_
  conv => whnf
  refine y_good ?_
  have hA := NC7_g hA0
  generalize hH : u2 (u2 I 150 0 0) 150 11 0 = H at hA
  conv => whnf
  refine y_isFace0 (d := d + 1) hA.1 ?_
  conv => whnf
  refine b2 (fun z => z rfl) ?_
  conv => whnf
  refine y_no ?_
  conv => whnf
  exact h _
theorem j6_dropsIn (d : Nat) {f : Int32} (hL : LX M) (hv : SV o M) (h : ∀ M', LX M' → M'.1 = M.1 → SV o M' → kr (some (.int (lfq (qDropsIn f) (-1) o))) M') : Ev l X uX6_dropsIn (d + 12) true 0 0 [.ref 1, .int f] M kr := by
  refine jQ hL hv (fun k h => p6_dropsIn d hL.li h) ?_ (by decide +kernel) h
  have hp := Iv_p hL.iv
  cases o with
  | none => exact x_dropsIn0 (d := d + 10) hp hv.2.1 (fun I' => rfl)
  | some A => exact x_dropsIn (d := d + 10) hp hv.1 hv.2.1 (fun I' => rfl)
theorem j7_dropsIn (d : Nat) {f : Int32} (hL : LX M) (hv : SV o M) (h : ∀ M', LX M' → M'.1 = M.1 → SV o M' → kr (some (.int (lfq (qDropsIn f) (-1) o))) M') : Ev l X uX7_dropsIn (d + 12) true 0 0 [.ref 150, .int f] M kr := by
  refine jQ hL hv (fun k h => p7_dropsIn d hL.li h) ?_ (by decide +kernel) h
  cases o with
  | none => exact y_dropsIn0 (d := d + 9) hv.2.2 (fun I' => rfl)
  | some A => exact y_dropsIn (d := d + 9) hv.1 hv.2.2 (fun I' => rfl)
end DSF
