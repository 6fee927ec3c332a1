/-! the reference's day on a row: the plain row of the day that comes -/
section RDO
variable {l : Launch} {X : Nat × (Nat → Int32)} {d : Nat} {w : Nat × Nat} {p r : Nat} {I : Nat → Nat → Int32} {L : Nat → Nat → Int64} {kr : KR} {P : Ps} {S : Rw} {V : Nat → Int32} {calm : Bool} {i g : Nat}
theorem gB_c (hO : gO P S g = some i) (h : calm = true ∨ ¬ jr (S 23 + 1) (nI (P.1 (36 + 2 * i))) = 0 ∨ S g = 0) : gB P V calm S g = S (6 + g) := by
  unfold gB
  by_cases z : S g = 0
  · rw [if_pos z]
  · rw [if_neg z, hO]
    unfold cVx
    refine if_neg (fun y => ?_)
    rcases h with h | h | h
    · rw [h] at y; cases y.1
    · exact h y.2.2
    · exact z h
theorem gB_v (hO : gO P S g = some i) (hc : calm = false) (he : 0 < P.1 (36 + 2 * i)) (he2 : P.1 (36 + 2 * i) ≤ 9) (hj : jr (S 23 + 1) (nI (P.1 (36 + 2 * i))) = 0) (hz : ¬ S g = 0) : gB P V calm S g = S (6 + g) + V i := by
  unfold gB
  rw [if_neg hz, hO]
  unfold cVx
  exact if_pos ⟨hc, (by show (0 : Int32) < nI (P.1 (36 + 2 * i)); rw [show (0 : Int32) = nI 0 from rfl, nI_ltI (by decide) (by omega)]; exact he), hj⟩
theorem nI_le0 {h : Nat} (hh : h ≤ 99) : nI h ≤ 0 ↔ nI h = 0 := by
  rw [show (0 : Int32) = nI 0 from rfl, nI_leI (by omega) (by decide), nI_eq (by omega) (by decide)]
  omega
/-- lets go or not; what is left then -/
theorem lgo_0 {kd : Nat} (hk : kd ≤ 2) {b : Int32} {h : Nat} (h1 : 1 ≤ h) (h9 : h ≤ 99) : (b < cLs (nI kd) (nI h) → lgo (nI kd) (nI h) b = 0) ∧ (¬ b < cLs (nI kd) (nI h) → ¬ lgo (nI kd) (nI h) b = 0 ∧ b - lgo (nI kd) (nI h) b = if nI kd = 1 then b - nI h else 0) := by
  have e2 : (2 : Int32) * nI h = nI (2 * h) := nI_mul 2 h
  have bn : ∀ n : Nat, 1 ≤ n → n < 1000 → ¬ b < nI n → ¬ b = 0 := fun n z1 z2 y e => by
    rw [e] at y
    exact y (by rw [show (0 : Int32) = nI 0 from rfl, nI_ltI (by decide) (by omega)]; omega)
  rcases (show kd = 0 ∨ kd = 1 ∨ kd = 2 by omega) with rfl | rfl | rfl
  · have a1 : cLs (nI 0) (nI h) = nI h := rfl
    have a2 : lgo (nI 0) (nI h) b = if b < nI h then 0 else b := rfl
    rw [a1, a2]
    refine ⟨fun y => if_pos y, fun y => ?_⟩
    rw [if_neg y]
    exact ⟨bn h h1 (by omega) y, by rw [Int32.sub_self]; rfl⟩
  · have a1 : cLs (nI 1) (nI h) = nI h := rfl
    have a2 : lgo (nI 1) (nI h) b = if b < nI h then 0 else nI h := rfl
    rw [a1, a2]
    refine ⟨fun y => if_pos y, fun y => ?_⟩
    rw [if_neg y]
    refine ⟨fun z => ?_, rfl⟩
    have := (nI_eq (by omega) (by decide)).mp (z.trans (show (0 : Int32) = nI 0 from rfl))
    omega
  · have a1 : cLs (nI 2) (nI h) = 2 * nI h := rfl
    have a2 : lgo (nI 2) (nI h) b = if b < 2 * nI h then 0 else b := rfl
    rw [a1, a2, e2]
    refine ⟨fun y => if_pos y, fun y => ?_⟩
    rw [if_neg y]
    exact ⟨bn (2 * h) (by omega) (by omega) y, by rw [Int32.sub_self]; rfl⟩
set_option maxHeartbeats 4000000 in
set_option maxRecDepth 20000 in
theorem y_dayOn_157 (hB : B3 P) (hP : PI P.1) (hS : RIg P S) (hFS : FS P.1 P.2.1 I) (hV : ∀ c, c < P.1 5 → I 160 c = V c) (hI : ∀ j, j < 25 → I 157 j = S j) (h : ∀ K : Nat → Nat → Int32, (∀ x j, x ≠ 157 → K x j = I x j) → (∀ j, j < 25 → K 157 j = gR P V calm S j) → kr none (mk w p r K L)) : Ev l X uX7_dayOn (d + 1) true 0 0 [.ref 150, .ref 157, .int (bI calm)] (mk w p r I L) kr := by
  have hF : P.1 4 ≤ 6 := hB.1.1.1.2.2.2.1
  have hC : P.1 5 ≤ 5 := hB.1.1.1.2.2.2.2.1
  have rI : ∀ j, j < 67 → j ≠ 10 → ∀ K : Nat → Nat → Int32, (∀ x j, x ≠ 157 → K x j = I x j) → K 153 j = nI (P.1 j) := fun j z1 z2 K k1 => (k1 153 j (by decide)).trans (hFS.1 j z1 z2)
  refine Ev.of (by decide) (Nat.le_of_ble_eq_true rfl) ?_
  refine Wf.gc tkX7_dayOn [15] ?_
  conv => whnf
  refine ⟨23, ⟨rfl, by decide, show 23 < 25 by decide⟩, ?_⟩
  conv => whnf
  refine ⟨23, ⟨rfl, by decide, show 23 < 25 by decide⟩, ?_⟩
  conv => whnf
  refine ⟨24, ⟨rfl, by decide, show 24 < 25 by decide⟩, ?_⟩
  conv => whnf
  have faces : ∀ i, i ≤ P.1 4 → ∀ K : Nat → Nat → Int32, (∀ x j, x ≠ 157 → K x j = I x j) → (∀ j, j < 25 → K 157 j = T2 P V calm S i j) → Wf l X uX7_dayOn (d + 1) true (mC (mk w p r I L) + 0, mS (mk w p r I L) + 0) 89 [(0, .ref 150), (1, .ref 157), (2, .int (bI calm)), (3, .int (nI i))] [] (mk w p r K L) kr := by
    refine down _ (P.1 4) ?_ ?_
    · intro K k1 k2
      refine Wf.gc tkX7_dayOn [] ?_
      conv => whnf
      refine ⟨4, ⟨rfl, by decide, show 4 < 202 by decide⟩, ?_⟩
      conv => whnf
      refine b1' (by show K 153 4 ≤ nI (P.1 4); rw [rI 4 (by decide) (by decide) K k1]; exact Int32.le_refl _) ?_
      conv => whnf
      exact h K k1 (fun j hj => by rw [k2 j hj, T2_F])
    · intro i hi ih K k1 k2
      obtain ⟨hh, h99, eh⟩ := hS.1 i hi
      obtain ⟨t1, t2, t3, t4⟩ := T2_i (V := V) (calm := calm) (S := S) hF hi
      obtain ⟨⟨p1, p2⟩, p3, p4, p5⟩ := hP.1 i hi
      have r1 : K 157 i = S i := (k2 i (by omega)).trans t1
      have r2 : K 157 (6 + i) = gB P V calm S i := (k2 (6 + i) (by omega)).trans t2
      have r3 : K 157 (12 + i) = S (12 + i) := (k2 (12 + i) (by omega)).trans t3
      have r4 : K 157 24 = gWt P V calm S i := (k2 24 (by omega)).trans t4
      have m208 : ∀ (v : Int32) (K' : Nat → Nat → Int32), (∀ x j, x ≠ 157 → K' x j = I x j) → (∀ j, j < 25 → K' 157 j = T2 P V calm S (i + 1) j) → Wf l X uX7_dayOn (d + 1) true (mC (mk w p r I L) + 0, mS (mk w p r I L) + 0) 208 [(0, .ref 150), (1, .ref 157), (2, .int (bI calm)), (3, .int (nI i)), (4, .int v)] [] (mk w p r K' L) kr := by
        intro v K' q1 q2
        refine Wf.gc tkX7_dayOn [89] ?_
        conv => whnf
        refine Wf.keep [0, 1, 2, 3] ?_
        show Wf l X uX7_dayOn (d + 1) true (mC (mk w p r I L) + 0, mS (mk w p r I L) + 0) 89 [(0, .ref 150), (1, .ref 157), (2, .int (bI calm)), (3, .int (nI i + 1))] [] (mk w p r K' L) kr
        rw [nI_s]
        exact ih K' q1 q2
      have non : gLt P V calm S i = false → Wf l X uX7_dayOn (d + 1) true (mC (mk w p r I L) + 0, mS (mk w p r I L) + 0) 115 [(0, .ref 150), (1, .ref 157), (2, .int (bI calm)), (3, .int (nI i))] [.int 0] (mk w p r K L) kr := by
        intro hl
        refine Wf.gc tkX7_dayOn [208] ?_
        conv => whnf
        refine b2 (fun z => z rfl) ?_
        conv => whnf
        exact m208 _ K k1 (fun j hj => by rw [k2 j hj, T2_n hF hi hl])
      refine Wf.gc tkX7_dayOn [115] ?_
      conv => whnf
      refine ⟨4, ⟨rfl, by decide, show 4 < 202 by decide⟩, ?_⟩
      conv => whnf
      refine b2' (by show ¬ K 153 4 ≤ nI i; rw [rI 4 (by decide) (by decide) K k1, nI_leI (by omega) (by omega)]; omega) ?_
      conv => whnf
      refine ⟨i, ⟨rfl, by omega, show i < 25 by omega⟩, ?_⟩
      conv => whnf
      refine ⟨fun z => ?_, fun z => ?_⟩
      · have z : ¬ K 157 i = 0 := z
        rw [r1] at z
        have h1 : 1 ≤ hh := by
          rcases Nat.eq_zero_or_pos hh with y | y
          · rw [eh, y] at z; exact absurd rfl z
          · exact y
        have eB : gB P V calm S i = cVx (vxG V (gO P S i)) (evP P (gO P S i)) calm (S 23 + 1) (S (6 + i)) := if_neg z
        obtain ⟨l1, l2⟩ := lgo_0 (kd := P.1 (11 + 4 * i)) p4 (b := gB P V calm S i) h1 h99
        conv => whnf
        refine y_letsGo_157 (by omega) (rI (11 + 4 * i) (by omega) (by omega) K k1) (r1.trans eh) r2 ?_
        by_cases y : gB P V calm S i < cLs (nI (P.1 (11 + 4 * i))) (nI hh)
        · rw [l1 y]
          conv => whnf
          refine non (decide_eq_false (fun x => x.2 ?_))
          rw [← eB]
          show _ < cLs (gK P i) (S i)
          rw [eh]
          exact y
        · obtain ⟨n1, n2⟩ := l2 y
          have hl : gLt P V calm S i = true := by
            refine decide_eq_true ⟨z, fun x => y ?_⟩
            rw [← eB] at x
            have x : gB P V calm S i < cLs (gK P i) (S i) := x
            rw [eh] at x
            exact x
          have eW : gWt P V calm S (i + 1) = gWt P V calm S i ||| ((1 : Int32) <<< (nI (P.1 (14 + 4 * i)) &&& 31)) := by
            show (if gLt P V calm S i = true then _ else _) = _
            rw [hl]
            rfl
          have eF : gF P V calm S i = if S i - gWr P i < 1 then (S 23 + 1, 0, 0, S (12 + i) + 1) else (S 23 + 1, S i - gWr P i, (if gK P i = 1 then gB P V calm S i - S i else 0), S (12 + i) + 1) := by
            unfold gF cSt
            dsimp only
            rw [if_neg z, if_neg (fun x => y (by rw [← eB] at x; have x : gB P V calm S i < cLs (gK P i) (S i) := x; rw [eh] at x; exact x)), ← eB]
          generalize hm : lgo (nI (P.1 (11 + 4 * i))) (nI hh) (gB P V calm S i) = mu at n1 n2
          conv => whnf
          refine Wf.gc tkX7_dayOn [208] ?_
          conv => whnf
          refine b1 n1 ?_
          conv => whnf
          refine ⟨6 + i, ⟨nI_add 6 i, by omega, show 6 + i < 25 by omega⟩, ?_⟩
          conv => whnf
          refine ⟨6 + i, ⟨nI_add 6 i, by omega, show 6 + i < 25 by omega⟩, ?_⟩
          conv => whnf
          refine ⟨12 + i, ⟨nI_add 12 i, by omega, show 12 + i < 25 by omega⟩, ?_⟩
          conv => whnf
          refine ⟨12 + i, ⟨nI_add 12 i, by omega, show 12 + i < 25 by omega⟩, ?_⟩
          conv => whnf
          refine ⟨24, ⟨rfl, by decide, show 24 < 25 by decide⟩, ?_⟩
          conv => whnf
          refine ⟨14 + 4 * i, ⟨i14 i, by omega, show 14 + 4 * i < 202 by omega⟩, ?_⟩
          conv => whnf
          refine ⟨24, ⟨rfl, by decide, show 24 < 25 by decide⟩, ?_⟩
          conv => whnf
          refine ⟨i, ⟨rfl, by omega, show i < 25 by omega⟩, ?_⟩
          conv => whnf
          refine ⟨13 + 4 * i, ⟨i13 i, by omega, show 13 + 4 * i < 202 by omega⟩, ?_⟩
          conv => whnf
          refine ⟨i, ⟨rfl, by omega, show i < 25 by omega⟩, ?_⟩
          conv => whnf
          refine ⟨i, ⟨rfl, by omega, show i < 25 by omega⟩, ?_⟩
          have e13 : K 153 (13 + 4 * i) = gWr P i := rI (13 + 4 * i) (by omega) (by omega) K k1
          have e14 : K 153 (14 + 4 * i) = nI (P.1 (14 + 4 * i)) := rI (14 + 4 * i) (by omega) (by omega) K k1
          let K1 := u2 K 157 (6 + i) (K 157 (6 + i) - mu)
          let K2 := u2 K1 157 (12 + i) (K1 157 (12 + i) + 1)
          let K3 := u2 K2 157 24 (K2 157 24 ||| ((1 : Int32) <<< (K2 153 (14 + 4 * i) &&& 31)))
          let K4 := u2 K3 157 i (K3 157 i - K3 153 (13 + 4 * i))
          have o4 : ∀ x j, x ≠ 157 → K4 x j = I x j := fun x j z => by
            show u2 K3 157 i _ x j = _
            rw [u2_o (by omega)]
            show u2 K2 157 24 _ x j = _
            rw [u2_o (by omega)]
            show u2 K1 157 (12 + i) _ x j = _
            rw [u2_o (by omega)]
            show u2 K 157 (6 + i) _ x j = _
            rw [u2_o (by omega)]
            exact k1 x j z
          have k3i : K3 157 i = S i := by
            show u2 K2 157 24 _ 157 i = _
            rw [u2_o (by omega)]
            show u2 K1 157 (12 + i) _ 157 i = _
            rw [u2_o (by omega)]
            show u2 K 157 (6 + i) _ 157 i = _
            rw [u2_o (by omega)]
            exact r1
          have k313 : K3 153 (13 + 4 * i) = gWr P i := by
            show u2 K2 157 24 _ 153 _ = _
            rw [u2_o (by omega)]
            show u2 K1 157 (12 + i) _ 153 _ = _
            rw [u2_o (by omega)]
            show u2 K 157 (6 + i) _ 153 _ = _
            rw [u2_o (by omega)]
            exact e13
          have v0 : K4 157 i = S i - gWr P i := by
            show u2 K3 157 i _ 157 i = _
            rw [u2_s, k3i, k313]
          have v6 : K4 157 (6 + i) = gB P V calm S i - mu := by
            show u2 K3 157 i _ 157 (6 + i) = _
            rw [u2_o (by omega)]
            show u2 K2 157 24 _ 157 (6 + i) = _
            rw [u2_o (by omega)]
            show u2 K1 157 (12 + i) _ 157 (6 + i) = _
            rw [u2_o (by omega)]
            show u2 K 157 (6 + i) _ 157 (6 + i) = _
            rw [u2_s, r2]
          have v12 : K4 157 (12 + i) = S (12 + i) + 1 := by
            show u2 K3 157 i _ 157 (12 + i) = _
            rw [u2_o (by omega)]
            show u2 K2 157 24 _ 157 (12 + i) = _
            rw [u2_o (by omega)]
            show u2 K1 157 (12 + i) _ 157 (12 + i) = _
            rw [u2_s]
            show u2 K 157 (6 + i) _ 157 (12 + i) + 1 = _
            rw [u2_o (by omega), r3]
          have v24 : K4 157 24 = gWt P V calm S (i + 1) := by
            show u2 K3 157 i _ 157 24 = _
            rw [u2_o (by omega)]
            show u2 K2 157 24 _ 157 24 = _
            rw [u2_s, eW]
            have x1 : K2 157 24 = gWt P V calm S i := by
              show u2 K1 157 (12 + i) _ 157 24 = _
              rw [u2_o (by omega)]
              show u2 K 157 (6 + i) _ 157 24 = _
              rw [u2_o (by omega)]
              exact r4
            have x2 : K2 153 (14 + 4 * i) = nI (P.1 (14 + 4 * i)) := by
              show u2 K1 157 (12 + i) _ 153 _ = _
              rw [u2_o (by omega)]
              show u2 K 157 (6 + i) _ 153 _ = _
              rw [u2_o (by omega)]
              exact e14
            rw [x1, x2]
          have vo : ∀ j, j < 25 → j ≠ i → j ≠ 6 + i → j ≠ 12 + i → j ≠ 24 → K4 157 j = T2 P V calm S i j := fun j hj z1 z2 z3 z4 => by
            show u2 K3 157 i _ 157 j = _
            rw [u2_o (by omega)]
            show u2 K2 157 24 _ 157 j = _
            rw [u2_o (by omega)]
            show u2 K1 157 (12 + i) _ 157 j = _
            rw [u2_o (by omega)]
            show u2 K 157 (6 + i) _ 157 j = _
            rw [u2_o (by omega)]
            exact k2 j hj
          conv => whnf
          refine ⟨fun x => ?_, fun x => ?_⟩
          · have x : K4 157 i < 1 := x
            rw [v0] at x
            rw [if_pos x] at eF
            conv => whnf
            refine ⟨i, ⟨rfl, by omega, show i < 25 by omega⟩, ?_⟩
            conv => whnf
            refine ⟨6 + i, ⟨nI_add 6 i, by omega, show 6 + i < 25 by omega⟩, ?_⟩
            conv => whnf
            refine m208 _ (u2 (u2 K4 157 i 0) 157 (6 + i) 0) (fun x j z => by rw [u2_o (by omega), u2_o (by omega)]; exact o4 x j z) (fun j hj => ?_)
            rw [T2_s hF hi, eF]
            unfold uR
            by_cases z4 : j = 24
            · subst z4
              rw [if_pos rfl, u2_o (by omega), u2_o (by omega)]; exact v24
            · rw [if_neg z4]
              by_cases z3 : j = 12 + i
              · subst z3
                rw [if_pos rfl, u2_o (by omega), u2_o (by omega)]; exact v12
              · rw [if_neg z3]
                by_cases z2 : j = 6 + i
                · subst z2
                  rw [if_pos rfl, u2_s]
                · rw [if_neg z2]
                  by_cases z1 : j = i
                  · subst z1
                    rw [if_pos rfl, u2_o (by omega), u2_s]
                  · rw [if_neg z1, u2_o (by omega), u2_o (by omega)]
                    exact vo j hj z1 z2 z3 z4
          · have x : ¬ K4 157 i < 1 := x
            rw [v0] at x
            rw [if_neg x] at eF
            conv => whnf
            refine m208 _ K4 o4 (fun j hj => ?_)
            rw [T2_s hF hi, eF]
            unfold uR
            by_cases z4 : j = 24
            · subst z4
              rw [if_pos rfl]; exact v24
            · rw [if_neg z4]
              by_cases z3 : j = 12 + i
              · subst z3
                rw [if_pos rfl]; exact v12
              · rw [if_neg z3]
                by_cases z2 : j = 6 + i
                · subst z2
                  rw [if_pos rfl, v6, n2, eh]
                  rfl
                · rw [if_neg z2]
                  by_cases z1 : j = i
                  · subst z1
                    rw [if_pos rfl]; exact v0
                  · rw [if_neg z1]
                    exact vo j hj z1 z2 z3 z4
      · have z : K 157 i = 0 := z
        rw [r1] at z
        conv => whnf
        exact non (decide_eq_false (fun x => x.1 z))
  have canons : ∀ i, i ≤ P.1 5 → ∀ K : Nat → Nat → Int32, (∀ x j, x ≠ 157 → K x j = I x j) → (∀ j, j < 25 → K 157 j = T1 P V calm S i j) → Wf l X uX7_dayOn (d + 1) true (mC (mk w p r I L) + 0, mS (mk w p r I L) + 0) 15 [(0, .ref 150), (1, .ref 157), (2, .int (bI calm)), (3, .int (nI i))] [] (mk w p r K L) kr := by
    refine down _ (P.1 5) ?_ ?_
    · intro K k1 k2
      refine Wf.gc tkX7_dayOn [89] ?_
      conv => whnf
      refine ⟨5, ⟨rfl, by decide, show 5 < 202 by decide⟩, ?_⟩
      conv => whnf
      refine b1' (by show K 153 5 ≤ nI (P.1 5); rw [rI 5 (by decide) (by decide) K k1]; exact Int32.le_refl _) ?_
      conv => whnf
      exact faces 0 (Nat.zero_le _) K k1 (fun j hj => by rw [k2 j hj, T12 hF])
    · intro i hi ih K k1 k2
      obtain ⟨g, hg, eg⟩ := hS.2.1 i hi
      have hO := gO_of hS hi eg
      obtain ⟨-, -, p1, p2⟩ := hP.2.1 i hi
      obtain ⟨hh, h99, eh⟩ := hS.1 g hg
      have tt : ∀ j, j < 25 → ¬ (6 ≤ j ∧ j < 12) → j ≠ 23 → j ≠ 24 → T1 P V calm S i j = S j := fun j z1 z2 z3 z4 => by
        unfold T1
        rw [if_neg z3, if_neg z4, if_neg (by omega)]
      have r23 : K 157 23 = S 23 + 1 := (k2 23 (by decide)).trans rfl
      have r18 : K 157 (18 + i) = nI g := (k2 (18 + i) (by omega)).trans ((tt (18 + i) (by omega) (by omega) (by omega) (by omega)).trans eg)
      have rg : K 157 g = S g := (k2 g (by omega)).trans (tt g (by omega) (by omega) (by omega) (by omega))
      have r6 : K 157 (6 + g) = S (6 + g) := (k2 (6 + g) (by omega)).trans (T1_g hF hS hi hg eg)
      have e36 : K 153 (36 + 2 * i) = nI (P.1 (36 + 2 * i)) := rI (36 + 2 * i) (by omega) (by omega) K k1
      have m81 : ∀ K' : Nat → Nat → Int32, (∀ x j, x ≠ 157 → K' x j = I x j) → (∀ j, j < 25 → K' 157 j = T1 P V calm S (i + 1) j) → Wf l X uX7_dayOn (d + 1) true (mC (mk w p r I L) + 0, mS (mk w p r I L) + 0) 81 [(0, .ref 150), (1, .ref 157), (2, .int (bI calm)), (3, .int (nI i))] [] (mk w p r K' L) kr := by
        intro K' q1 q2
        refine Wf.gc tkX7_dayOn [15] ?_
        conv => whnf
        show Wf l X uX7_dayOn (d + 1) true (mC (mk w p r I L) + 0, mS (mk w p r I L) + 0) 15 [(0, .ref 150), (1, .ref 157), (2, .int (bI calm)), (3, .int (nI i + 1))] [] (mk w p r K' L) kr
        rw [nI_s]
        exact ih K' q1 q2
      have s81 : gB P V calm S g = S (6 + g) → Wf l X uX7_dayOn (d + 1) true (mC (mk w p r I L) + 0, mS (mk w p r I L) + 0) 81 [(0, .ref 150), (1, .ref 157), (2, .int (bI calm)), (3, .int (nI i))] [] (mk w p r K L) kr := fun hB' => m81 K k1 (fun j hj => by rw [k2 j hj, T1_e hF hS hi hg eg hB'])
      refine Wf.gc tkX7_dayOn [81] ?_
      conv => whnf
      refine ⟨5, ⟨rfl, by decide, show 5 < 202 by decide⟩, ?_⟩
      conv => whnf
      refine b2' (by show ¬ K 153 5 ≤ nI i; rw [rI 5 (by decide) (by decide) K k1, nI_leI (by omega) (by omega)]; omega) ?_
      conv => whnf
      cases hcm : calm with
      | true =>
        refine b1 (by decide) ?_
        conv => whnf
        have q := s81 (gB_c hO (Or.inl hcm))
        rw [hcm] at q
        exact q
      | false =>
        refine b2 (fun z => z rfl) ?_
        conv => whnf
        refine ⟨23, ⟨rfl, by decide, show 23 < 25 by decide⟩, ?_⟩
        conv => whnf
        refine ⟨36 + 2 * i, ⟨i36 i, by omega, show 36 + 2 * i < 202 by omega⟩, ?_⟩
        conv => whnf
        refine ⟨by show ¬ K 153 (36 + 2 * i) = 0; rw [e36]; exact fun z => absurd ((nI_eq (by omega) (by decide)).mp (z.trans (show (0 : Int32) = nI 0 from rfl))) (by omega), ?_⟩
        conv => whnf
        refine ⟨fun z => ?_, fun z => ?_⟩
        · have z : ¬ jr (K 157 23) (K 153 (36 + 2 * i)) = 0 := z
          rw [r23, e36] at z
          conv => whnf
          have q := s81 (gB_c hO (Or.inr (Or.inl z)))
          rw [hcm] at q
          exact q
        · have z : jr (K 157 23) (K 153 (36 + 2 * i)) = 0 := z
          rw [r23, e36] at z
          conv => whnf
          refine ⟨18 + i, ⟨nI_add 18 i, by omega, show 18 + i < 25 by omega⟩, ?_⟩
          conv => whnf
          refine ⟨g, ⟨r18, by omega, show g < 25 by omega⟩, ?_⟩
          conv => whnf
          refine ⟨fun y => ?_, fun y => ?_⟩
          · have y : K 157 g ≤ 0 := y
            rw [rg, eh, nI_le0 h99, ← eh] at y
            conv => whnf
            have q := s81 (gB_c hO (Or.inr (Or.inr y)))
            rw [hcm] at q
            exact q
          · have y : ¬ K 157 g ≤ 0 := y
            rw [rg, eh, nI_le0 h99, ← eh] at y
            conv => whnf
            refine ⟨18 + i, ⟨nI_add 18 i, by omega, show 18 + i < 25 by omega⟩, ?_⟩
            conv => whnf
            refine ⟨6 + g, ⟨by show 6 + K 157 (18 + i) = _; rw [r18]; exact nI_add 6 g, by omega, show 6 + g < 25 by omega⟩, ?_⟩
            conv => whnf
            refine ⟨i, ⟨rfl, by omega, show i < 5 by omega⟩, ?_⟩
            conv => whnf
            refine ⟨6 + g, ⟨by show 6 + K 157 (18 + i) = _; rw [r18]; exact nI_add 6 g, by omega, show 6 + g < 25 by omega⟩, ?_⟩
            conv => whnf
            have q := m81 (u2 K 157 (6 + g) (K 157 (6 + g) + K 160 i)) (fun x j z => by rw [u2_o (by omega)]; exact k1 x j z) (fun j hj => by
              rw [T1_s hF hS hi hg eg, gB_v hO hcm (by omega) (by omega) z y]
              unfold uR
              by_cases e : j = 6 + g
              · subst e
                rw [u2_s, if_pos rfl, r6, k1 160 i (by decide), hV i hi]
              · rw [u2_o (by omega), if_neg e]
                exact k2 j hj)
            rw [hcm] at q
            exact q
  refine canons 0 (Nat.zero_le _) (u2 (u2 I 157 23 (I 157 23 + 1)) 157 24 0) (fun x j z => by rw [u2_o (by omega), u2_o (by omega)]) (fun j hj => ?_)
  unfold T1
  by_cases z1 : j = 23
  · subst z1
    rw [u2_o (by omega), u2_s, if_pos rfl, hI 23 (by decide)]
  · rw [if_neg z1]
    by_cases z2 : j = 24
    · subst z2
      rw [u2_s, if_pos rfl]
    · rw [if_neg z2, u2_o (by omega), u2_o (by omega), hI j hj]
      split
      · rename_i z3
        unfold gM1
        cases gO P S (j - 6) with
        | none => show S j = S (6 + (j - 6)); rw [show 6 + (j - 6) = j by omega]
        | some c =>
          show S j = if c < 0 then _ else S (6 + (j - 6))
          rw [if_neg (Nat.not_lt_zero _), show 6 + (j - 6) = j by omega]
      · rfl
set_option maxHeartbeats 4000000 in
set_option maxRecDepth 20000 in
theorem y_dayOn_161 (hB : B3 P) (hP : PI P.1) (hS : RIg P S) (hFS : FS P.1 P.2.1 I) (hV : ∀ c, c < P.1 5 → I 160 c = V c) (hI : ∀ j, j < 25 → I 161 j = S j) (h : ∀ K : Nat → Nat → Int32, (∀ x j, x ≠ 161 → K x j = I x j) → (∀ j, j < 25 → K 161 j = gR P V calm S j) → kr none (mk w p r K L)) : Ev l X uX7_dayOn (d + 1) true 0 0 [.ref 150, .ref 161, .int (bI calm)] (mk w p r I L) kr := by
  have hF : P.1 4 ≤ 6 := hB.1.1.1.2.2.2.1
  have hC : P.1 5 ≤ 5 := hB.1.1.1.2.2.2.2.1
  have rI : ∀ j, j < 67 → j ≠ 10 → ∀ K : Nat → Nat → Int32, (∀ x j, x ≠ 161 → K x j = I x j) → K 153 j = nI (P.1 j) := fun j z1 z2 K k1 => (k1 153 j (by decide)).trans (hFS.1 j z1 z2)
  refine Ev.of (by decide) (Nat.le_of_ble_eq_true rfl) ?_
  refine Wf.gc tkX7_dayOn [15] ?_
  conv => whnf
  refine ⟨23, ⟨rfl, by decide, show 23 < 25 by decide⟩, ?_⟩
  conv => whnf
  refine ⟨23, ⟨rfl, by decide, show 23 < 25 by decide⟩, ?_⟩
  conv => whnf
  refine ⟨24, ⟨rfl, by decide, show 24 < 25 by decide⟩, ?_⟩
  conv => whnf
  have faces : ∀ i, i ≤ P.1 4 → ∀ K : Nat → Nat → Int32, (∀ x j, x ≠ 161 → K x j = I x j) → (∀ j, j < 25 → K 161 j = T2 P V calm S i j) → Wf l X uX7_dayOn (d + 1) true (mC (mk w p r I L) + 0, mS (mk w p r I L) + 0) 89 [(0, .ref 150), (1, .ref 161), (2, .int (bI calm)), (3, .int (nI i))] [] (mk w p r K L) kr := by
    refine down _ (P.1 4) ?_ ?_
    · intro K k1 k2
      refine Wf.gc tkX7_dayOn [] ?_
      conv => whnf
      refine ⟨4, ⟨rfl, by decide, show 4 < 202 by decide⟩, ?_⟩
      conv => whnf
      refine b1' (by show K 153 4 ≤ nI (P.1 4); rw [rI 4 (by decide) (by decide) K k1]; exact Int32.le_refl _) ?_
      conv => whnf
      exact h K k1 (fun j hj => by rw [k2 j hj, T2_F])
    · intro i hi ih K k1 k2
      obtain ⟨hh, h99, eh⟩ := hS.1 i hi
      obtain ⟨t1, t2, t3, t4⟩ := T2_i (V := V) (calm := calm) (S := S) hF hi
      obtain ⟨⟨p1, p2⟩, p3, p4, p5⟩ := hP.1 i hi
      have r1 : K 161 i = S i := (k2 i (by omega)).trans t1
      have r2 : K 161 (6 + i) = gB P V calm S i := (k2 (6 + i) (by omega)).trans t2
      have r3 : K 161 (12 + i) = S (12 + i) := (k2 (12 + i) (by omega)).trans t3
      have r4 : K 161 24 = gWt P V calm S i := (k2 24 (by omega)).trans t4
      have m208 : ∀ (v : Int32) (K' : Nat → Nat → Int32), (∀ x j, x ≠ 161 → K' x j = I x j) → (∀ j, j < 25 → K' 161 j = T2 P V calm S (i + 1) j) → Wf l X uX7_dayOn (d + 1) true (mC (mk w p r I L) + 0, mS (mk w p r I L) + 0) 208 [(0, .ref 150), (1, .ref 161), (2, .int (bI calm)), (3, .int (nI i)), (4, .int v)] [] (mk w p r K' L) kr := by
        intro v K' q1 q2
        refine Wf.gc tkX7_dayOn [89] ?_
        conv => whnf
        refine Wf.keep [0, 1, 2, 3] ?_
        show Wf l X uX7_dayOn (d + 1) true (mC (mk w p r I L) + 0, mS (mk w p r I L) + 0) 89 [(0, .ref 150), (1, .ref 161), (2, .int (bI calm)), (3, .int (nI i + 1))] [] (mk w p r K' L) kr
        rw [nI_s]
        exact ih K' q1 q2
      have non : gLt P V calm S i = false → Wf l X uX7_dayOn (d + 1) true (mC (mk w p r I L) + 0, mS (mk w p r I L) + 0) 115 [(0, .ref 150), (1, .ref 161), (2, .int (bI calm)), (3, .int (nI i))] [.int 0] (mk w p r K L) kr := by
        intro hl
        refine Wf.gc tkX7_dayOn [208] ?_
        conv => whnf
        refine b2 (fun z => z rfl) ?_
        conv => whnf
        exact m208 _ K k1 (fun j hj => by rw [k2 j hj, T2_n hF hi hl])
      refine Wf.gc tkX7_dayOn [115] ?_
      conv => whnf
      refine ⟨4, ⟨rfl, by decide, show 4 < 202 by decide⟩, ?_⟩
      conv => whnf
      refine b2' (by show ¬ K 153 4 ≤ nI i; rw [rI 4 (by decide) (by decide) K k1, nI_leI (by omega) (by omega)]; omega) ?_
      conv => whnf
      refine ⟨i, ⟨rfl, by omega, show i < 25 by omega⟩, ?_⟩
      conv => whnf
      refine ⟨fun z => ?_, fun z => ?_⟩
      · have z : ¬ K 161 i = 0 := z
        rw [r1] at z
        have h1 : 1 ≤ hh := by
          rcases Nat.eq_zero_or_pos hh with y | y
          · rw [eh, y] at z; exact absurd rfl z
          · exact y
        have eB : gB P V calm S i = cVx (vxG V (gO P S i)) (evP P (gO P S i)) calm (S 23 + 1) (S (6 + i)) := if_neg z
        obtain ⟨l1, l2⟩ := lgo_0 (kd := P.1 (11 + 4 * i)) p4 (b := gB P V calm S i) h1 h99
        conv => whnf
        refine y_letsGo_161 (by omega) (rI (11 + 4 * i) (by omega) (by omega) K k1) (r1.trans eh) r2 ?_
        by_cases y : gB P V calm S i < cLs (nI (P.1 (11 + 4 * i))) (nI hh)
        · rw [l1 y]
          conv => whnf
          refine non (decide_eq_false (fun x => x.2 ?_))
          rw [← eB]
          show _ < cLs (gK P i) (S i)
          rw [eh]
          exact y
        · obtain ⟨n1, n2⟩ := l2 y
          have hl : gLt P V calm S i = true := by
            refine decide_eq_true ⟨z, fun x => y ?_⟩
            rw [← eB] at x
            have x : gB P V calm S i < cLs (gK P i) (S i) := x
            rw [eh] at x
            exact x
          have eW : gWt P V calm S (i + 1) = gWt P V calm S i ||| ((1 : Int32) <<< (nI (P.1 (14 + 4 * i)) &&& 31)) := by
            show (if gLt P V calm S i = true then _ else _) = _
            rw [hl]
            rfl
          have eF : gF P V calm S i = if S i - gWr P i < 1 then (S 23 + 1, 0, 0, S (12 + i) + 1) else (S 23 + 1, S i - gWr P i, (if gK P i = 1 then gB P V calm S i - S i else 0), S (12 + i) + 1) := by
            unfold gF cSt
            dsimp only
            rw [if_neg z, if_neg (fun x => y (by rw [← eB] at x; have x : gB P V calm S i < cLs (gK P i) (S i) := x; rw [eh] at x; exact x)), ← eB]
          generalize hm : lgo (nI (P.1 (11 + 4 * i))) (nI hh) (gB P V calm S i) = mu at n1 n2
          conv => whnf
          refine Wf.gc tkX7_dayOn [208] ?_
          conv => whnf
          refine b1 n1 ?_
          conv => whnf
          refine ⟨6 + i, ⟨nI_add 6 i, by omega, show 6 + i < 25 by omega⟩, ?_⟩
          conv => whnf
          refine ⟨6 + i, ⟨nI_add 6 i, by omega, show 6 + i < 25 by omega⟩, ?_⟩
          conv => whnf
          refine ⟨12 + i, ⟨nI_add 12 i, by omega, show 12 + i < 25 by omega⟩, ?_⟩
          conv => whnf
          refine ⟨12 + i, ⟨nI_add 12 i, by omega, show 12 + i < 25 by omega⟩, ?_⟩
          conv => whnf
          refine ⟨24, ⟨rfl, by decide, show 24 < 25 by decide⟩, ?_⟩
          conv => whnf
          refine ⟨14 + 4 * i, ⟨i14 i, by omega, show 14 + 4 * i < 202 by omega⟩, ?_⟩
          conv => whnf
          refine ⟨24, ⟨rfl, by decide, show 24 < 25 by decide⟩, ?_⟩
          conv => whnf
          refine ⟨i, ⟨rfl, by omega, show i < 25 by omega⟩, ?_⟩
          conv => whnf
          refine ⟨13 + 4 * i, ⟨i13 i, by omega, show 13 + 4 * i < 202 by omega⟩, ?_⟩
          conv => whnf
          refine ⟨i, ⟨rfl, by omega, show i < 25 by omega⟩, ?_⟩
          conv => whnf
          refine ⟨i, ⟨rfl, by omega, show i < 25 by omega⟩, ?_⟩
          have e13 : K 153 (13 + 4 * i) = gWr P i := rI (13 + 4 * i) (by omega) (by omega) K k1
          have e14 : K 153 (14 + 4 * i) = nI (P.1 (14 + 4 * i)) := rI (14 + 4 * i) (by omega) (by omega) K k1
          let K1 := u2 K 161 (6 + i) (K 161 (6 + i) - mu)
          let K2 := u2 K1 161 (12 + i) (K1 161 (12 + i) + 1)
          let K3 := u2 K2 161 24 (K2 161 24 ||| ((1 : Int32) <<< (K2 153 (14 + 4 * i) &&& 31)))
          let K4 := u2 K3 161 i (K3 161 i - K3 153 (13 + 4 * i))
          have o4 : ∀ x j, x ≠ 161 → K4 x j = I x j := fun x j z => by
            show u2 K3 161 i _ x j = _
            rw [u2_o (by omega)]
            show u2 K2 161 24 _ x j = _
            rw [u2_o (by omega)]
            show u2 K1 161 (12 + i) _ x j = _
            rw [u2_o (by omega)]
            show u2 K 161 (6 + i) _ x j = _
            rw [u2_o (by omega)]
            exact k1 x j z
          have k3i : K3 161 i = S i := by
            show u2 K2 161 24 _ 161 i = _
            rw [u2_o (by omega)]
            show u2 K1 161 (12 + i) _ 161 i = _
            rw [u2_o (by omega)]
            show u2 K 161 (6 + i) _ 161 i = _
            rw [u2_o (by omega)]
            exact r1
          have k313 : K3 153 (13 + 4 * i) = gWr P i := by
            show u2 K2 161 24 _ 153 _ = _
            rw [u2_o (by omega)]
            show u2 K1 161 (12 + i) _ 153 _ = _
            rw [u2_o (by omega)]
            show u2 K 161 (6 + i) _ 153 _ = _
            rw [u2_o (by omega)]
            exact e13
          have v0 : K4 161 i = S i - gWr P i := by
            show u2 K3 161 i _ 161 i = _
            rw [u2_s, k3i, k313]
          have v6 : K4 161 (6 + i) = gB P V calm S i - mu := by
            show u2 K3 161 i _ 161 (6 + i) = _
            rw [u2_o (by omega)]
            show u2 K2 161 24 _ 161 (6 + i) = _
            rw [u2_o (by omega)]
            show u2 K1 161 (12 + i) _ 161 (6 + i) = _
            rw [u2_o (by omega)]
            show u2 K 161 (6 + i) _ 161 (6 + i) = _
            rw [u2_s, r2]
          have v12 : K4 161 (12 + i) = S (12 + i) + 1 := by
            show u2 K3 161 i _ 161 (12 + i) = _
            rw [u2_o (by omega)]
            show u2 K2 161 24 _ 161 (12 + i) = _
            rw [u2_o (by omega)]
            show u2 K1 161 (12 + i) _ 161 (12 + i) = _
            rw [u2_s]
            show u2 K 161 (6 + i) _ 161 (12 + i) + 1 = _
            rw [u2_o (by omega), r3]
          have v24 : K4 161 24 = gWt P V calm S (i + 1) := by
            show u2 K3 161 i _ 161 24 = _
            rw [u2_o (by omega)]
            show u2 K2 161 24 _ 161 24 = _
            rw [u2_s, eW]
            have x1 : K2 161 24 = gWt P V calm S i := by
              show u2 K1 161 (12 + i) _ 161 24 = _
              rw [u2_o (by omega)]
              show u2 K 161 (6 + i) _ 161 24 = _
              rw [u2_o (by omega)]
              exact r4
            have x2 : K2 153 (14 + 4 * i) = nI (P.1 (14 + 4 * i)) := by
              show u2 K1 161 (12 + i) _ 153 _ = _
              rw [u2_o (by omega)]
              show u2 K 161 (6 + i) _ 153 _ = _
              rw [u2_o (by omega)]
              exact e14
            rw [x1, x2]
          have vo : ∀ j, j < 25 → j ≠ i → j ≠ 6 + i → j ≠ 12 + i → j ≠ 24 → K4 161 j = T2 P V calm S i j := fun j hj z1 z2 z3 z4 => by
            show u2 K3 161 i _ 161 j = _
            rw [u2_o (by omega)]
            show u2 K2 161 24 _ 161 j = _
            rw [u2_o (by omega)]
            show u2 K1 161 (12 + i) _ 161 j = _
            rw [u2_o (by omega)]
            show u2 K 161 (6 + i) _ 161 j = _
            rw [u2_o (by omega)]
            exact k2 j hj
          conv => whnf
          refine ⟨fun x => ?_, fun x => ?_⟩
          · have x : K4 161 i < 1 := x
            rw [v0] at x
            rw [if_pos x] at eF
            conv => whnf
            refine ⟨i, ⟨rfl, by omega, show i < 25 by omega⟩, ?_⟩
            conv => whnf
            refine ⟨6 + i, ⟨nI_add 6 i, by omega, show 6 + i < 25 by omega⟩, ?_⟩
            conv => whnf
            refine m208 _ (u2 (u2 K4 161 i 0) 161 (6 + i) 0) (fun x j z => by rw [u2_o (by omega), u2_o (by omega)]; exact o4 x j z) (fun j hj => ?_)
            rw [T2_s hF hi, eF]
            unfold uR
            by_cases z4 : j = 24
            · subst z4
              rw [if_pos rfl, u2_o (by omega), u2_o (by omega)]; exact v24
            · rw [if_neg z4]
              by_cases z3 : j = 12 + i
              · subst z3
                rw [if_pos rfl, u2_o (by omega), u2_o (by omega)]; exact v12
              · rw [if_neg z3]
                by_cases z2 : j = 6 + i
                · subst z2
                  rw [if_pos rfl, u2_s]
                · rw [if_neg z2]
                  by_cases z1 : j = i
                  · subst z1
                    rw [if_pos rfl, u2_o (by omega), u2_s]
                  · rw [if_neg z1, u2_o (by omega), u2_o (by omega)]
                    exact vo j hj z1 z2 z3 z4
          · have x : ¬ K4 161 i < 1 := x
            rw [v0] at x
            rw [if_neg x] at eF
            conv => whnf
            refine m208 _ K4 o4 (fun j hj => ?_)
            rw [T2_s hF hi, eF]
            unfold uR
            by_cases z4 : j = 24
            · subst z4
              rw [if_pos rfl]; exact v24
            · rw [if_neg z4]
              by_cases z3 : j = 12 + i
              · subst z3
                rw [if_pos rfl]; exact v12
              · rw [if_neg z3]
                by_cases z2 : j = 6 + i
                · subst z2
                  rw [if_pos rfl, v6, n2, eh]
                  rfl
                · rw [if_neg z2]
                  by_cases z1 : j = i
                  · subst z1
                    rw [if_pos rfl]; exact v0
                  · rw [if_neg z1]
                    exact vo j hj z1 z2 z3 z4
      · have z : K 161 i = 0 := z
        rw [r1] at z
        conv => whnf
        exact non (decide_eq_false (fun x => x.1 z))
  have canons : ∀ i, i ≤ P.1 5 → ∀ K : Nat → Nat → Int32, (∀ x j, x ≠ 161 → K x j = I x j) → (∀ j, j < 25 → K 161 j = T1 P V calm S i j) → Wf l X uX7_dayOn (d + 1) true (mC (mk w p r I L) + 0, mS (mk w p r I L) + 0) 15 [(0, .ref 150), (1, .ref 161), (2, .int (bI calm)), (3, .int (nI i))] [] (mk w p r K L) kr := by
    refine down _ (P.1 5) ?_ ?_
    · intro K k1 k2
      refine Wf.gc tkX7_dayOn [89] ?_
      conv => whnf
      refine ⟨5, ⟨rfl, by decide, show 5 < 202 by decide⟩, ?_⟩
      conv => whnf
      refine b1' (by show K 153 5 ≤ nI (P.1 5); rw [rI 5 (by decide) (by decide) K k1]; exact Int32.le_refl _) ?_
      conv => whnf
      exact faces 0 (Nat.zero_le _) K k1 (fun j hj => by rw [k2 j hj, T12 hF])
    · intro i hi ih K k1 k2
      obtain ⟨g, hg, eg⟩ := hS.2.1 i hi
      have hO := gO_of hS hi eg
      obtain ⟨-, -, p1, p2⟩ := hP.2.1 i hi
      obtain ⟨hh, h99, eh⟩ := hS.1 g hg
      have tt : ∀ j, j < 25 → ¬ (6 ≤ j ∧ j < 12) → j ≠ 23 → j ≠ 24 → T1 P V calm S i j = S j := fun j z1 z2 z3 z4 => by
        unfold T1
        rw [if_neg z3, if_neg z4, if_neg (by omega)]
      have r23 : K 161 23 = S 23 + 1 := (k2 23 (by decide)).trans rfl
      have r18 : K 161 (18 + i) = nI g := (k2 (18 + i) (by omega)).trans ((tt (18 + i) (by omega) (by omega) (by omega) (by omega)).trans eg)
      have rg : K 161 g = S g := (k2 g (by omega)).trans (tt g (by omega) (by omega) (by omega) (by omega))
      have r6 : K 161 (6 + g) = S (6 + g) := (k2 (6 + g) (by omega)).trans (T1_g hF hS hi hg eg)
      have e36 : K 153 (36 + 2 * i) = nI (P.1 (36 + 2 * i)) := rI (36 + 2 * i) (by omega) (by omega) K k1
      have m81 : ∀ K' : Nat → Nat → Int32, (∀ x j, x ≠ 161 → K' x j = I x j) → (∀ j, j < 25 → K' 161 j = T1 P V calm S (i + 1) j) → Wf l X uX7_dayOn (d + 1) true (mC (mk w p r I L) + 0, mS (mk w p r I L) + 0) 81 [(0, .ref 150), (1, .ref 161), (2, .int (bI calm)), (3, .int (nI i))] [] (mk w p r K' L) kr := by
        intro K' q1 q2
        refine Wf.gc tkX7_dayOn [15] ?_
        conv => whnf
        show Wf l X uX7_dayOn (d + 1) true (mC (mk w p r I L) + 0, mS (mk w p r I L) + 0) 15 [(0, .ref 150), (1, .ref 161), (2, .int (bI calm)), (3, .int (nI i + 1))] [] (mk w p r K' L) kr
        rw [nI_s]
        exact ih K' q1 q2
      have s81 : gB P V calm S g = S (6 + g) → Wf l X uX7_dayOn (d + 1) true (mC (mk w p r I L) + 0, mS (mk w p r I L) + 0) 81 [(0, .ref 150), (1, .ref 161), (2, .int (bI calm)), (3, .int (nI i))] [] (mk w p r K L) kr := fun hB' => m81 K k1 (fun j hj => by rw [k2 j hj, T1_e hF hS hi hg eg hB'])
      refine Wf.gc tkX7_dayOn [81] ?_
      conv => whnf
      refine ⟨5, ⟨rfl, by decide, show 5 < 202 by decide⟩, ?_⟩
      conv => whnf
      refine b2' (by show ¬ K 153 5 ≤ nI i; rw [rI 5 (by decide) (by decide) K k1, nI_leI (by omega) (by omega)]; omega) ?_
      conv => whnf
      cases hcm : calm with
      | true =>
        refine b1 (by decide) ?_
        conv => whnf
        have q := s81 (gB_c hO (Or.inl hcm))
        rw [hcm] at q
        exact q
      | false =>
        refine b2 (fun z => z rfl) ?_
        conv => whnf
        refine ⟨23, ⟨rfl, by decide, show 23 < 25 by decide⟩, ?_⟩
        conv => whnf
        refine ⟨36 + 2 * i, ⟨i36 i, by omega, show 36 + 2 * i < 202 by omega⟩, ?_⟩
        conv => whnf
        refine ⟨by show ¬ K 153 (36 + 2 * i) = 0; rw [e36]; exact fun z => absurd ((nI_eq (by omega) (by decide)).mp (z.trans (show (0 : Int32) = nI 0 from rfl))) (by omega), ?_⟩
        conv => whnf
        refine ⟨fun z => ?_, fun z => ?_⟩
        · have z : ¬ jr (K 161 23) (K 153 (36 + 2 * i)) = 0 := z
          rw [r23, e36] at z
          conv => whnf
          have q := s81 (gB_c hO (Or.inr (Or.inl z)))
          rw [hcm] at q
          exact q
        · have z : jr (K 161 23) (K 153 (36 + 2 * i)) = 0 := z
          rw [r23, e36] at z
          conv => whnf
          refine ⟨18 + i, ⟨nI_add 18 i, by omega, show 18 + i < 25 by omega⟩, ?_⟩
          conv => whnf
          refine ⟨g, ⟨r18, by omega, show g < 25 by omega⟩, ?_⟩
          conv => whnf
          refine ⟨fun y => ?_, fun y => ?_⟩
          · have y : K 161 g ≤ 0 := y
            rw [rg, eh, nI_le0 h99, ← eh] at y
            conv => whnf
            have q := s81 (gB_c hO (Or.inr (Or.inr y)))
            rw [hcm] at q
            exact q
          · have y : ¬ K 161 g ≤ 0 := y
            rw [rg, eh, nI_le0 h99, ← eh] at y
            conv => whnf
            refine ⟨18 + i, ⟨nI_add 18 i, by omega, show 18 + i < 25 by omega⟩, ?_⟩
            conv => whnf
            refine ⟨6 + g, ⟨by show 6 + K 161 (18 + i) = _; rw [r18]; exact nI_add 6 g, by omega, show 6 + g < 25 by omega⟩, ?_⟩
            conv => whnf
            refine ⟨i, ⟨rfl, by omega, show i < 5 by omega⟩, ?_⟩
            conv => whnf
            refine ⟨6 + g, ⟨by show 6 + K 161 (18 + i) = _; rw [r18]; exact nI_add 6 g, by omega, show 6 + g < 25 by omega⟩, ?_⟩
            conv => whnf
            have q := m81 (u2 K 161 (6 + g) (K 161 (6 + g) + K 160 i)) (fun x j z => by rw [u2_o (by omega)]; exact k1 x j z) (fun j hj => by
              rw [T1_s hF hS hi hg eg, gB_v hO hcm (by omega) (by omega) z y]
              unfold uR
              by_cases e : j = 6 + g
              · subst e
                rw [u2_s, if_pos rfl, r6, k1 160 i (by decide), hV i hi]
              · rw [u2_o (by omega), if_neg e]
                exact k2 j hj)
            rw [hcm] at q
            exact q
  refine canons 0 (Nat.zero_le _) (u2 (u2 I 161 23 (I 161 23 + 1)) 161 24 0) (fun x j z => by rw [u2_o (by omega), u2_o (by omega)]) (fun j hj => ?_)
  unfold T1
  by_cases z1 : j = 23
  · subst z1
    rw [u2_o (by omega), u2_s, if_pos rfl, hI 23 (by decide)]
  · rw [if_neg z1]
    by_cases z2 : j = 24
    · subst z2
      rw [u2_s, if_pos rfl]
    · rw [if_neg z2, u2_o (by omega), u2_o (by omega), hI j hj]
      split
      · rename_i z3
        unfold gM1
        cases gO P S (j - 6) with
        | none => show S j = S (6 + (j - 6)); rw [show 6 + (j - 6) = j by omega]
        | some c =>
          show S j = if c < 0 then _ else S (6 + (j - 6))
          rw [if_neg (Nat.not_lt_zero _), show 6 + (j - 6) = j by omega]
      · rfl
end RDO
