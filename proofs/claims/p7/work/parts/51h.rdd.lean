section RDD
variable {l : Launch} {X : Nat × (Nat → Int32)} {d : Nat} {w : Nat × Nat} {p r : Nat} {I I' : Nat → Nat → Int32} {L : Nat → Nat → Int64} {kr : KR} {A : Ast}
set_option maxRecDepth 20000 in
theorem y_day (hR : RA A) (hA0 : AS7 A I) (h : ∀ I', AS7 (aDay A).2 I' → kr (some (.int (aDay A).1)) (mk w p r I' L)) : Ev l X uX7_day (d + 3) true 0 0 [.ref 150] (mk w p r I L) kr := by
  obtain ⟨hF, hC⟩ := ra_FC hR
  have hU4 : A.1.1 7 ≤ 4 := hR.1.1.1.1.1.2.2.2.2.2.2
  obtain ⟨n, hn, e23, -⟩ := hR.2.2.1.2.2.2
  refine Ev.of (by decide) (Nat.le_of_ble_eq_true rfl) ?_
  refine Wf.gc tkX7_day [] ?_
  conv => whnf
  refine y_good ?_
  have hA := AS7_g hA0
  generalize hH : u2 (u2 I 150 0 0) 150 11 0 = H at hA
  have h14 : H 150 14 = 1 := hA.1
  have s23 : H 157 23 = A.2.1 23 := hA.2.2.2.1 23 (by decide)
  unfold aDay at h
  conv => whnf
  refine b1 (by show ¬ H 150 14 = 0; rw [h14]; decide) ?_
  conv => whnf
  refine ⟨23, ⟨rfl, by decide, show 23 < 25 by decide⟩, ?_⟩
  conv => whnf
  refine ⟨fun z => ?_, fun z => ?_⟩
  · have z : ¬ H 157 23 = 999 := z
    rw [s23] at z
    have hlt : A.2.1 23 < 999 := by
      rw [e23] at z ⊢
      rw [show (999 : Int32) = nI 999 from rfl, nI_ltI (by omega) (by decide)]
      rcases Nat.lt_or_ge n 999 with y | y
      · exact y
      · exact absurd (by rw [show n = 999 by omega]; rfl) z
    rw [if_pos hlt] at h
    conv => whnf
    refine y_note (d := d + 1) hR hA (fun J jo hJ => ?_)
    conv => whnf
    refine y_vexed0 (d := d + 1) (N := A.1.1 5) (U := A.1.1 7) (F := A.1.1) (hJ.2.1.1 5 (by decide) (by decide)) hC (hJ.2.1.1 7 (by decide) (by decide)) hU4 (fun c hc => hJ.2.1.1 (35 + 2 * c) (by have : c < A.1.1 5 := hc; omega) (by omega)) (fun K k1 k2 => ?_)
    conv => whnf
    have hK : AS7 (A.1, A.2.1, psh A.2.2.1 A.2.1, A.2.2.2) K := AS7_o hJ (fun x i z => k1 x i (by omega))
    refine y_dayOn_157 (d := d + 1) (P := A.1) (S := A.2.1) (V := vx0 A.1) (calm := false) hR.1.1 hR.1.2.1 hR.2.2.1.g hK.2.1 k2 hK.2.2.2.1 (fun Q q1 q2 => ?_)
    rw [nR_g] at q2
    conv => whnf
    refine ⟨24, ⟨rfl, by decide, show 24 < 25 by decide⟩, ?_⟩
    conv => whnf
    show kr (some (.int (Q 157 24))) (mk w p r Q L)
    have e24 : Q 157 24 = wtS A.1 A.2.1 (A.1.1 4) := by
      rw [q2 24 (by decide)]
      unfold nR
      rw [if_neg (by omega), if_neg (by omega), if_neg (by omega), if_neg (by decide), if_pos rfl]
    rw [e24]
    exact h _ (AS7_st hK q1 q2)
  · have z : H 157 23 = 999 := z
    rw [s23] at z
    rw [if_neg (by rw [z]; decide)] at h
    conv => whnf
    refine y_no ?_
    conv => whnf
    exact h _ (AS7_11 hA 3)
end RDD
