/-! size -/
section SIZ
variable {l : Launch} {X : Nat × (Nat → Int32)} {d : Nat} {w : Nat × Nat} {p r : Nat} {I : Nat → Nat → Int32} {L : Nat → Nat → Int64} {kr : KR} {M : Mm} {o : Ost} {A : Ast} {F : Nat → Nat} {W : Int32}
def dcK (F : Nat → Nat) : Nat → Nat
  | 0 => 0
  | k + 1 => dcK F k + z1 (F (61 + k))
theorem dcK_6 (F : Nat → Nat) : dcK F 6 = dcn F := by
  unfold dcn
  show 0 + z1 (F 61) + z1 (F 62) + z1 (F 63) + z1 (F 64) + z1 (F 65) + z1 (F 66) = _
  omega
set_option maxRecDepth 20000 in
theorem x_droppedCount {q : Nat} (hq : q = 7 ∨ q = 20) (hPC : PC q F W I) (hBF : ∀ j, F j < 1000) (h : kr (some (.int (nI (dcn F)))) (mk w p r I L)) : Ev l X uX3_droppedCount d true 0 0 [.ref q] (mk w p r I L) kr := by
  refine Ev.of (by decide) (Nat.le_of_ble_eq_true rfl) ?_
  rw [← dcK_6] at h
  have loop : ∀ i, i ≤ 6 → Wf l X uX3_droppedCount d true (mC (mk w p r I L) + 0, mS (mk w p r I L) + 0) 4 [(0, .ref q), (1, .int (nI (dcK F i))), (2, .int (nI i))] [] (mk w p r I L) kr := by
    refine down _ 6 ?_ ?_
    · refine Wf.gc tkX3_droppedCount [] ?_
      conv => whnf
      refine b1' (by decide) ?_
      conv => whnf
      exact h
    · intro i hi ih
      have e5 : I (q + 5) i = nI (F (61 + i)) := hPC.2.2.1 i hi
      have m22 : ∀ c : Nat, c = dcK F (i + 1) → Wf l X uX3_droppedCount d true (mC (mk w p r I L) + 0, mS (mk w p r I L) + 0) 22 [(0, .ref q), (1, .int (nI c)), (2, .int (nI i))] [] (mk w p r I L) kr := by
        intro c hc
        refine Wf.gc tkX3_droppedCount [4] ?_
        conv => whnf
        show Wf l X uX3_droppedCount d true (mC (mk w p r I L) + 0, mS (mk w p r I L) + 0) 4 [(0, .ref q), (1, .int (nI c)), (2, .int (nI i + 1))] [] (mk w p r I L) kr
        rw [nI_s, hc]
        exact ih
      refine Wf.gc tkX3_droppedCount [22] ?_
      rcases hq with rfl | rfl
      all_goals
        conv => whnf
        refine b2' (by show ¬ (6 : Int32) ≤ nI i; rw [show (6 : Int32) = nI 6 from rfl]; exact nI_ge hi (by decide)) ?_
        conv => whnf
        refine ⟨i, ix (N := 6) hi (by decide), ?_⟩
        conv => whnf
        refine ⟨fun z => ?_, fun z => ?_⟩
        · have z : nI (F (61 + i)) = 0 := e5.symm.trans z
          have z := (nI_eq (by have := hBF (61 + i); omega) (by decide)).mp (z.trans (show (0 : Int32) = nI 0 from rfl))
          conv => whnf
          refine m22 _ ?_
          show dcK F i = dcK F i + z1 (F (61 + i))
          rw [z]
          rfl
        · have z : ¬ nI (F (61 + i)) = 0 := fun y => z (Eq.trans e5 y)
          have z : ¬ F (61 + i) = 0 := fun y => z (by rw [y]; rfl)
          conv => whnf
          show Wf l X uX3_droppedCount d true (mC (mk w _ r I L) + 0, mS (mk w _ r I L) + 0) 22 [(0, .ref _), (1, .int (nI (dcK F i) + 1)), (2, .int (nI i))] [] (mk w _ r I L) kr
          rw [nI_s]
          refine m22 _ ?_
          show dcK F i + 1 = dcK F i + z1 (F (61 + i))
          unfold z1
          rw [if_neg z]
  refine Wf.gc tkX3_droppedCount [4] ?_
  conv => whnf
  exact loop 0 (Nat.zero_le _)
def szv (F : Nat → Nat) (dy ku im tp wh : Int32) : Int32 := match ixO 13 wh with
  | none => -1
  | some k => if k = 12 then tp else if k = 9 then dy else if k = 10 then ku else if k = 11 then im else nI (F k)
set_option maxHeartbeats 4000000 in
set_option maxRecDepth 20000 in
theorem x_size {wh : Int32} (hp : p = 7 ∨ p = 20) (hPC : PC p F W I) (hBF : ∀ j, F j < 1000) (hW : pcI W = nI (F 3)) (h8 : F 8 = dcn F) (h : kr (some (.int (szv F (I 33 4) (I 1 6) (I 1 8) (I 2 1) wh))) (mk w p r I L)) : Ev l X uX6_size (d + 2) true 0 0 [.ref 1, .int wh] (mk w p r I L) kr := by
  refine Ev.of (by decide) (Nat.le_of_ble_eq_true rfl) ?_
  refine Wf.gc tkX6_size [] ?_
  conv => whnf
  obtain ⟨⟨c0, c1, c2, c3, c4, c5, c6, c7⟩, -⟩ := id hPC
  refine ⟨fun k t hk hx => ?_, fun hx => ?_⟩
  · have hk13 : k < 13 := by
      rcases Nat.lt_or_ge k 13 with y | y
      · exact y
      · rw [List.getElem?_eq_none (by exact y)] at hk; cases hk
    have e := ts_k hx (by omega)
    unfold szv at h
    rw [e, ixO_some hk13 (by omega)] at h
    have hp' := hp
    rcases (show k = 0 ∨ k = 1 ∨ k = 2 ∨ k = 3 ∨ k = 4 ∨ k = 5 ∨ k = 6 ∨ k = 7 ∨ k = 8 ∨ k = 9 ∨ k = 10 ∨ k = 11 ∨ k = 12 by omega) with rfl | rfl | rfl | rfl | rfl | rfl | rfl | rfl | rfl | rfl | rfl | rfl | rfl
    · cases hk
      have h : kr (some (.int (nI (F 0)))) (mk w p r I L) := h
      rw [← c0] at h
      rcases hp with rfl | rfl
      all_goals
        conv => whnf
        exact h
    · cases hk
      have h : kr (some (.int (nI (F 1)))) (mk w p r I L) := h
      rw [← c1] at h
      rcases hp with rfl | rfl
      all_goals
        conv => whnf
        exact h
    · cases hk
      have h : kr (some (.int (nI (F 2)))) (mk w p r I L) := h
      rw [← c2] at h
      rcases hp with rfl | rfl
      all_goals
        conv => whnf
        exact h
    · cases hk
      have h : kr (some (.int (nI (F 3)))) (mk w p r I L) := h
      rw [← hW] at h
      rcases hp with rfl | rfl
      all_goals
        conv => whnf
        refine x_wallCount hp' hPC ?_
        conv => whnf
        exact h
    · cases hk
      have h : kr (some (.int (nI (F 4)))) (mk w p r I L) := h
      rw [← c4] at h
      rcases hp with rfl | rfl
      all_goals
        conv => whnf
        exact h
    · cases hk
      have h : kr (some (.int (nI (F 5)))) (mk w p r I L) := h
      rw [← c5] at h
      rcases hp with rfl | rfl
      all_goals
        conv => whnf
        exact h
    · cases hk
      have h : kr (some (.int (nI (F 6)))) (mk w p r I L) := h
      rw [← c6] at h
      rcases hp with rfl | rfl
      all_goals
        conv => whnf
        exact h
    · cases hk
      have h : kr (some (.int (nI (F 7)))) (mk w p r I L) := h
      rw [← c7] at h
      rcases hp with rfl | rfl
      all_goals
        conv => whnf
        exact h
    · cases hk
      have h : kr (some (.int (nI (F 8)))) (mk w p r I L) := h
      rw [h8] at h
      rcases hp with rfl | rfl
      all_goals
        conv => whnf
        refine x_droppedCount hp' hPC hBF ?_
        conv => whnf
        exact h
    · cases hk
      conv => whnf
      exact h
    · cases hk
      conv => whnf
      exact h
    · cases hk
      conv => whnf
      exact h
    · cases hk
      conv => whnf
      exact h
  · have z := ts_n (N := 13) (by decide) hx
    unfold szv at h
    rw [show ixO 13 wh = none from ixO_none (by omega) z] at h
    conv => whnf
    exact h
end SIZ
