section SIZ2
variable {l : Launch} {X : Nat × (Nat → Int32)} {d : Nat} {w : Nat × Nat} {p r : Nat} {I : Nat → Nat → Int32} {L : Nat → Nat → Int64} {kr : KR} {M : Mm} {o : Ost} {A : Ast} {t : Nat}
def vSize (o : Ost) (tp wh : Int32) : Int32 := match o with
  | none => szv F00 0 0 0 tp wh
  | some A => szv A.1.1 (A.2.1 23) (nI A.2.2.1.length) (nI A.2.2.2.length) tp wh
set_option maxHeartbeats 4000000 in
set_option maxRecDepth 20000 in
theorem y_size {wh : Int32} (hR : RA A) (hA0 : AS7 A I) (h : ∀ I', kr (some (.int (vSize (some A) (I 150 2) wh))) (mk w p r I' L)) : Ev l X uX7_size (d + 1) true 0 0 [.ref 150, .int wh] (mk w p r I L) kr := by
  refine Ev.of (by decide) (Nat.le_of_ble_eq_true rfl) ?_
  refine Wf.gc tkX7_size [5] ?_
  have hA : AS7 A (u2 I 150 0 0) := AS7_o hA0 (fun x i z => by rw [u2_o (by omega)])
  have e2 : u2 I 150 0 0 150 2 = I 150 2 := u2_o (by decide)
  conv => whnf
  show Wf l X uX7_size (d + 1) true (mC (mk w p r I L) + 0, mS (mk w p r I L) + 0) 5 [(0, .ref 150), (1, .int wh)] [] (mk w p r (u2 I 150 0 0) L) kr
  have h : kr (some (.int (szv A.1.1 (A.2.1 23) (nI A.2.2.1.length) (nI A.2.2.2.length) (I 150 2) wh))) (mk w p r (u2 I 150 0 0) L) := h _
  generalize hH : u2 I 150 0 0 = H at hA e2 h ⊢
  rw [← e2] at h
  refine Wf.gc tkX7_size [] ?_
  conv => whnf
  refine ⟨fun z => ?_, fun z => ?_⟩
  · have z12 : ¬ wh = 12 := z
    have h14 : H 150 14 = 1 := hA.1
    conv => whnf
    refine b1 (by show ¬ H 150 14 = 0; rw [h14]; decide) ?_
    conv => whnf
    refine y_in (fun y1 y2 => ?_) (fun y => ?_)
    · obtain ⟨k, hk, ek⟩ := (in_ix (N := 9) (f := wh) (by decide)).mp ⟨y1, y2⟩
      unfold szv at h
      rw [ek, ixO_some (show k < 13 by omega) (by decide)] at h
      have h : kr (some (.int (if k = 12 then H 150 2 else if k = 9 then A.2.1 23 else if k = 10 then nI A.2.2.1.length else if k = 11 then nI A.2.2.2.length else nI (A.1.1 k)))) (mk w p r H L) := h
      rw [if_neg (by omega), if_neg (by omega), if_neg (by omega), if_neg (by omega), ← hA.2.1.1 k (by omega) (by omega)] at h
      conv => whnf
      refine b2' (by decide) ?_
      conv => whnf
      rw [ek]
      refine ⟨k, ⟨rfl, by omega, show k < 202 by omega⟩, ?_⟩
      conv => whnf
      exact h
    · rw [show (8 : Int32) = nI 9 - 1 from rfl] at y
      rw [in_ix (N := 9) (by decide)] at y
      conv => whnf
      refine b1' rfl ?_
      conv => whnf
      refine ⟨fun z9 => ?_, fun z9 => ?_⟩
      · have z9 : ¬ wh = 9 := z9
        conv => whnf
        refine ⟨fun z10 => ?_, fun z10 => ?_⟩
        · have z10 : ¬ wh = 10 := z10
          conv => whnf
          refine ⟨fun z11 => ?_, fun z11 => ?_⟩
          · have z11 : ¬ wh = 11 := z11
            have no : ¬ ∃ j, j < 13 ∧ wh = nI j := by
              rintro ⟨j, hj, e⟩
              rcases (show j < 9 ∨ j = 9 ∨ j = 10 ∨ j = 11 ∨ j = 12 by omega) with q | q | q | q | q
              · exact y ⟨j, q, e⟩
              · exact z9 (by rw [e, q]; rfl)
              · exact z10 (by rw [e, q]; rfl)
              · exact z11 (by rw [e, q]; rfl)
              · exact z12 (by rw [e, q]; rfl)
            unfold szv at h
            rw [show ixO 13 wh = none from ixO_none (by omega) no] at h
            conv => whnf
            exact h
          · have z11 : wh = 11 := z11
            subst z11
            have h : kr (some (.int (nI A.2.2.2.length))) (mk w p r H L) := h
            rw [← hA.2.2.2.2.2.2.1] at h
            conv => whnf
            exact h
        · have z10 : wh = 10 := z10
          subst z10
          have h : kr (some (.int (nI A.2.2.1.length))) (mk w p r H L) := h
          rw [← hA.2.2.2.2.1] at h
          conv => whnf
          exact h
      · have z9 : wh = 9 := z9
        subst z9
        have h : kr (some (.int (A.2.1 23))) (mk w p r H L) := h
        rw [← hA.2.2.2.1 23 (by decide)] at h
        conv => whnf
        refine ⟨23, ⟨rfl, by decide, show 23 < 25 by decide⟩, ?_⟩
        conv => whnf
        exact h
  · have z : wh = 12 := z
    subst z
    have h : kr (some (.int (H 150 2))) (mk w p r H L) := h
    conv => whnf
    exact h
set_option maxRecDepth 20000 in
theorem y_size0 {wh : Int32} (hA0 : NC7 I) (h : ∀ I', kr (some (.int (vSize none (I 150 2) wh))) (mk w p r I' L)) : Ev l X uX7_size (d + 1) true 0 0 [.ref 150, .int wh] (mk w p r I L) kr := by
  refine Ev.of (by decide) (Nat.le_of_ble_eq_true rfl) ?_
  refine Wf.gc tkX7_size [5] ?_
  have h14 : u2 I 150 0 0 150 14 = 0 := (u2_o (by decide)).trans hA0.1
  have e2 : u2 I 150 0 0 150 2 = I 150 2 := u2_o (by decide)
  conv => whnf
  show Wf l X uX7_size (d + 1) true (mC (mk w p r I L) + 0, mS (mk w p r I L) + 0) 5 [(0, .ref 150), (1, .int wh)] [] (mk w p r (u2 I 150 0 0) L) kr
  have h : kr (some (.int (szv F00 0 0 0 (I 150 2) wh))) (mk w p r (u2 I 150 0 0) L) := h _
  generalize hH : u2 I 150 0 0 = H at h14 e2 h ⊢
  rw [← e2] at h
  refine Wf.gc tkX7_size [] ?_
  conv => whnf
  refine ⟨fun z => ?_, fun z => ?_⟩
  · have z12 : ¬ wh = 12 := z
    conv => whnf
    refine b2 (fun z => z h14) ?_
    conv => whnf
    refine y_in (fun y1 y2 => ?_) (fun y => ?_)
    · obtain ⟨k, hk, ek⟩ := (in_ix (N := 12) (f := wh) (by decide)).mp ⟨y1, y2⟩
      have e0 : szv F00 0 0 0 (H 150 2) wh = 0 := by
        unfold szv
        rw [ek, ixO_some (show k < 13 by omega) (by decide)]
        show (if k = 12 then H 150 2 else if k = 9 then (0 : Int32) else if k = 10 then 0 else if k = 11 then 0 else nI (F00 k)) = 0
        rw [if_neg (by omega)]
        split
        · rfl
        · split
          · rfl
          · split <;> rfl
      rw [e0] at h
      conv => whnf
      refine b2' (by decide) ?_
      conv => whnf
      exact h
    · rw [show (11 : Int32) = nI 12 - 1 from rfl] at y
      rw [in_ix (N := 12) (by decide)] at y
      have no : ¬ ∃ j, j < 13 ∧ wh = nI j := by
        rintro ⟨j, hj, e⟩
        rcases (show j < 12 ∨ j = 12 by omega) with q | q
        · exact y ⟨j, q, e⟩
        · exact z12 (by rw [e, q]; rfl)
      unfold szv at h
      rw [show ixO 13 wh = none from ixO_none (by omega) no] at h
      conv => whnf
      refine b1' rfl ?_
      conv => whnf
      exact h
  · have z : wh = 12 := z
    subst z
    have h : kr (some (.int (H 150 2))) (mk w p r H L) := h
    conv => whnf
    exact h
def SVt (t : Nat) (o : Ost) (M : Mm) : Prop := SV o M ∧ mI M 2 1 = nI t ∧ mI M 150 2 = nI t
theorem j6_size (d : Nat) {wh : Int32} (hL : LX M) (hv : SVt t o M) (h : ∀ M', LX M' → M'.1 = M.1 → SVt t o M' → kr (some (.int (vSize o (nI t) wh))) M') : Ev l X uX6_size (d + 12) true 0 0 [.ref 1, .int wh] M kr := by
  obtain ⟨hv, h6, h7⟩ := hv
  refine j_ans hL.1.1 (fun k h => p6_size d hL.li h) ?_ (fun M' h1 h2 h3 => h M' (LX_k hL h1 h2 h3 (by decide +kernel)) h2 ⟨SV_k hL.iv hv h3 (by decide +kernel), by rw [(h3 2 1 rfl).1]; exact h6, by rw [(h3 150 2 rfl).1]; exact h7⟩)
  have hp := Iv_p hL.iv
  cases o with
  | none =>
    obtain ⟨a1, a2, a3, a4⟩ := hv.2.1
    refine x_size (d := d + 10) (F := F00) (W := 0) hp a1 (fun j => by show (0 : Nat) < 1000; decide) (by decide) rfl ?_
    rw [a2, a3, a4, h6]
    rfl
  | some A =>
    have hA : AS6 A (mR M 1 1) (mI M) := hv.2.1
    have hR : RA A := hv.1
    refine x_size (d := d + 10) (F := A.1.1) (W := A.1.2.1) hp hA.1 hR.1.1.1.1.2.1 (Bp_of hR.1.1.1.2 hR.1.1.1.1.1.2.2.1) hR.1.1.2 ?_
    rw [hA.2.1.2.2.1, hA.2.2.2.1, hA.2.2.2.2.1, h6]
    rfl
theorem j7_size (d : Nat) {wh : Int32} (hL : LX M) (hv : SVt t o M) (h : ∀ M', LX M' → M'.1 = M.1 → SVt t o M' → kr (some (.int (vSize o (nI t) wh))) M') : Ev l X uX7_size (d + 12) true 0 0 [.ref 150, .int wh] M kr := by
  obtain ⟨hv, h6, h7⟩ := hv
  refine j_ans hL.1.1 (fun k h => p7_size d hL.li h) ?_ (fun M' h1 h2 h3 => h M' (LX_k hL h1 h2 h3 (by decide +kernel)) h2 ⟨SV_k hL.iv hv h3 (by decide +kernel), by rw [(h3 2 1 rfl).1]; exact h6, by rw [(h3 150 2 rfl).1]; exact h7⟩)
  cases o with
  | none => exact y_size0 (d := d + 11) hv.2.2 (fun I' => by show some (Value.int (vSize none (mI M 150 2) wh)) = _; rw [h7])
  | some A => exact y_size (d := d + 11) hv.1 hv.2.2 (fun I' => by show some (Value.int (vSize (some A) (mI M 150 2) wh)) = _; rw [h7])
end SIZ2
