/-! the acts of both sides over the law's states -/
section JAC
variable {l : Launch} {X : Nat × (Nat → Int32)} {kr : KR} {M : Mm} {o o' : Ost}
/-- between the two calls of an act -/
def SW (o o' : Ost) (M : Mm) : Prop := (RO o ∧ RO o') ∧ BS6 o' (mR M 1 1) (mI M) ∧ BS7 o (mI M)
theorem jA6 {q : Md} {dd : Nat} {av : List Value} {ms : Md3} {v : Int32} (hL : LQ M) (hR : RO o) (hR' : RO o') (h7 : BS7 o (mI M)) (A : ∀ k : KR, (∀ (x : Int32) (M' : Mm), LI M' → M'.1 = M.1 → kp ms M M' → k (some (.int x)) M') → Ev l X q dd true 0 0 av M k) (B : Ev l X q dd true 0 0 av (ffm M) (fun r M'' => r = some (.int v) ∧ BS6 o' (mR M 1 1) (mI M''))) (ho : (okm okS okN ms && ok7 ms) = true) (h : ∀ M', LQ M' → M'.1 = M.1 → SW o o' M' → kr (some (.int v)) M') : Ev l X q dd true 0 0 av M kr := by
  have A' := A (fun r M' => ∃ x : Int32, r = some (.int x) ∧ (LI M' ∧ M'.1 = M.1 ∧ kp ms M M')) (fun x M' h1 h2 h3 => ⟨x, rfl, h1, h2, h3⟩)
  have B' : Ev l X q dd true 0 0 av M (fun r M'' => ∃ x : Int32, r = some (.int x) ∧ (x = v ∧ BS6 o' (mR M 1 1) (mI M''))) := Ev.ofm hL.1.1 hL.1.2.2 (Ev.imp B (fun r M' e => ⟨v, e.1, rfl, e.2⟩))
  refine Ev.imp (Ev.both A' B') ?_
  rintro r M' ⟨x, rfl, ⟨a1, a2, a3⟩, M'', ⟨rfl, b1⟩, b2, b3⟩
  obtain ⟨o1, o2⟩ := andT ho
  have hN : mN M' = 167 := (congrArg (fun x => x.1) a2).trans hL.1.2.2.1
  refine h M' (LQ_k hL a1 a2 a3 o1) a2 ⟨⟨hR, hR'⟩, ?_, BS7_k hR h7 a3 o2⟩
  rw [(a3 1 1 (okm_s o1 (by decide))).2.1]
  exact BS6_cg (Iv_p hL.1.1) hR' b1 (fun a k y1 y2 => ag_I a1.1 hN b3 (by unfold pl6 at y2; omega) (by unfold pl6 at y2; omega) y1)
theorem jA7 {q : Md} {dd : Nat} {av : List Value} {ms : Md3} {v : Int32} (hL : LQ M) (hv : SW o o' M) (A : ∀ k : KR, (∀ (x : Int32) (M' : Mm), LI M' → M'.1 = M.1 → kp ms M M' → k (some (.int x)) M') → Ev l X q dd true 0 0 av M k) (B : Ev l X q dd true 0 0 av (ffm M) (fun r M'' => r = some (.int v) ∧ BS7 o' (mI M''))) (ho : (okm okS okN ms && ok6 ms) = true) (h : ∀ M', LQ M' → M'.1 = M.1 → SV o' M' → kr (some (.int v)) M') : Ev l X q dd true 0 0 av M kr := by
  have A' := A (fun r M' => ∃ x : Int32, r = some (.int x) ∧ (LI M' ∧ M'.1 = M.1 ∧ kp ms M M')) (fun x M' h1 h2 h3 => ⟨x, rfl, h1, h2, h3⟩)
  have B' : Ev l X q dd true 0 0 av M (fun r M'' => ∃ x : Int32, r = some (.int x) ∧ (x = v ∧ BS7 o' (mI M''))) := Ev.ofm hL.1.1 hL.1.2.2 (Ev.imp B (fun r M' e => ⟨v, e.1, rfl, e.2⟩))
  refine Ev.imp (Ev.both A' B') ?_
  rintro r M' ⟨x, rfl, ⟨a1, a2, a3⟩, M'', ⟨rfl, b1⟩, b2, b3⟩
  obtain ⟨o1, o2⟩ := andT ho
  have hN : mN M' = 167 := (congrArg (fun x => x.1) a2).trans hL.1.2.2.1
  refine h M' (LQ_k hL a1 a2 a3 o1) a2 ⟨hv.1.2, BS6_k (Iv_p hL.1.1) hv.1.2 hv.2.1 a3 o2, ?_⟩
  exact BS7_cg hv.1.2 b1 (fun a k y1 y2 => ag_I a1.1 hN b3 (by unfold pl7 at y2; omega) (by unfold pl7 at y2; omega) y1)
theorem j6_give (d : Nat) {c f : Int32} (hL : LQ M) (hv : SV o M) (h : ∀ M', LQ M' → M'.1 = M.1 → SW o (lft (fun A => aGive A c f) (-1) o).2 M' → kr (some (.int (lft (fun A => aGive A c f) (-1) o).1)) M') : Ev l X uX6_give (d + 12) true 0 0 [.ref 1, .int c, .int f] M kr := by
  refine jA6 hL hv.1 (RO_l (fun A hA => RA_give hA) hv.1) hv.2.2 (fun k h => p6_give d hL.li h) ?_ (by decide +kernel) h
  have hp := Iv_p hL.1.1
  cases o with
  | none => exact x_give0 (d := d + 8) hp hv.2.1 (fun I' q => ⟨rfl, q⟩)
  | some A => exact x_give (d := d + 8) hp hv.1 hv.2.1 (fun I' q => ⟨rfl, q⟩)
theorem j7_give (d : Nat) {c f : Int32} (hL : LQ M) (hv : SW o (lft (fun A => aGive A c f) (-1) o).2 M) (h : ∀ M', LQ M' → M'.1 = M.1 → SV (lft (fun A => aGive A c f) (-1) o).2 M' → kr (some (.int (lft (fun A => aGive A c f) (-1) o).1)) M') : Ev l X uX7_give (d + 12) true 0 0 [.ref 150, .int c, .int f] M kr := by
  refine jA7 hL hv (fun k h => p7_give d hL.li h) ?_ (by decide +kernel) h
  cases o with
  | none => exact y_give0 (d := d + 9) hv.2.2 (fun I' q => ⟨rfl, q⟩)
  | some A => exact y_give (d := d + 9) hv.1.1 hv.2.2 (fun I' q => ⟨rfl, q⟩)
theorem j6_mend (d : Nat) {f : Int32} (hL : LQ M) (hv : SV o M) (h : ∀ M', LQ M' → M'.1 = M.1 → SW o (lft (fun A => aMend A f) 0 o).2 M' → kr (some (.int (lft (fun A => aMend A f) 0 o).1)) M') : Ev l X uX6_mend (d + 12) true 0 0 [.ref 1, .int f] M kr := by
  refine jA6 hL hv.1 (RO_l (fun A hA => RA_mend hA) hv.1) hv.2.2 (fun k h => p6_mend d hL.li h) ?_ (by decide +kernel) h
  have hp := Iv_p hL.1.1
  cases o with
  | none => exact x_mend0 (d := d + 8) hp hv.2.1 (fun I' q => ⟨rfl, q⟩)
  | some A => exact x_mend (d := d + 8) hp hv.1 hv.2.1 (fun I' q => ⟨rfl, q⟩)
theorem j7_mend (d : Nat) {f : Int32} (hL : LQ M) (hv : SW o (lft (fun A => aMend A f) 0 o).2 M) (h : ∀ M', LQ M' → M'.1 = M.1 → SV (lft (fun A => aMend A f) 0 o).2 M' → kr (some (.int (lft (fun A => aMend A f) 0 o).1)) M') : Ev l X uX7_mend (d + 12) true 0 0 [.ref 150, .int f] M kr := by
  refine jA7 hL hv (fun k h => p7_mend d hL.li h) ?_ (by decide +kernel) h
  cases o with
  | none => exact y_mend0 (d := d + 9) hv.2.2 (fun I' q => ⟨rfl, q⟩)
  | some A => exact y_mend (d := d + 9) hv.1.1 hv.2.2 (fun I' q => ⟨rfl, q⟩)
theorem j6_vex (d : Nat) {f m : Int32} (hL : LQ M) (hv : SV o M) (h : ∀ M', LQ M' → M'.1 = M.1 → SW o (lft (fun A => aVex A f m) (-1) o).2 M' → kr (some (.int (lft (fun A => aVex A f m) (-1) o).1)) M') : Ev l X uX6_vex (d + 12) true 0 0 [.ref 1, .int f, .int m] M kr := by
  refine jA6 hL hv.1 (RO_l (fun A hA => RA_vex hA) hv.1) hv.2.2 (fun k h => p6_vex d hL.li h) ?_ (by decide +kernel) h
  have hp := Iv_p hL.1.1
  cases o with
  | none => exact x_vex0 (d := d + 8) hp hv.2.1 (fun I' q => ⟨rfl, q⟩)
  | some A => exact x_vex (d := d + 8) hp hv.1 hv.2.1 (fun I' q => ⟨rfl, q⟩)
theorem j7_vex (d : Nat) {f m : Int32} (hL : LQ M) (hv : SW o (lft (fun A => aVex A f m) (-1) o).2 M) (h : ∀ M', LQ M' → M'.1 = M.1 → SV (lft (fun A => aVex A f m) (-1) o).2 M' → kr (some (.int (lft (fun A => aVex A f m) (-1) o).1)) M') : Ev l X uX7_vex (d + 12) true 0 0 [.ref 150, .int f, .int m] M kr := by
  refine jA7 hL hv (fun k h => p7_vex d hL.li h) ?_ (by decide +kernel) h
  cases o with
  | none => exact y_vex0 (d := d + 9) hv.2.2 (fun I' q => ⟨rfl, q⟩)
  | some A => exact y_vex (d := d + 9) hv.1.1 hv.2.2 (fun I' q => ⟨rfl, q⟩)
theorem j6_undo (d : Nat) (hL : LQ M) (hv : SV o M) (h : ∀ M', LQ M' → M'.1 = M.1 → SW o (lft (fun A => aUndo A) 0 o).2 M' → kr (some (.int (lft (fun A => aUndo A) 0 o).1)) M') : Ev l X uX6_undo (d + 12) true 0 0 [.ref 1] M kr := by
  refine jA6 hL hv.1 (RO_l (fun A hA => RA_undo hA) hv.1) hv.2.2 (fun k h => p6_undo d hL.li h) ?_ (by decide +kernel) h
  have hp := Iv_p hL.1.1
  cases o with
  | none => exact x_undo0 (d := d + 10) hp hv.2.1 (fun I' q => ⟨rfl, q⟩)
  | some A => exact x_undo (d := d + 10) hp hv.1 hv.2.1 (fun I' q => ⟨rfl, q⟩)
theorem j7_undo (d : Nat) (hL : LQ M) (hv : SW o (lft (fun A => aUndo A) 0 o).2 M) (h : ∀ M', LQ M' → M'.1 = M.1 → SV (lft (fun A => aUndo A) 0 o).2 M' → kr (some (.int (lft (fun A => aUndo A) 0 o).1)) M') : Ev l X uX7_undo (d + 12) true 0 0 [.ref 150] M kr := by
  refine jA7 hL hv (fun k h => p7_undo d hL.li h) ?_ (by decide +kernel) h
  cases o with
  | none => exact y_undo0 (d := d + 11) hv.2.2 (fun I' q => ⟨rfl, q⟩)
  | some A => exact y_undo (d := d + 11) hv.1.1 hv.2.2 (fun I' q => ⟨rfl, q⟩)
theorem j6_image (d : Nat) (hL : LQ M) (hv : SV o M) (h : ∀ M', LQ M' → M'.1 = M.1 → SW o (lft (fun A => aImage A) (-1) o).2 M' → kr (some (.int (lft (fun A => aImage A) (-1) o).1)) M') : Ev l X uX6_image (d + 12) true 0 0 [.ref 1] M kr := by
  refine jA6 hL hv.1 (RO_l (fun A hA => RA_image hA) hv.1) hv.2.2 (fun k h => p6_image d hL.li h) ?_ (by decide +kernel) h
  have hp := Iv_p hL.1.1
  cases o with
  | none => exact x_image0 (d := d + 10) hp hv.2.1 (fun I' q => ⟨rfl, q⟩)
  | some A => exact x_image (d := d + 10) hp hv.1 hv.2.1 (fun I' q => ⟨rfl, q⟩)
theorem j7_image (d : Nat) (hL : LQ M) (hv : SW o (lft (fun A => aImage A) (-1) o).2 M) (h : ∀ M', LQ M' → M'.1 = M.1 → SV (lft (fun A => aImage A) (-1) o).2 M' → kr (some (.int (lft (fun A => aImage A) (-1) o).1)) M') : Ev l X uX7_image (d + 12) true 0 0 [.ref 150] M kr := by
  refine jA7 hL hv (fun k h => p7_image d hL.li h) ?_ (by decide +kernel) h
  cases o with
  | none => exact y_image0 (d := d + 11) hv.2.2 (fun I' q => ⟨rfl, q⟩)
  | some A => exact y_image (d := d + 11) hv.1.1 hv.2.2 (fun I' q => ⟨rfl, q⟩)
theorem j6_back (d : Nat) {i : Int32} (hL : LQ M) (hv : SV o M) (h : ∀ M', LQ M' → M'.1 = M.1 → SW o (lft (fun A => aBack A i) 0 o).2 M' → kr (some (.int (lft (fun A => aBack A i) 0 o).1)) M') : Ev l X uX6_back (d + 12) true 0 0 [.ref 1, .int i] M kr := by
  refine jA6 hL hv.1 (RO_l (fun A hA => RA_back hA) hv.1) hv.2.2 (fun k h => p6_back d hL.li h) ?_ (by decide +kernel) h
  have hp := Iv_p hL.1.1
  cases o with
  | none => exact x_back0 (d := d + 10) hp hv.2.1 (fun I' q => ⟨rfl, q⟩)
  | some A => exact x_back (d := d + 10) hp hv.1 hv.2.1 (fun I' q => ⟨rfl, q⟩)
theorem j7_back (d : Nat) {i : Int32} (hL : LQ M) (hv : SW o (lft (fun A => aBack A i) 0 o).2 M) (h : ∀ M', LQ M' → M'.1 = M.1 → SV (lft (fun A => aBack A i) 0 o).2 M' → kr (some (.int (lft (fun A => aBack A i) 0 o).1)) M') : Ev l X uX7_back (d + 12) true 0 0 [.ref 150, .int i] M kr := by
  refine jA7 hL hv (fun k h => p7_back d hL.li h) ?_ (by decide +kernel) h
  cases o with
  | none => exact y_back0 (d := d + 11) hv.2.2 (fun I' q => ⟨rfl, q⟩)
  | some A => exact y_back (d := d + 11) hv.1.1 hv.2.2 (fun I' q => ⟨rfl, q⟩)
theorem j6_day (d : Nat) (hL : LQ M) (hv : SV o M) (h : ∀ M', LQ M' → M'.1 = M.1 → SW o (lft (fun A => aDay A) (-1) o).2 M' → kr (some (.int (lft (fun A => aDay A) (-1) o).1)) M') : Ev l X uX6_day (d + 12) true 0 0 [.ref 1] M kr := by
  refine jA6 hL hv.1 (RO_l (fun A hA => RA_day hA) hv.1) hv.2.2 (fun k h => p6_day d hL.li h) ?_ (by decide +kernel) h
  have hp := Iv_p hL.1.1
  cases o with
  | none => exact x_day0 (d := d + 8) hp hv.2.1 (fun I' q => ⟨rfl, q⟩)
  | some A => exact x_day (d := d + 8) hp hv.1 hv.2.1 (fun I' q => ⟨rfl, q⟩)
theorem j7_day (d : Nat) (hL : LQ M) (hv : SW o (lft (fun A => aDay A) (-1) o).2 M) (h : ∀ M', LQ M' → M'.1 = M.1 → SV (lft (fun A => aDay A) (-1) o).2 M' → kr (some (.int (lft (fun A => aDay A) (-1) o).1)) M') : Ev l X uX7_day (d + 12) true 0 0 [.ref 150] M kr := by
  refine jA7 hL hv (fun k h => p7_day d hL.li h) ?_ (by decide +kernel) h
  cases o with
  | none => exact y_day0 (d := d + 9) hv.2.2 (fun I' q => ⟨rfl, q⟩)
  | some A => exact y_day (d := d + 9) hv.1.1 hv.2.2 (fun I' q => ⟨rfl, q⟩)
end JAC
