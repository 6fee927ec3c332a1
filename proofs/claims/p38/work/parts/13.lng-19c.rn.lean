section
/-! the class's greatest divisor, the reference's lowest terms -/
theorem gbs_L2 {av : List Value} {a1 a2 b1 b2 : Int} {n1 n2 : List Nat} (h : gbs av [(1, a1, b1, n1), (1, a2, b2, n2)]) : ∃ x y : Int64, av = [.long x, .long y] := by
  match av, h with
  | [], h => exact h.elim
  | [v], h => exact h.2.elim
  | v :: w :: z :: t, h => exact h.2.2.elim
  | [v, w], h =>
    obtain ⟨h1, h2, -⟩ := h
    cases v with
    | long x =>
      cases w with
      | long y => exact ⟨x, y, rfl⟩
      | int y => have := h2.1; cases this
      | ref y => have := h2.1; cases this
      | _ => exact h2.elim
    | int y => have := h1.1; cases this
    | ref y => have := h1.1; cases this
    | _ => exact h1.elim
section LNG
variable {l : Launch} {X : Nat × (Nat → Int32)} {d : Nat} {M : Mm} {kr : KR}
set_option maxRecDepth 20000 in
theorem k_max1 {y : Int64} (h : ∀ r : Int64, 1 ≤ r.toInt → kr (some (.long r)) M) : Ev l X uJ9_max_f86c9 d true 0 0 [.long 1, .long y] M kr := by
  refine Ev.ofF (by decide +kernel) (Nat.le_of_ble_eq_true rfl) ?_
  refine Wf.sLl tkJ9_max_f86c9 rfl rfl ?_
  refine Wf.sLl tkJ9_max_f86c9 rfl rfl ?_
  refine Wf.slcmp tkJ9_max_f86c9 rfl ?_
  refine Wf.sIf tkJ9_max_f86c9 rfl (fun w => ?_) (fun _ => ?_)
  · refine Wf.sLl tkJ9_max_f86c9 rfl rfl ?_
    refine Wf.sLr tkJ9_max_f86c9 rfl (h y ?_)
    have w2 := Int64.lt_iff_toInt_lt.mp ((lg_cmp_lt 1 y).mp w)
    have e1 : (1 : Int64).toInt = 1 := rfl
    omega
  · refine Wf.sLl tkJ9_max_f86c9 rfl rfl ?_
    refine Wf.sGo tkJ9_max_f86c9 rfl ?_
    exact Wf.sLr tkJ9_max_f86c9 rfl (h 1 (by decide))
set_option maxRecDepth 20000 in
theorem gd_end {b : Nat × Nat} {high : Int64} {ls : Ls} (hl : lg ls 4 = some (.long high)) (h : ∀ r : Int64, 1 ≤ r.toInt → kr (some (.long r)) M) : Wf l X uX6_greatestDivisor (d + 1) true b 45 ls [] M kr := by
  refine Wf.sLc tkX6_greatestDivisor rfl ?_
  refine Wf.sLl tkX6_greatestDivisor rfl hl ?_
  refine Wf.sCs tkX6_greatestDivisor rfl rfl rfl ?_
  refine k_max1 (fun r hr => ?_)
  exact Wf.sLr tkX6_greatestDivisor rfl (h r hr)
set_option maxRecDepth 20000 in
theorem gd_loop {b : Nat × Nat} {a0 b0 : Int64} (h : ∀ r : Int64, 1 ≤ r.toInt → kr (some (.long r)) M) : ∀ t, t ≤ 200 → ∀ high low : Int64, Wf l X uX6_greatestDivisor (d + 1) true b 9 [(0, .long a0), (2, .long b0), (4, .long high), (6, .long low), (8, .int (nI t))] [] M kr := by
  refine dwn _ 200 ?_ ?_
  · intro high low
    refine Wf.sIl tkX6_greatestDivisor rfl rfl ?_
    refine Wf.sIc tkX6_greatestDivisor rfl ?_
    exact Wf.sCm tkX6_greatestDivisor rfl (fun _ => gd_end rfl h) (fun w => absurd (show (200 : Int32) ≤ nI 200 by decide) w)
  · intro t ht ih high low
    refine Wf.sIl tkX6_greatestDivisor rfl rfl ?_
    refine Wf.sIc tkX6_greatestDivisor rfl ?_
    refine Wf.sCm tkX6_greatestDivisor rfl (fun _ => gd_end rfl h) (fun _ => ?_)
    refine Wf.sLl tkX6_greatestDivisor rfl rfl ?_
    refine Wf.sLc tkX6_greatestDivisor rfl ?_
    refine Wf.slcmp tkX6_greatestDivisor rfl ?_
    refine Wf.sIf tkX6_greatestDivisor rfl (fun _ => gd_end rfl h) (fun w => ?_)
    refine Wf.sLl tkX6_greatestDivisor rfl rfl ?_
    refine Wf.sLl tkX6_greatestDivisor rfl rfl ?_
    refine Wf.sL2d tkX6_greatestDivisor rfl (fun z => w ((lg_cmp_eq low 0).mpr z)) ?_
    refine Wf.sLs tkX6_greatestDivisor rfl rfl ?_
    refine Wf.sLl tkX6_greatestDivisor rfl rfl ?_
    refine Wf.sLs tkX6_greatestDivisor rfl rfl ?_
    refine Wf.sLl tkX6_greatestDivisor rfl rfl ?_
    refine Wf.sLs tkX6_greatestDivisor rfl rfl ?_
    refine Wf.sInc tkX6_greatestDivisor rfl rfl rfl ?_
    refine Wf.sGo tkX6_greatestDivisor rfl ?_
    refine Wf.keep [0, 2, 4, 6, 8] ?_
    have := ih low (high - high / low * low)
    rw [← nI_1] at this
    exact this
set_option maxRecDepth 20000 in
theorem vh_gd {P : Pk} {e : Int} (d : Nat) : Vc l X U0 P e (d + 1) ((144, [(1, lLo, lHi, []), (1, lLo, lHi, [])], []), [], [(some (1, 1, lHi, []), [], [])]) := by
  intro av M kr hI he hb hf hr
  obtain ⟨x, y, rfl⟩ := gbs_L2 hb
  have hk : ∀ r : Int64, 1 ≤ r.toInt → kr (some (.long r)) M := fun r h => hr _ M (Jv.rf hI he) ⟨_, List.mem_singleton.mpr rfl, ⟨rfl, h, i64_hi r⟩, fun x hx => absurd hx List.not_mem_nil, fun x hx => absurd hx List.not_mem_nil⟩
  show Ev l X uX6_greatestDivisor (d + 1) true 0 0 _ M kr
  refine Ev.of (by decide) (Nat.le_of_ble_eq_true rfl) ?_
  refine Wf.sLl tkX6_greatestDivisor rfl rfl ?_
  refine Wf.sLs tkX6_greatestDivisor rfl rfl ?_
  refine Wf.sLl tkX6_greatestDivisor rfl rfl ?_
  refine Wf.sLs tkX6_greatestDivisor rfl rfl ?_
  refine Wf.sIc tkX6_greatestDivisor rfl ?_
  refine Wf.sIs tkX6_greatestDivisor rfl rfl ?_
  exact gd_loop hk 0 (by decide) x y
theorem rem64 {x y : Int64} (hy : ¬ y = 0) : (x - x / y * y).toInt = x.toInt.tmod y.toInt := by
  have hy2 : y.toInt ≠ 0 := fun z => hy (Int64.toInt_inj.mp (z.trans (show (0 : Int) = (0 : Int64).toInt from rfl)))
  rw [Int64.toInt_sub, Int64.toInt_mul, Int64.toInt_div]
  rw [Int.bmod_mul_bmod, Int.sub_bmod_bmod]
  have e := Int.tmod_def x.toInt y.toInt
  rw [Int.mul_comm] at e
  rw [← e]
  have h1 := i64_lo x
  have h2 := i64_hi x
  unfold lLo at h1
  unfold lHi at h2
  have h3 : (x.toInt.tmod y.toInt).natAbs < y.toInt.natAbs := by
    rw [Int.natAbs_tmod]
    exact Nat.mod_lt _ (Int.natAbs_pos.mpr hy2)
  have h4 := i64_lo y
  have h5 := i64_hi y
  unfold lLo at h4
  unfold lHi at h5
  exact Int.bmod_eq_of_le (by omega) (by omega)
theorem gbs_LLI {av : List Value} {a1 b1 a2 b2 a3 b3 : Int} {n1 n2 n3 : List Nat} (h : gbs av [(1, a1, b1, n1), (1, a2, b2, n2), (0, a3, b3, n3)]) : ∃ (x y : Int64) (z : Int32), av = [.long x, .long y, .int z] ∧ a2 ≤ y.toInt ∧ y.toInt ≤ b2 := by
  match av, h with
  | [], h => exact h.elim
  | [v], h => exact h.2.elim
  | [v, w], h => exact h.2.2.elim
  | v :: w :: z :: y :: t, h => exact h.2.2.2.elim
  | [v, w, z], h =>
    obtain ⟨h1, h2, h3, -⟩ := h
    cases v with
    | long x =>
      cases w with
      | long y =>
        cases z with
        | int z => exact ⟨x, y, z, rfl, h2.2⟩
        | long y => have := h3.1; cases this
        | ref y => have := h3.1; cases this
        | _ => exact h3.elim
      | int y => have := h2.1; cases this
      | ref y => have := h2.1; cases this
      | _ => exact h2.elim
    | int y => have := h1.1; cases this
    | ref y => have := h1.1; cases this
    | _ => exact h1.elim
set_option maxRecDepth 20000 in
theorem lw_loop {b : Nat × Nat} {up down : Int64} {lw : Int32} (h : ∀ r : Int64, kr (some (.long r)) M) : ∀ (n : Nat) (x y : Int64) (zs : Ls), y.toInt.natAbs < n → ¬ x = 0 → (zs = [] ∨ ∃ z : Int64, zs = [(9, .long z)]) → Wf l X uX7_lowest d true b 6 ([(0, .long up), (2, .long down), (4, .int lw), (5, .long x), (7, .long y)] ++ zs) [] M kr := by
  intro n
  induction n with
  | zero => intro x y zs hn; exact absurd hn (Nat.not_lt_zero _)
  | succ n ih =>
    intro x y zs hn hx hz
    refine Wf.keep [0, 2, 4, 5, 7] ?_
    have hk : lk ([(0, .long up), (2, .long down), (4, .int lw), (5, .long x), (7, .long y)] ++ zs) [0, 2, 4, 5, 7] = [(0, Value.long up), (2, .long down), (4, .int lw), (5, .long x), (7, .long y)] := by
      rcases hz with rfl | ⟨z, rfl⟩ <;> rfl
    rw [hk]
    refine Wf.sLl tkX7_lowest rfl rfl ?_
    refine Wf.sLc tkX7_lowest rfl ?_
    refine Wf.slcmp tkX7_lowest rfl ?_
    refine Wf.sIf tkX7_lowest rfl (fun _ => ?_) (fun w => ?_)
    · refine Wf.sIl tkX7_lowest rfl rfl ?_
      refine Wf.sIf tkX7_lowest rfl (fun _ => ?_) (fun _ => ?_)
      · refine Wf.sLl tkX7_lowest rfl rfl ?_
        refine Wf.sLl tkX7_lowest rfl rfl ?_
        refine Wf.sL2d tkX7_lowest rfl hx ?_
        exact Wf.sLr tkX7_lowest rfl (h _)
      · refine Wf.sLl tkX7_lowest rfl rfl ?_
        refine Wf.sGo tkX7_lowest rfl ?_
        refine Wf.sLl tkX7_lowest rfl rfl ?_
        refine Wf.sL2d tkX7_lowest rfl hx ?_
        exact Wf.sLr tkX7_lowest rfl (h _)
    · have hy : ¬ y = 0 := fun z => w ((lg_cmp_eq y 0).mpr z)
      have hy2 : y.toInt ≠ 0 := fun z => hy (Int64.toInt_inj.mp (z.trans (show (0 : Int) = (0 : Int64).toInt from rfl)))
      refine Wf.sLl tkX7_lowest rfl rfl ?_
      refine Wf.sLl tkX7_lowest rfl rfl ?_
      refine Wf.sL2d tkX7_lowest rfl hy ?_
      refine Wf.sLs tkX7_lowest rfl rfl ?_
      refine Wf.sLl tkX7_lowest rfl rfl ?_
      refine Wf.sLs tkX7_lowest rfl rfl ?_
      refine Wf.sLl tkX7_lowest rfl rfl ?_
      refine Wf.sLs tkX7_lowest rfl rfl ?_
      refine Wf.sGo tkX7_lowest rfl ?_
      refine ih y (x - x / y * y) [(9, .long (x - x / y * y))] ?_ hy (Or.inr ⟨_, rfl⟩)
      rw [rem64 hy, Int.natAbs_tmod]
      have := Nat.mod_lt x.toInt.natAbs (Int.natAbs_pos.mpr hy2)
      omega
end LNG
end
section
/-! String constants: their length, their letters, as the JDK's own code -/
section STR
variable {l : Launch} {X : Nat × (Nat → Int32)} {q : Md} {d : Nat} {na : Bool} {b : Nat × Nat} {pc : Nat}
noncomputable def rS (a : Nat) : Prop := 5000 ≤ a ∧ a < 5042
noncomputable def rT (a : Nat) : Prop := 5100 ≤ a ∧ a < 5142
/-- getfield value, coder; their byte arrays are the names 5100 + i -/
noncomputable def oGsv (pc : Nat) : OP := fun kn _ ls st M => match st with
  | .ref a :: st => rS a ∧ kn (pc + 3) ls (.ref (a + 100) :: st) M
  | _ => False
noncomputable def oGsc (pc : Nat) : OP := fun kn _ ls st M => match st with
  | .ref a :: st => rS a ∧ kn (pc + 3) ls (.int 0 :: st) M
  | _ => False
noncomputable def oSln (pc : Nat) : OP := fun kn _ ls st M => match st with
  | .ref a :: st => rT a ∧ kn (pc + 1) ls (.int (nI (tB (a - 5100)).length) :: st) M
  | _ => False
noncomputable def oSbl (pc : Nat) : OP := fun kn _ ls st M => match st with
  | .int i :: .ref a :: st => rT a ∧ vp_in i (tB (a - 5100)).length ∧ kn (pc + 1) ls (.int ((tB (a - 5100)).getD i.toNatClampNeg 0) :: st) M
  | _ => False
noncomputable def oGz (pc : Nat) : OP := fun kn _ ls st M => kn (pc + 3) ls (.int 1 :: st) M
theorem ok_gsv {idx : Nat} (hw : Cond.fieldLink q.1.cls idx "java/lang/String" "value" "[B" ∈ wB) (hd : decode q.2.1 pc = .ok (.getfield idx, 3)) : OK l X q d na b pc (oGsv pc) := by
  intro kn kr ls st M hk h
  simp only [oGsv] at h
  split at h
  · rename_i a st
    obtain ⟨ha, h⟩ := h
    obtain ⟨a', haa⟩ : ∃ z : Nat, z = a := ⟨a, rfl⟩
    subst haa
    obtain ⟨ha1, ha2⟩ := ha
    intro p e R s m args below meth c Q D g ad0 A n0 S0 c0 s0 ad H locs la hf g1 g2 g3 g4 g5 g6 g7 g8 hr hl hk2
    have hE := (hf.2.2.2.2.2.2.2.2.2.2.2.2.1 (a' - 5000) (by omega)).2.2.1
    rw [show 5000 + (a' - 5000) = a' by omega, show 5100 + (a' - 5000) = a' + 100 by omega] at hE
    have ea : ad a' = ad0 a' := hr.2.2.2.2.2.2.1 _ (Or.inr (by omega))
    have eb : ad (a' + 100) = ad0 (a' + 100) := hr.2.2.2.2.2.2.1 _ (Or.inr (by omega))
    have hW := hk _ _ _ _ h p e R s m args below meth c Q D g ad0 A n0 S0 c0 s0 ad H locs la hf g1 g2 g3 g4 g5 g6 g7 g8 hr hl hk2
    rw [List.map_cons, iv_ref (by omega), eb] at hW
    rw [List.map_cons, iv_ref (by omega), ea]
    exact vk_getf hf.1 hf.2.1 hE hr.2.2.1 hf.2.2.2.2.2.1 (hf.2.2.2.2.2.2.2.1 _ hw) (fun _ z => z) hd hW
  · exact h.elim
theorem ok_gsc {idx : Nat} (hw : Cond.fieldLink q.1.cls idx "java/lang/String" "coder" "B" ∈ wB) (hd : decode q.2.1 pc = .ok (.getfield idx, 3)) : OK l X q d na b pc (oGsc pc) := by
  intro kn kr ls st M hk h
  simp only [oGsc] at h
  split at h
  · rename_i a st
    obtain ⟨ha, h⟩ := h
    obtain ⟨a', haa⟩ : ∃ z : Nat, z = a := ⟨a, rfl⟩
    subst haa
    obtain ⟨ha1, ha2⟩ := ha
    intro p e R s m args below meth c Q D g ad0 A n0 S0 c0 s0 ad H locs la hf g1 g2 g3 g4 g5 g6 g7 g8 hr hl hk2
    have hE := (hf.2.2.2.2.2.2.2.2.2.2.2.2.1 (a' - 5000) (by omega)).2.1
    rw [show 5000 + (a' - 5000) = a' by omega] at hE
    have ea : ad a' = ad0 a' := hr.2.2.2.2.2.2.1 _ (Or.inr (by omega))
    have hW := hk _ _ _ _ h p e R s m args below meth c Q D g ad0 A n0 S0 c0 s0 ad H locs la hf g1 g2 g3 g4 g5 g6 g7 g8 hr hl hk2
    rw [List.map_cons, iv_ref (by omega), ea]
    exact vk_getf hf.1 hf.2.1 hE hr.2.2.1 hf.2.2.2.2.2.1 (hf.2.2.2.2.2.2.2.1 _ hw) (fun _ z => z) hd hW
  · exact h.elim
theorem ok_sln (hd : decode q.2.1 pc = .ok (.arraylength, 1)) : OK l X q d na b pc (oSln pc) := by
  intro kn kr ls st M hk h
  simp only [oSln] at h
  split at h
  · rename_i a st
    obtain ⟨ha, h⟩ := h
    obtain ⟨a', haa⟩ : ∃ z : Nat, z = a := ⟨a, rfl⟩
    subst haa
    obtain ⟨ha1, ha2⟩ := ha
    intro p e R s m args below meth c Q D g ad0 A n0 S0 c0 s0 ad H locs la hf g1 g2 g3 g4 g5 g6 g7 g8 hr hl hk2
    have hE := (hf.2.2.2.2.2.2.2.2.2.2.2.2.1 (a' - 5100) (by omega)).2.2.2
    rw [show 5100 + (a' - 5100) = a' by omega] at hE
    have ea : ad a' = ad0 a' := hr.2.2.2.2.2.2.1 _ (Or.inr (by omega))
    have hW := hk _ _ _ _ h p e R s m args below meth c Q D g ad0 A n0 S0 c0 s0 ad H locs la hf g1 g2 g3 g4 g5 g6 g7 g8 hr hl hk2
    rw [List.map_cons, iv_ref (by omega), ea]
    exact va_tlen hf.1 hf.2.1 hE hr.2.2.1 rfl hd hW
  · exact h.elim
theorem ok_sbl (hd : decode q.2.1 pc = .ok (.baload, 1)) : OK l X q d na b pc (oSbl pc) := by
  intro kn kr ls st M hk h
  simp only [oSbl] at h
  split at h
  · rename_i i a st
    obtain ⟨ha, hin, h⟩ := h
    obtain ⟨a', haa⟩ : ∃ z : Nat, z = a := ⟨a, rfl⟩
    subst haa
    obtain ⟨ha1, ha2⟩ := ha
    intro p e R s m args below meth c Q D g ad0 A n0 S0 c0 s0 ad H locs la hf g1 g2 g3 g4 g5 g6 g7 g8 hr hl hk2
    have hE := (hf.2.2.2.2.2.2.2.2.2.2.2.2.1 (a' - 5100) (by omega)).2.2.2
    rw [show 5100 + (a' - 5100) = a' by omega] at hE
    have ea : ad a' = ad0 a' := hr.2.2.2.2.2.2.1 _ (Or.inr (by omega))
    have hW := hk _ _ _ _ h p e R s m args below meth c Q D g ad0 A n0 S0 c0 s0 ad H locs la hf g1 g2 g3 g4 g5 g6 g7 g8 hr hl hk2
    rw [List.map_cons, List.map_cons, iv_ref (by omega), ea]
    exact va_tb hf.1 hf.2.1 hE hr.2.2.1 hin rfl hd hW
  · exact h.elim
theorem ok_gz {idx : Nat} (hw : Cond.fieldLink q.1.cls idx "java/lang/String" "COMPACT_STRINGS" "Z" ∈ wB) (hd : decode q.2.1 pc = .ok (.getstatic idx, 3)) : OK l X q d na b pc (oGz pc) := by
  intro kn kr ls st M hk h p e R s m args below meth c Q D g ad0 A n0 S0 c0 s0 ad H locs la hf g1 g2 g3 g4 g5 g6 g7 g8 hr hl hk2
  have hZ := hf.2.2.2.2.2.2.2.2.2.2.2.2.2.2.1.1
  have hW := hk _ _ _ _ h p e R s m args below meth c Q D g ad0 A n0 S0 c0 s0 ad H locs la hf g1 g2 g3 g4 g5 g6 g7 g8 hr hl hk2
  exact va_gets hf.1 hf.2.1 hZ hr.2.2.1 hf.2.2.2.2.2.1 (hf.2.2.2.2.2.2.2.1 _ hw) (fun _ z => z) hd hW
/-- an int's return as a byte or a char -/
noncomputable def oTr (ty : FieldType) : OP := fun _ kr _ st M => match st with
  | [.int v] => narrow ty (.int v) = .int v ∧ kr (some (.int v)) M
  | _ => False
theorem ok_tr {ty : FieldType} (hr : q.2.2.2 = some ty) (hd : decode q.2.1 pc = .ok (.ireturn, 1)) : OK l X q d na b pc (oTr ty) := by
  intro kn kr ls st M hk h
  simp only [oTr] at h
  split at h
  · exact Wf.end (r := some (.int _)) (Or.inl ⟨_, _, rfl, hr, h.1, hd⟩) h.2
  · exact h.elim
/-! a static that holds a reference or null: its name is 4998, or null -/
theorem wl_ad {g : Nat → ClassId} {ad ad' : Nat → Nat} {M : Mm} (hk : kO M) (h : ∀ n, n ≤ mN M → ad' n = ad n) : wl g ad' M = wl g ad M := by
  have hiv : ∀ a i, iv ad' (.ref (mR M a i)) = iv ad (.ref (mR M a i)) := by
    intro a i
    have hle := hk a i
    cases hm : mR M a i with
    | zero => rfl
    | succ n => show Value.ref (ad' (n + 1)) = Value.ref (ad (n + 1)); rw [h _ (by rw [← hm]; exact hle)]
  have hsv : ∀ a k t, iv ad' (sv M a k t) = iv ad (sv M a k t) := by
    intro a k t
    match t with
    | 0 => rfl
    | 1 => rfl
    | t + 2 => exact hiv a k
  have her : ∀ a, er ad' M a = er ad M a := by
    intro a
    funext i
    have hle := hk a i
    unfold er
    cases hm : mR M a i with
    | zero => rfl
    | succ n => show some (ad' (n + 1)) = some (ad (n + 1)); rw [h _ (by rw [← hm]; exact hle)]
  have hen : ∀ a, en g ad' M a = en g ad M a := by
    intro a
    unfold en eo
    simp only [hsv, her]
  unfold wl
  apply List.map_congr_left
  intro i hi
  have hi2 := List.mem_range.mp hi
  rw [hen, h _ (by omega)]
/-- names below 4998 stand where they stood: a run that may name more gives one that doesn't -/
noncomputable def nref (st : List Value) : Prop := ∀ v ∈ st, ∀ a : Nat, v = .ref a → a = 0 ∨ 5000 ≤ a
theorem nref_map {ad ad' : Nat → Nat} (h : ∀ n, 4999 ≤ n → ad' n = ad n) : ∀ {st : List Value}, nref st → st.map (iv ad') = st.map (iv ad)
  | [], _ => rfl
  | v :: t, hn => by
    rw [List.map_cons, List.map_cons, nref_map h (fun w hw => hn w (List.mem_cons_of_mem _ hw))]
    congr 1
    cases v with
    | ref a =>
      obtain ⟨a', haa⟩ : ∃ z : Nat, z = a := ⟨a, rfl⟩
      subst haa
      rcases hn _ List.mem_cons_self a' rfl with e | e
      · rw [e]; rfl
      · rw [iv_ref (by omega), iv_ref (by omega), h a' (by omega)]
    | _ => rfl
theorem Wf.loose {kr : KR} {ls : Ls} {st : List Value} {M : Mm} (h : Wf l X q d false b pc ls st M (fun r M' => M' = M ∧ r = none ∧ kr none M)) : Wf l X q d true b pc ls st M kr := by
  intro p e R s m args below meth c Q D g ad0 A n0 S0 c0 s0 ad H locs la hf g1 g2 g3 g4 g5 g6 g7 g8 hr hl hk2
  obtain ⟨r1, r2, r3, r4, r5, r6, r7, r8⟩ := hr
  obtain ⟨e1, e2⟩ := r8 rfl
  refine h p e R s m args below meth c Q D g ad0 A (mN M) S0 c0 s0 ad H locs la hf g1 g2 g3 g4 g5 g6 g7 g8 ⟨r1, r2, r3, r4, Nat.le_refl _, r6, fun n _ => by rw [e1], fun z => by cases z⟩ hl ?_
  intro pc' r M' ad' H' locs' la' hkr hr' h1 h2 h3 h4 ht
  obtain ⟨rfl, rfl, hk⟩ := hkr
  obtain ⟨q1, q2, q3, q4, q5, q6, q7, q8⟩ := hr'
  have ew : wl g ad' M' = wl g ad0 M' := wl_ad q4 (fun n hn => q7 n (Or.inl hn))
  rw [ew] at q1 q2
  rw [← e1] at q1 q2
  exact hk2 pc' none M' ad H' locs' la' hk ⟨q1, q2, q3, q4, r5, q6, fun n _ => by rw [e1], fun _ => ⟨e1, e2⟩⟩ h1 h2 h3 h4 ht
noncomputable def oGq (pc : Nat) : OP := fun kn _ ls st M => (nref st ∧ ∀ x ∈ ls, ∀ a : Nat, x.2 = .ref a → a = 0 ∨ 5000 ≤ a) ∧ kn (pc + 3) ls (.ref 0 :: st) M ∧ kn (pc + 3) ls (.ref 4998 :: st) M
theorem ok_gq {idx : Nat} (hw : Cond.fieldLink q.1.cls idx "jdk/internal/util/Preconditions" "SIOOBE_FORMATTER" "Ljava/util/function/BiFunction;" ∈ wB) (hd : decode q.2.1 pc = .ok (.getstatic idx, 3)) : OK l X q d false b pc (oGq pc) := by
  intro kn kr ls st M hk h p e R s m args below meth c Q D g ad0 A n0 S0 c0 s0 ad H locs la hf g1 g2 g3 g4 g5 g6 g7 g8 hr hl hk2
  obtain ⟨⟨hn, hnl⟩, h0, h1⟩ := h
  rcases hf.2.2.2.2.2.2.2.2.2.2.2.2.2.2.1.2 with hZ | ⟨t, hZ⟩
  · have hW := hk _ _ _ _ h0 p e R s m args below meth c Q D g ad0 A n0 S0 c0 s0 ad H locs la hf g1 g2 g3 g4 g5 g6 g7 g8 hr hl hk2
    exact va_gets hf.1 hf.2.1 hZ hr.2.2.1 hf.2.2.2.2.2.1 (hf.2.2.2.2.2.2.2.1 _ hw) (fun _ z => z) hd hW
  · obtain ⟨r1, r2, r3, r4, r5, r6, r7, r8⟩ := hr
    have hu : ∀ n, n ≠ 4998 → (fun n => if n = 4998 then t else ad n) n = ad n := fun n hn => if_neg hn
    have ew : wl g (fun n => if n = 4998 then t else ad n) M = wl g ad M := wl_ad r4 (fun n hn => hu n (by omega))
    have em : lm (fun n => if n = 4998 then t else ad n) ls = lm ad ls := by
      unfold lm
      apply List.map_congr_left
      intro x hx
      have hx2 := hnl x hx
      cases hv : x.2 with
      | ref a =>
        obtain ⟨a', haa⟩ : ∃ z : Nat, z = a := ⟨a, rfl⟩
        subst haa
        rcases hx2 a' hv with e | e
        · rw [e]; rfl
        · rw [iv_ref (by omega), iv_ref (by omega), if_neg (by omega)]
      | _ => rfl
    have hW := hk _ _ _ _ h1 p e R s m args below meth c Q D g ad0 A n0 S0 c0 s0 (fun n => if n = 4998 then t else ad n) H locs la hf g1 g2 g3 g4 g5 g6 g7 g8 ⟨by rw [ew]; exact r1, by rw [ew]; exact r2, r3, r4, r5, r6, fun n hn => by rw [hu n (by omega)]; exact r7 n hn, fun z => by cases z⟩ (by rw [em]; exact hl) hk2
    have es : ((.ref 4998 :: st : List Value).map (iv (fun n => if n = 4998 then t else ad n))) = .ref t :: st.map (iv ad) := by
      rw [List.map_cons, nref_map (fun n hn => hu n (by omega)) hn]
      rfl
    rw [es] at hW
    exact va_gets hf.1 hf.2.1 hZ r3 hf.2.2.2.2.2.1 (hf.2.2.2.2.2.2.2.1 _ hw) (fun _ z => z) hd hW
end STR
end
section
theorem flJ0_9 : Cond.fieldLink RJ0 9 "java/lang/String" "value" "[B" ∈ wB := wT8 122 rfl (by decide +kernel)
theorem flJ0_15 : Cond.fieldLink RJ0 15 "java/lang/String" "coder" "B" ∈ wB := wT8 123 rfl (by decide +kernel)
theorem flJ0_38 : Cond.fieldLink RJ0 38 "java/lang/String" "COMPACT_STRINGS" "Z" ∈ wB := wT2 179 rfl (by decide +kernel)
theorem flJ0_1053 : Cond.fieldLink RJ0 1053 "jdk/internal/util/Preconditions" "SIOOBE_FORMATTER" "Ljava/util/function/BiFunction;" ∈ wB := wT2 195 rfl (by decide +kernel)
theorem mlJ0_335 : Cond.methodLink RJ0 335 yJ0_coder_7d493 ∈ wB := wT2 175 rfl (by decide +kernel)
theorem mlJ0_492 : Cond.methodLink RJ0 492 yJ0_isLatin1_aae02 ∈ wB := wT2 185 rfl (by decide +kernel)
theorem mlJ0_495 : Cond.methodLink RJ0 495 yJ1_charAt_3b067 ∈ wB := wT2 189 rfl (by decide +kernel)
theorem mlJ0_1059 : Cond.methodLink RJ0 1059 yJ3_checkIndex_8e157 ∈ wB := wT2 197 rfl (by decide +kernel)
theorem mlJ1_9 : Cond.methodLink RJ1 9 yJ0_checkIndex_df160 ∈ wB := wT2 192 rfl (by decide +kernel)
theorem cv_J0_coder_7d493 : cV uJ0_coder_7d493 0 := ⟨⟨wT2 178 rfl (by decide +kernel), wT1 10 rfl (by decide +kernel), by decide +kernel, by decide⟩, wT2 176 rfl (by decide +kernel), wT2 177 rfl (by decide +kernel)⟩
theorem cv_J0_isLatin1_aae02 : cV uJ0_isLatin1_aae02 0 := ⟨⟨wT2 188 rfl (by decide +kernel), wT1 10 rfl (by decide +kernel), by decide +kernel, by decide⟩, wT2 186 rfl (by decide +kernel), wT2 187 rfl (by decide +kernel)⟩
theorem ct_J1_charAt_3b067 : cT uJ1_charAt_3b067 2 := ⟨⟨wT2 191 rfl (by decide +kernel), wT1 11 rfl (by decide +kernel), by decide +kernel, by decide⟩, wT2 190 rfl (by decide +kernel)⟩
theorem ct_J0_checkIndex_df160 : cT uJ0_checkIndex_df160 2 := ⟨⟨wT2 194 rfl (by decide +kernel), wT1 10 rfl (by decide +kernel), by decide +kernel, by decide⟩, wT2 193 rfl (by decide +kernel)⟩
theorem ct_J3_checkIndex_8e157 : cT uJ3_checkIndex_8e157 3 := ⟨⟨wT2 199 rfl (by decide +kernel), wT1 12 rfl (by decide +kernel), by decide +kernel, by decide⟩, wT2 198 rfl (by decide +kernel)⟩
noncomputable def ilJ0_coder_7d493 : List (Nat × Instr × Nat) := [(0, .getstatic 38, 3), (3, .ifCond .eq 10, 3), (6, .aload_n 0, 1), (7, .getfield 15, 3), (10, .goto 4, 3), (13, .iconst 1, 1), (14, .ireturn, 1)]
theorem idJ0_coder_7d493 : ∀ x ∈ ilJ0_coder_7d493, decode cJ0_coder_7d493 x.1 = .ok x.2 := sq_ok (B := 0) List.drop_zero (by decide +kernel : sqI cJ0_coder_7d493 0 cJ0_coder_7d493.data.toList ilJ0_coder_7d493 = true)
noncomputable def tbJ0_coder_7d493 (l : Launch) (X : Nat × (Nat → Int32)) (d : Nat) : List (Nat × OP) := [(0, oGz 0), (3, oIf 3 13 (fun x => x = 0) (fun x => ¬ x = 0)), (6, oAl 6 1 0), (7, oGsc 7), (10, oGo 14), (13, oIc 13 1 1), (14, oTr .byte)]
set_option maxRecDepth 20000 in
theorem tkJ0_coder_7d493 {l : Launch} {X : Nat × (Nat → Int32)} {d : Nat} {na : Bool} {b : Nat × Nat} : ∀ x ∈ tbJ0_coder_7d493 l X d, OK l X uJ0_coder_7d493 d na b x.1 x.2 :=
  List.forall_mem_cons.mpr ⟨ok_gz flJ0_38 (idJ0_coder_7d493 (0, .getstatic 38, 3) (List.mem_of_getElem? (i := 0) rfl)), List.forall_mem_cons.mpr ⟨ok_ifeq (t := 13) (by decide) (idJ0_coder_7d493 (3, .ifCond .eq 10, 3) (List.mem_of_getElem? (i := 1) rfl)), List.forall_mem_cons.mpr ⟨ok_aload_n (i := 0) (k := 0) rfl (idJ0_coder_7d493 (6, .aload_n 0, 1) (List.mem_of_getElem? (i := 2) rfl)), List.forall_mem_cons.mpr ⟨ok_gsc flJ0_15 (idJ0_coder_7d493 (7, .getfield 15, 3) (List.mem_of_getElem? (i := 3) rfl)), List.forall_mem_cons.mpr ⟨ok_goto (t := 14) (by decide) (idJ0_coder_7d493 (10, .goto 4, 3) (List.mem_of_getElem? (i := 4) rfl)), List.forall_mem_cons.mpr ⟨ok_iconst (n := 1) (v := 1) (by decide) (idJ0_coder_7d493 (13, .iconst 1, 1) (List.mem_of_getElem? (i := 5) rfl)), List.forall_mem_cons.mpr ⟨ok_tr rfl (idJ0_coder_7d493 (14, .ireturn, 1) (List.mem_of_getElem? (i := 6) rfl)), fun _ h => absurd h List.not_mem_nil⟩⟩⟩⟩⟩⟩⟩
noncomputable def ilJ0_isLatin1_aae02 : List (Nat × Instr × Nat) := [(0, .getstatic 38, 3), (3, .ifCond .eq 14, 3), (6, .aload_n 0, 1), (7, .getfield 15, 3), (10, .ifCond .ne 7, 3), (13, .iconst 1, 1), (14, .goto 4, 3), (17, .iconst 0, 1), (18, .ireturn, 1)]
theorem idJ0_isLatin1_aae02 : ∀ x ∈ ilJ0_isLatin1_aae02, decode cJ0_isLatin1_aae02 x.1 = .ok x.2 := sq_ok (B := 0) List.drop_zero (by decide +kernel : sqI cJ0_isLatin1_aae02 0 cJ0_isLatin1_aae02.data.toList ilJ0_isLatin1_aae02 = true)
noncomputable def tbJ0_isLatin1_aae02 (l : Launch) (X : Nat × (Nat → Int32)) (d : Nat) : List (Nat × OP) := [(0, oGz 0), (3, oIf 3 17 (fun x => x = 0) (fun x => ¬ x = 0)), (6, oAl 6 1 0), (7, oGsc 7), (10, oIf 10 17 (fun x => ¬ x = 0) (fun x => x = 0)), (13, oIc 13 1 1), (14, oGo 18), (17, oIc 17 1 0), (18, oZr)]
set_option maxRecDepth 20000 in
theorem tkJ0_isLatin1_aae02 {l : Launch} {X : Nat × (Nat → Int32)} {d : Nat} {na : Bool} {b : Nat × Nat} : ∀ x ∈ tbJ0_isLatin1_aae02 l X d, OK l X uJ0_isLatin1_aae02 d na b x.1 x.2 :=
  List.forall_mem_cons.mpr ⟨ok_gz flJ0_38 (idJ0_isLatin1_aae02 (0, .getstatic 38, 3) (List.mem_of_getElem? (i := 0) rfl)), List.forall_mem_cons.mpr ⟨ok_ifeq (t := 17) (by decide) (idJ0_isLatin1_aae02 (3, .ifCond .eq 14, 3) (List.mem_of_getElem? (i := 1) rfl)), List.forall_mem_cons.mpr ⟨ok_aload_n (i := 0) (k := 0) rfl (idJ0_isLatin1_aae02 (6, .aload_n 0, 1) (List.mem_of_getElem? (i := 2) rfl)), List.forall_mem_cons.mpr ⟨ok_gsc flJ0_15 (idJ0_isLatin1_aae02 (7, .getfield 15, 3) (List.mem_of_getElem? (i := 3) rfl)), List.forall_mem_cons.mpr ⟨ok_ifne (t := 17) (by decide) (idJ0_isLatin1_aae02 (10, .ifCond .ne 7, 3) (List.mem_of_getElem? (i := 4) rfl)), List.forall_mem_cons.mpr ⟨ok_iconst (n := 1) (v := 1) (by decide) (idJ0_isLatin1_aae02 (13, .iconst 1, 1) (List.mem_of_getElem? (i := 5) rfl)), List.forall_mem_cons.mpr ⟨ok_goto (t := 18) (by decide) (idJ0_isLatin1_aae02 (14, .goto 4, 3) (List.mem_of_getElem? (i := 6) rfl)), List.forall_mem_cons.mpr ⟨ok_iconst (n := 0) (v := 0) (by decide) (idJ0_isLatin1_aae02 (17, .iconst 0, 1) (List.mem_of_getElem? (i := 7) rfl)), List.forall_mem_cons.mpr ⟨ok_zr rfl (idJ0_isLatin1_aae02 (18, .ireturn, 1) (List.mem_of_getElem? (i := 8) rfl)), fun _ h => absurd h List.not_mem_nil⟩⟩⟩⟩⟩⟩⟩⟩⟩
noncomputable def ilJ0_length_8abf5 : List (Nat × Instr × Nat) := [(0, .aload_n 0, 1), (1, .getfield 9, 3), (4, .arraylength, 1), (5, .aload_n 0, 1), (6, .invokevirtual 335, 3), (9, .ishr, 1), (10, .ireturn, 1)]
theorem idJ0_length_8abf5 : ∀ x ∈ ilJ0_length_8abf5, decode cJ0_length_8abf5 x.1 = .ok x.2 := sq_ok (B := 0) List.drop_zero (by decide +kernel : sqI cJ0_length_8abf5 0 cJ0_length_8abf5.data.toList ilJ0_length_8abf5 = true)
noncomputable def tbJ0_length_8abf5 (l : Launch) (X : Nat × (Nat → Int32)) (d : Nat) : List (Nat × OP) := [(0, oAl 0 1 0), (1, oGsv 1), (4, oSln 4), (5, oAl 5 1 0), (6, oCq l X d 6 uJ0_coder_7d493 0), (9, o2 9 (fun x y => x >>> (y &&& 31))), (10, oIr)]
set_option maxRecDepth 20000 in
theorem tkJ0_length_8abf5 {l : Launch} {X : Nat × (Nat → Int32)} {d : Nat} {na : Bool} {b : Nat × Nat} : ∀ x ∈ tbJ0_length_8abf5 l X d, OK l X uJ0_length_8abf5 (d + 1) na b x.1 x.2 :=
  List.forall_mem_cons.mpr ⟨ok_aload_n (i := 0) (k := 0) rfl (idJ0_length_8abf5 (0, .aload_n 0, 1) (List.mem_of_getElem? (i := 0) rfl)), List.forall_mem_cons.mpr ⟨ok_gsv flJ0_9 (idJ0_length_8abf5 (1, .getfield 9, 3) (List.mem_of_getElem? (i := 1) rfl)), List.forall_mem_cons.mpr ⟨ok_sln (idJ0_length_8abf5 (4, .arraylength, 1) (List.mem_of_getElem? (i := 2) rfl)), List.forall_mem_cons.mpr ⟨ok_aload_n (i := 0) (k := 0) rfl (idJ0_length_8abf5 (5, .aload_n 0, 1) (List.mem_of_getElem? (i := 3) rfl)), List.forall_mem_cons.mpr ⟨ok_cq cv_J0_coder_7d493 rfl mlJ0_335 (idJ0_length_8abf5 (6, .invokevirtual 335, 3) (List.mem_of_getElem? (i := 4) rfl)), List.forall_mem_cons.mpr ⟨ok_ishr (idJ0_length_8abf5 (9, .ishr, 1) (List.mem_of_getElem? (i := 5) rfl)), List.forall_mem_cons.mpr ⟨ok_ir rfl (idJ0_length_8abf5 (10, .ireturn, 1) (List.mem_of_getElem? (i := 6) rfl)), fun _ h => absurd h List.not_mem_nil⟩⟩⟩⟩⟩⟩⟩
noncomputable def ilJ0_charAt_5068e : List (Nat × Instr × Nat) := [(0, .aload_n 0, 1), (1, .invokevirtual 492, 3), (4, .ifCond .eq 12, 3), (7, .aload_n 0, 1), (8, .getfield 9, 3), (11, .iload_n 1, 1), (12, .invokestatic 495, 3), (15, .ireturn, 1)]
theorem idJ0_charAt_5068e : ∀ x ∈ ilJ0_charAt_5068e, decode cJ0_charAt_5068e x.1 = .ok x.2 := sq_ok (B := 0) List.drop_zero (by decide +kernel : sqI cJ0_charAt_5068e 0 cJ0_charAt_5068e.data.toList ilJ0_charAt_5068e = true)
noncomputable def tbJ0_charAt_5068e (l : Launch) (X : Nat × (Nat → Int32)) (d : Nat) : List (Nat × OP) := [(0, oAl 0 1 0), (1, oCq l X d 1 uJ0_isLatin1_aae02 0), (4, oIf 4 16 (fun x => x = 0) (fun x => ¬ x = 0)), (7, oAl 7 1 0), (8, oGsv 8), (11, oIl 11 1 1), (12, oCs l X d 12 uJ1_charAt_3b067 2), (15, oTr .char)]
set_option maxRecDepth 20000 in
theorem tkJ0_charAt_5068e {l : Launch} {X : Nat × (Nat → Int32)} {d : Nat} {na : Bool} {b : Nat × Nat} : ∀ x ∈ tbJ0_charAt_5068e l X d, OK l X uJ0_charAt_5068e (d + 1) na b x.1 x.2 :=
  List.forall_mem_cons.mpr ⟨ok_aload_n (i := 0) (k := 0) rfl (idJ0_charAt_5068e (0, .aload_n 0, 1) (List.mem_of_getElem? (i := 0) rfl)), List.forall_mem_cons.mpr ⟨ok_cq cv_J0_isLatin1_aae02 rfl mlJ0_492 (idJ0_charAt_5068e (1, .invokevirtual 492, 3) (List.mem_of_getElem? (i := 1) rfl)), List.forall_mem_cons.mpr ⟨ok_ifeq (t := 16) (by decide) (idJ0_charAt_5068e (4, .ifCond .eq 12, 3) (List.mem_of_getElem? (i := 2) rfl)), List.forall_mem_cons.mpr ⟨ok_aload_n (i := 0) (k := 0) rfl (idJ0_charAt_5068e (7, .aload_n 0, 1) (List.mem_of_getElem? (i := 3) rfl)), List.forall_mem_cons.mpr ⟨ok_gsv flJ0_9 (idJ0_charAt_5068e (8, .getfield 9, 3) (List.mem_of_getElem? (i := 4) rfl)), List.forall_mem_cons.mpr ⟨ok_iload_n (i := 1) (k := 1) rfl (idJ0_charAt_5068e (11, .iload_n 1, 1) (List.mem_of_getElem? (i := 5) rfl)), List.forall_mem_cons.mpr ⟨ok_cs ct_J1_charAt_3b067 mlJ0_495 (idJ0_charAt_5068e (12, .invokestatic 495, 3) (List.mem_of_getElem? (i := 6) rfl)), List.forall_mem_cons.mpr ⟨ok_tr rfl (idJ0_charAt_5068e (15, .ireturn, 1) (List.mem_of_getElem? (i := 7) rfl)), fun _ h => absurd h List.not_mem_nil⟩⟩⟩⟩⟩⟩⟩⟩
noncomputable def ilJ1_charAt_3b067 : List (Nat × Instr × Nat) := [(0, .iload_n 1, 1), (1, .aload_n 0, 1), (2, .arraylength, 1), (3, .invokestatic 9, 3), (6, .aload_n 0, 1), (7, .iload_n 1, 1), (8, .baload, 1), (9, .sipush 255, 3), (12, .iand, 1), (13, .i2c, 1), (14, .ireturn, 1)]
theorem idJ1_charAt_3b067 : ∀ x ∈ ilJ1_charAt_3b067, decode cJ1_charAt_3b067 x.1 = .ok x.2 := sq_ok (B := 0) List.drop_zero (by decide +kernel : sqI cJ1_charAt_3b067 0 cJ1_charAt_3b067.data.toList ilJ1_charAt_3b067 = true)
noncomputable def tbJ1_charAt_3b067 (l : Launch) (X : Nat × (Nat → Int32)) (d : Nat) : List (Nat × OP) := [(0, oIl 0 1 1), (1, oAl 1 1 0), (2, oSln 2), (3, oCs l X d 3 uJ0_checkIndex_df160 2), (6, oAl 6 1 0), (7, oIl 7 1 1), (8, oSbl 8), (9, oIc 9 3 255), (12, o2 12 (fun x y => x &&& y)), (13, o1 13 (fun x => (x.toUInt32 % 65536).toInt32)), (14, oTr .char)]
set_option maxRecDepth 20000 in
theorem tkJ1_charAt_3b067 {l : Launch} {X : Nat × (Nat → Int32)} {d : Nat} {na : Bool} {b : Nat × Nat} : ∀ x ∈ tbJ1_charAt_3b067 l X d, OK l X uJ1_charAt_3b067 (d + 1) na b x.1 x.2 :=
  List.forall_mem_cons.mpr ⟨ok_iload_n (i := 1) (k := 1) rfl (idJ1_charAt_3b067 (0, .iload_n 1, 1) (List.mem_of_getElem? (i := 0) rfl)), List.forall_mem_cons.mpr ⟨ok_aload_n (i := 0) (k := 0) rfl (idJ1_charAt_3b067 (1, .aload_n 0, 1) (List.mem_of_getElem? (i := 1) rfl)), List.forall_mem_cons.mpr ⟨ok_sln (idJ1_charAt_3b067 (2, .arraylength, 1) (List.mem_of_getElem? (i := 2) rfl)), List.forall_mem_cons.mpr ⟨ok_cs ct_J0_checkIndex_df160 mlJ1_9 (idJ1_charAt_3b067 (3, .invokestatic 9, 3) (List.mem_of_getElem? (i := 3) rfl)), List.forall_mem_cons.mpr ⟨ok_aload_n (i := 0) (k := 0) rfl (idJ1_charAt_3b067 (6, .aload_n 0, 1) (List.mem_of_getElem? (i := 4) rfl)), List.forall_mem_cons.mpr ⟨ok_iload_n (i := 1) (k := 1) rfl (idJ1_charAt_3b067 (7, .iload_n 1, 1) (List.mem_of_getElem? (i := 5) rfl)), List.forall_mem_cons.mpr ⟨ok_sbl (idJ1_charAt_3b067 (8, .baload, 1) (List.mem_of_getElem? (i := 6) rfl)), List.forall_mem_cons.mpr ⟨ok_sipush (n := 255) (v := 255) (by decide) (idJ1_charAt_3b067 (9, .sipush 255, 3) (List.mem_of_getElem? (i := 7) rfl)), List.forall_mem_cons.mpr ⟨ok_iand (idJ1_charAt_3b067 (12, .iand, 1) (List.mem_of_getElem? (i := 8) rfl)), List.forall_mem_cons.mpr ⟨ok_i2c (idJ1_charAt_3b067 (13, .i2c, 1) (List.mem_of_getElem? (i := 9) rfl)), List.forall_mem_cons.mpr ⟨ok_tr rfl (idJ1_charAt_3b067 (14, .ireturn, 1) (List.mem_of_getElem? (i := 10) rfl)), fun _ h => absurd h List.not_mem_nil⟩⟩⟩⟩⟩⟩⟩⟩⟩⟩⟩
noncomputable def ilJ3_checkIndex_8e157 : List (Nat × Instr × Nat) := [(0, .iload_n 0, 1), (1, .ifCond .lt 8, 3), (4, .iload_n 0, 1), (5, .iload_n 1, 1), (6, .if_icmp .lt 10, 3), (16, .iload_n 0, 1), (17, .ireturn, 1)]
theorem idJ3_checkIndex_8e157 : ∀ x ∈ ilJ3_checkIndex_8e157, decode cJ3_checkIndex_8e157 x.1 = .ok x.2 := by decide +kernel
noncomputable def tbJ3_checkIndex_8e157 (l : Launch) (X : Nat × (Nat → Int32)) (d : Nat) : List (Nat × OP) := [(0, oIl 0 1 0), (1, oIf 1 9 (fun x => x < 0) (fun x => ¬ x < 0)), (4, oIl 4 1 0), (5, oIl 5 1 1), (6, oCm 6 16 (fun x y => x < y) (fun x y => ¬ x < y)), (16, oIl 16 1 0), (17, oIr)]
set_option maxRecDepth 20000 in
theorem tkJ3_checkIndex_8e157 {l : Launch} {X : Nat × (Nat → Int32)} {d : Nat} {na : Bool} {b : Nat × Nat} : ∀ x ∈ tbJ3_checkIndex_8e157 l X d, OK l X uJ3_checkIndex_8e157 d na b x.1 x.2 :=
  List.forall_mem_cons.mpr ⟨ok_iload_n (i := 0) (k := 0) rfl (idJ3_checkIndex_8e157 (0, .iload_n 0, 1) (List.mem_of_getElem? (i := 0) rfl)), List.forall_mem_cons.mpr ⟨ok_iflt (t := 9) (by decide) (idJ3_checkIndex_8e157 (1, .ifCond .lt 8, 3) (List.mem_of_getElem? (i := 1) rfl)), List.forall_mem_cons.mpr ⟨ok_iload_n (i := 0) (k := 0) rfl (idJ3_checkIndex_8e157 (4, .iload_n 0, 1) (List.mem_of_getElem? (i := 2) rfl)), List.forall_mem_cons.mpr ⟨ok_iload_n (i := 1) (k := 1) rfl (idJ3_checkIndex_8e157 (5, .iload_n 1, 1) (List.mem_of_getElem? (i := 3) rfl)), List.forall_mem_cons.mpr ⟨ok_icmplt (t := 16) (by decide) (idJ3_checkIndex_8e157 (6, .if_icmp .lt 10, 3) (List.mem_of_getElem? (i := 4) rfl)), List.forall_mem_cons.mpr ⟨ok_iload_n (i := 0) (k := 0) rfl (idJ3_checkIndex_8e157 (16, .iload_n 0, 1) (List.mem_of_getElem? (i := 5) rfl)), List.forall_mem_cons.mpr ⟨ok_ir rfl (idJ3_checkIndex_8e157 (17, .ireturn, 1) (List.mem_of_getElem? (i := 6) rfl)), fun _ h => absurd h List.not_mem_nil⟩⟩⟩⟩⟩⟩⟩
noncomputable def ilJ0_checkIndex_df160 : List (Nat × Instr × Nat) := [(0, .iload_n 0, 1), (1, .iload_n 1, 1), (2, .getstatic 1053, 3), (5, .invokestatic 1059, 3), (8, .pop, 1), (9, .return_, 1)]
theorem idJ0_checkIndex_df160 : ∀ x ∈ ilJ0_checkIndex_df160, decode cJ0_checkIndex_df160 x.1 = .ok x.2 := sq_ok (B := 0) List.drop_zero (by decide +kernel : sqI cJ0_checkIndex_df160 0 cJ0_checkIndex_df160.data.toList ilJ0_checkIndex_df160 = true)
noncomputable def tbJ0_checkIndex_df160 (l : Launch) (X : Nat × (Nat → Int32)) (d : Nat) : List (Nat × OP) := [(0, oIl 0 1 0), (1, oIl 1 1 1), (2, oGq 2), (5, oCs l X d 5 uJ3_checkIndex_8e157 3), (8, oPop 8), (9, oVr)]
set_option maxRecDepth 20000 in
theorem tkJ0_checkIndex_df160 {l : Launch} {X : Nat × (Nat → Int32)} {d : Nat} {b : Nat × Nat} : ∀ x ∈ tbJ0_checkIndex_df160 l X d, OK l X uJ0_checkIndex_df160 (d + 1) false b x.1 x.2 :=
  List.forall_mem_cons.mpr ⟨ok_iload_n (i := 0) (k := 0) rfl (idJ0_checkIndex_df160 (0, .iload_n 0, 1) (List.mem_of_getElem? (i := 0) rfl)), List.forall_mem_cons.mpr ⟨ok_iload_n (i := 1) (k := 1) rfl (idJ0_checkIndex_df160 (1, .iload_n 1, 1) (List.mem_of_getElem? (i := 1) rfl)), List.forall_mem_cons.mpr ⟨ok_gq flJ0_1053 (idJ0_checkIndex_df160 (2, .getstatic 1053, 3) (List.mem_of_getElem? (i := 2) rfl)), List.forall_mem_cons.mpr ⟨ok_cs ct_J3_checkIndex_8e157 mlJ0_1059 (idJ0_checkIndex_df160 (5, .invokestatic 1059, 3) (List.mem_of_getElem? (i := 3) rfl)), List.forall_mem_cons.mpr ⟨ok_pop (idJ0_checkIndex_df160 (8, .pop, 1) (List.mem_of_getElem? (i := 4) rfl)), List.forall_mem_cons.mpr ⟨ok_vr rfl (idJ0_checkIndex_df160 (9, .return_, 1) (List.mem_of_getElem? (i := 5) rfl)), fun _ h => absurd h List.not_mem_nil⟩⟩⟩⟩⟩⟩
section STR2
variable {l : Launch} {X : Nat × (Nat → Int32)} {d : Nat} {M : Mm} {kr : KR} {a : Nat}
set_option maxRecDepth 20000 in
theorem k_coder (ha : 5000 ≤ a ∧ a < 5042) (h : kr (some (.int 0)) M) : Ev l X uJ0_coder_7d493 d true 0 0 [.ref a] M kr := by
  refine Ev.ofF (by decide +kernel) (Nat.le_of_ble_eq_true rfl) ?_
  have p0 : Nat.blt 0 a = true := Nat.ble_eq_true_of_le (by omega)
  refine Wf.stp1 tkJ0_coder_7d493 (o := oGz 0) rfl ?_
  refine Wf.sIf tkJ0_coder_7d493 rfl (fun w => absurd w (by decide)) (fun _ => ?_)
  refine Wf.sAl tkJ0_coder_7d493 rfl rfl p0 ?_
  refine Wf.stp1 tkJ0_coder_7d493 (o := oGsc 7) rfl ⟨ha, ?_⟩
  refine Wf.sGo tkJ0_coder_7d493 rfl ?_
  exact Wf.stp1 tkJ0_coder_7d493 (o := oTr .byte) rfl ⟨by decide, h⟩
set_option maxRecDepth 20000 in
theorem k_latin (ha : 5000 ≤ a ∧ a < 5042) (h : kr (some (.int 1)) M) : Ev l X uJ0_isLatin1_aae02 d true 0 0 [.ref a] M kr := by
  refine Ev.ofF (by decide +kernel) (Nat.le_of_ble_eq_true rfl) ?_
  have p0 : Nat.blt 0 a = true := Nat.ble_eq_true_of_le (by omega)
  refine Wf.stp1 tkJ0_isLatin1_aae02 (o := oGz 0) rfl ?_
  refine Wf.sIf tkJ0_isLatin1_aae02 rfl (fun w => absurd w (by decide)) (fun _ => ?_)
  refine Wf.sAl tkJ0_isLatin1_aae02 rfl rfl p0 ?_
  refine Wf.stp1 tkJ0_isLatin1_aae02 (o := oGsc 7) rfl ⟨ha, ?_⟩
  refine Wf.sIf tkJ0_isLatin1_aae02 rfl (fun w => absurd rfl w) (fun _ => ?_)
  refine Wf.sIc tkJ0_isLatin1_aae02 rfl ?_
  refine Wf.sGo tkJ0_isLatin1_aae02 rfl ?_
  exact Wf.sZr tkJ0_isLatin1_aae02 rfl (Or.inr rfl) h
theorem shr0 (x : Int32) : x >>> ((0 : Int32) &&& 31) = x := by
  have e : (0 : Int32) &&& 31 = 0 := by decide
  rw [e]
  simp
set_option maxRecDepth 20000 in
theorem k_len (ha : 5000 ≤ a ∧ a < 5042) (h : kr (some (.int (nI (tB (a - 5000)).length))) M) : Ev l X uJ0_length_8abf5 (d + 1) true 0 0 [.ref a] M kr := by
  refine Ev.ofF (by decide +kernel) (Nat.le_of_ble_eq_true rfl) ?_
  have p0 : Nat.blt 0 a = true := Nat.ble_eq_true_of_le (by omega)
  refine Wf.sAl tkJ0_length_8abf5 rfl rfl p0 ?_
  refine Wf.stp1 tkJ0_length_8abf5 (o := oGsv 1) rfl ⟨ha, ?_⟩
  refine Wf.stp1 tkJ0_length_8abf5 (o := oSln 4) rfl ⟨⟨by omega, by omega⟩, ?_⟩
  rw [show a + 100 - 5100 = a - 5000 by omega]
  refine Wf.sAl tkJ0_length_8abf5 rfl rfl p0 ?_
  refine Wf.sCq tkJ0_length_8abf5 rfl rfl ha rfl ?_
  refine k_coder ha ?_
  refine Wf.s2 (x := nI (tB (a - 5000)).length) (y := 0) tkJ0_length_8abf5 rfl ?_
  rw [shr0]
  exact Wf.sIr tkJ0_length_8abf5 rfl h
set_option maxRecDepth 20000 in
theorem k_ck3 {i n : Int32} {x : Value} (hi : ¬ i < 0) (hn : i < n) (hx : (lg_sl [.int i, .int n, x]).length = 3) (h : kr (some (.int i)) M) : Ev l X uJ3_checkIndex_8e157 d true 0 0 [.int i, .int n, x] M kr := by
  refine Ev.ofF (by decide +kernel) (by rw [hx]; exact Nat.le_of_ble_eq_true rfl) ?_
  refine Wf.sIl tkJ3_checkIndex_8e157 rfl rfl ?_
  refine Wf.sIf tkJ3_checkIndex_8e157 rfl (fun w => absurd w hi) (fun _ => ?_)
  refine Wf.sIl tkJ3_checkIndex_8e157 rfl rfl ?_
  refine Wf.sIl tkJ3_checkIndex_8e157 rfl rfl ?_
  refine Wf.sCm tkJ3_checkIndex_8e157 rfl (fun _ => ?_) (fun w => absurd hn w)
  refine Wf.sIl tkJ3_checkIndex_8e157 rfl rfl ?_
  exact Wf.sIr tkJ3_checkIndex_8e157 rfl h
set_option maxRecDepth 20000 in
theorem k_ck0 {i n : Int32} (hi : ¬ i < 0) (hn : i < n) (h : kr none M) : Ev l X uJ0_checkIndex_df160 (d + 1) true 0 0 [.int i, .int n] M kr := by
  refine Ev.ofF (by decide +kernel) (Nat.le_of_ble_eq_true rfl) ?_
  refine Wf.loose ?_
  refine Wf.sIl tkJ0_checkIndex_df160 rfl rfl ?_
  refine Wf.sIl tkJ0_checkIndex_df160 rfl rfl ?_
  have n1 : nref [.int n, .int i] := by
    intro v hv a e
    rcases List.mem_cons.mp hv with z | z
    · rw [z] at e; cases e
    · rw [List.mem_singleton.mp z] at e; cases e
  refine Wf.stp1 tkJ0_checkIndex_df160 (o := oGq 2) rfl ⟨⟨n1, ?_⟩, ?_, ?_⟩
  · intro x hx a e
    rcases List.mem_cons.mp hx with z | z
    · rw [z] at e; cases e
    · rw [List.mem_singleton.mp z] at e; cases e
  · refine Wf.sCs tkJ0_checkIndex_df160 rfl rfl rfl ?_
    refine k_ck3 hi hn rfl ?_
    refine Wf.sPop tkJ0_checkIndex_df160 rfl rfl ?_
    exact Wf.sVr tkJ0_checkIndex_df160 rfl ⟨rfl, rfl, h⟩
  · refine Wf.sCs tkJ0_checkIndex_df160 rfl rfl rfl ?_
    refine k_ck3 hi hn rfl ?_
    refine Wf.sPop tkJ0_checkIndex_df160 rfl rfl ?_
    exact Wf.sVr tkJ0_checkIndex_df160 rfl ⟨rfl, rfl, h⟩
theorem i2c_b : ∀ k : Fin 256, ((nI k.val).toUInt32 % 65536).toInt32 = nI k.val := by decide +kernel
theorem nar_c : ∀ k : Fin 256, narrow .char (.int (nI k.val)) = .int (nI k.val) := by decide +kernel
theorem and255 (x : Int32) : ∃ k : Fin 256, x &&& 255 = nI k.val := by
  have h := and_b (x := x) (y := 255) (by decide)
  have e : (255 : Int32).toInt = 255 := by decide
  rw [e] at h
  exact ⟨⟨(x &&& 255).toInt.toNat, by omega⟩, nI_at (by omega) (by omega)⟩
theorem len7 : ∀ i : Fin 42, (tB i.val).length ≤ 7 ∧ 2 ≤ (tB i.val).length := by decide +kernel
set_option maxRecDepth 20000 in
theorem k_ch1 {j : Nat} (ha : 5100 ≤ a ∧ a < 5142) (hj : j < (tB (a - 5100)).length) (h : ∀ k : Fin 256, kr (some (.int (nI k.val))) M) : Ev l X uJ1_charAt_3b067 (d + 2) true 0 0 [.ref a, .int (nI j)] M kr := by
  refine Ev.ofF (by decide +kernel) (Nat.le_of_ble_eq_true rfl) ?_
  have p0 : Nat.blt 0 a = true := Nat.ble_eq_true_of_le (by omega)
  have hl := len7 ⟨a - 5100, by omega⟩
  have hl1 : (tB (a - 5100)).length ≤ 7 := hl.1
  refine Wf.sIl tkJ1_charAt_3b067 rfl rfl ?_
  refine Wf.sAl tkJ1_charAt_3b067 rfl rfl p0 ?_
  refine Wf.stp1 tkJ1_charAt_3b067 (o := oSln 2) rfl ⟨ha, ?_⟩
  refine Wf.sCs tkJ1_charAt_3b067 rfl rfl rfl ?_
  refine k_ck0 (nI_pos (by omega)) (Int32.not_le.mp (nI_ge hj (by omega))) ?_
  refine Wf.sAl tkJ1_charAt_3b067 rfl rfl p0 ?_
  refine Wf.sIl tkJ1_charAt_3b067 rfl rfl ?_
  refine Wf.stp1 tkJ1_charAt_3b067 (o := oSbl 8) rfl ⟨ha, ?_, ?_⟩
  · intro z
    rcases z with z | z
    · exact nI_pos (by omega) z
    · rw [nI_clamp (by omega)] at z; omega
  refine Wf.sIc tkJ1_charAt_3b067 rfl ?_
  refine Wf.s2 tkJ1_charAt_3b067 rfl ?_
  obtain ⟨k, hk⟩ := and255 ((tB (a - 5100)).getD (nI j).toNatClampNeg 0)
  refine Wf.stp1 tkJ1_charAt_3b067 (o := o1 13 (fun x => (x.toUInt32 % 65536).toInt32)) rfl ?_
  have e : ((((tB (a - 5100)).getD (nI j).toNatClampNeg 0 &&& 255) : Int32).toUInt32 % 65536).toInt32 = nI k.val := by rw [hk]; exact i2c_b k
  show Wf l X uJ1_charAt_3b067 (d + 2) true _ (13 + 1) _ [.int ((((tB (a - 5100)).getD (nI j).toNatClampNeg 0 &&& 255) : Int32).toUInt32 % 65536).toInt32] M kr
  rw [e]
  exact Wf.stp1 tkJ1_charAt_3b067 (o := oTr .char) rfl ⟨nar_c k, h k⟩
set_option maxRecDepth 20000 in
theorem k_char {j : Nat} (ha : 5000 ≤ a ∧ a < 5042) (hj : j < (tB (a - 5000)).length) (h : ∀ k : Fin 256, kr (some (.int (nI k.val))) M) : Ev l X uJ0_charAt_5068e (d + 3) true 0 0 [.ref a, .int (nI j)] M kr := by
  refine Ev.ofF (by decide +kernel) (Nat.le_of_ble_eq_true rfl) ?_
  have p0 : Nat.blt 0 a = true := Nat.ble_eq_true_of_le (by omega)
  refine Wf.sAl tkJ0_charAt_5068e rfl rfl p0 ?_
  refine Wf.sCq tkJ0_charAt_5068e rfl rfl ha rfl ?_
  refine k_latin ha ?_
  refine Wf.sIf tkJ0_charAt_5068e rfl (fun w => absurd w (by decide)) (fun _ => ?_)
  refine Wf.sAl tkJ0_charAt_5068e rfl rfl p0 ?_
  refine Wf.stp1 tkJ0_charAt_5068e (o := oGsv 8) rfl ⟨ha, ?_⟩
  refine Wf.sIl tkJ0_charAt_5068e rfl rfl ?_
  refine Wf.sCs tkJ0_charAt_5068e rfl rfl rfl ?_
  refine k_ch1 ⟨by omega, by omega⟩ (by rw [show a + 100 - 5100 = a - 5000 by omega]; exact hj) (fun k => ?_)
  exact Wf.stp1 tkJ0_charAt_5068e (o := oTr .char) rfl ⟨nar_c k, h k⟩

end STR2
end
section
/-! the class's isWord -/
section ISW
variable {l : Launch} {X : Nat × (Nat → Int32)} {d : Nat} {M : Mm} {kr : KR} {w : Nat}
set_option maxRecDepth 20000 in
theorem iw_loop {b : Nat × Nat} {s0 n : Nat} (hw : 5000 ≤ w ∧ w < 5042) (hn : (tB (w - 5000)).length = n) (hI : Iv Pt8 M) (hs : mI M 2 5 = nI s0) (hb : s0 + n ≤ 900) (h0 : kr (some (.int 0)) M) (h1 : kr (some (.int 1)) M) : ∀ i, i ≤ n → Wf l X uX4_isWord (d + 5) true b 28 [(0, .ref 2), (1, .ref w), (2, .int (nI i))] [] M kr := by
  have p0 : Nat.blt 0 w = true := Nat.ble_eq_true_of_le (by omega)
  have k2 : kk M 2 4 = true := kk_ok hI (by decide +kernel)
  have k3 : kk M 3 8 = true := kk_ok hI (by decide +kernel)
  have r3 : mR M 2 0 = 3 := List.mem_singleton.mp (hI.2.2.1 2 0 (by decide))
  have m3 : (mK M 3).2 = 900 := by rw [hI.2.1 3 (by decide)]; rfl
  refine dwn _ n ?_ ?_
  · refine Wf.sIl tkX4_isWord rfl rfl ?_
    refine Wf.sAl tkX4_isWord rfl rfl p0 ?_
    refine Wf.sCq (rest := [.int (nI n)]) tkX4_isWord rfl rfl hw rfl ?_
    refine k_len (d := d + 3) hw ?_
    rw [hn]
    refine Wf.sCm (x := nI n) (y := nI n) tkX4_isWord rfl (fun _ => ?_) (fun z => absurd (Int32.le_refl _) z)
    refine Wf.sIc tkX4_isWord rfl ?_
    exact Wf.sZr tkX4_isWord rfl (Or.inr rfl) h1
  · intro i hi hW
    refine Wf.sIl tkX4_isWord rfl rfl ?_
    refine Wf.sAl tkX4_isWord rfl rfl p0 ?_
    refine Wf.sCq (rest := [.int (nI i)]) tkX4_isWord rfl rfl hw rfl ?_
    refine k_len (d := d + 3) hw ?_
    rw [hn]
    refine Wf.sCm (x := nI i) (y := nI n) tkX4_isWord rfl (fun z => absurd z (nI_ge hi (by omega))) (fun _ => ?_)
    refine Wf.sAl tkX4_isWord rfl rfl rfl ?_
    refine Wf.sG tkX4_isWord rfl k2 ?_
    show Wf l X uX4_isWord (d + 5) true b 40 _ [.ref (mR M 2 0)] M kr
    rw [r3]
    refine Wf.sAl tkX4_isWord rfl rfl rfl ?_
    refine Wf.sG tkX4_isWord rfl k2 ?_
    show Wf l X uX4_isWord (d + 5) true b 44 _ [.int (mI M 2 5), .ref 3] M kr
    rw [hs]
    refine Wf.sIl tkX4_isWord rfl rfl ?_
    refine Wf.s2 tkX4_isWord rfl ?_
    refine Wf.sBal (j := s0 + i) tkX4_isWord rfl k3 ⟨nI_add s0 i, by omega, by rw [m3]; omega⟩ ?_
    refine Wf.sAl tkX4_isWord rfl rfl p0 ?_
    refine Wf.sIl tkX4_isWord rfl rfl ?_
    refine Wf.sCq (rest := [.int (mI M 3 (s0 + i))]) tkX4_isWord rfl rfl hw rfl ?_
    refine k_char (d := d + 1) hw (by rw [hn]; exact hi) (fun k => ?_)
    refine Wf.sCm (x := mI M 3 (s0 + i)) (y := nI k.val) tkX4_isWord rfl (fun _ => ?_) (fun _ => ?_)
    · refine Wf.sInc tkX4_isWord rfl rfl rfl ?_
      refine Wf.sGo tkX4_isWord rfl ?_
      rw [nI_1]
      exact hW
    · refine Wf.sIc tkX4_isWord rfl ?_
      exact Wf.sZr tkX4_isWord rfl (Or.inl rfl) h0
theorem gps_b {av : List Value} {M : Mm} {r : Int32} (h : r = 0 ∨ r = 1) : gps av (some (.int r)) M [(some (0, 0, 0, []), [], []), (some (0, 1, 1, []), [], [])] := by
  rcases h with rfl | rfl
  · exact ⟨_, List.mem_cons_self, ⟨rfl, by decide, by decide⟩, fun x hx => absurd hx List.not_mem_nil, fun x hx => absurd hx List.not_mem_nil⟩
  · exact ⟨_, List.mem_cons_of_mem _ (List.mem_singleton.mpr rfl), ⟨rfl, by decide, by decide⟩, fun x hx => absurd hx List.not_mem_nil, fun x hx => absurd hx List.not_mem_nil⟩
set_option maxRecDepth 20000 in
theorem vh_isWord {e : Int} (d : Nat) : Vc l X U0 Pt8 e (d + 5) ((28, [(2, 0, 0, [2]), (2, 0, 0, [5000, 5001, 5002, 5003, 5004, 5005, 5006, 5007, 5008, 5009, 5010, 5011, 5012, 5013, 5014, 5015, 5016, 5017, 5018, 5019, 5020])], []), [], [(some (0, 0, 0, []), [], []), (some (0, 1, 1, []), [], [])]) := by
  intro av M kr hI he hb hf hr
  obtain ⟨v, t, rfl, hv, ht⟩ := gbs_1 hb
  obtain ⟨v2, t, rfl, hv2, ht2⟩ := gbs_1 ht
  obtain rfl := gbs_0 ht2
  obtain rfl := gb_r1 hv
  obtain ⟨w, rfl, hm⟩ := gb_r hv2
  have hw : 5000 ≤ w ∧ w < 5042 := by
    have := List.all_eq_true.mp (show ([5000, 5001, 5002, 5003, 5004, 5005, 5006, 5007, 5008, 5009, 5010, 5011, 5012, 5013, 5014, 5015, 5016, 5017, 5018, 5019, 5020] : List Nat).all (fun n => decide (5000 ≤ n ∧ n < 5042)) = true by decide) w hm
    exact of_decide_eq_true this
  have h0 : kr (some (.int 0)) M := hr _ M (Jv.rf hI he) (gps_b (Or.inl rfl))
  have h1 : kr (some (.int 1)) M := hr _ M (Jv.rf hI he) (gps_b (Or.inr rfl))
  have p0 : Nat.blt 0 w = true := Nat.ble_eq_true_of_le (by omega)
  have k2 : kk M 2 4 = true := kk_ok hI (by decide +kernel)
  have b5 : (0 : Int) ≤ (mI M 2 5).toInt ∧ (mI M 2 5).toInt ≤ 900 := hI.2.2.2 2 5 (by decide)
  have b6 : (0 : Int) ≤ (mI M 2 6).toInt ∧ (mI M 2 6).toInt ≤ 900 := hI.2.2.2 2 6 (by decide)
  have hl := (len7 ⟨w - 5000, by omega⟩).1
  have hl : (tB (w - 5000)).length ≤ 7 := hl
  show Ev l X uX4_isWord (d + 5) true 0 0 _ M kr
  refine Ev.of (by decide) (Nat.le_of_ble_eq_true rfl) ?_
  have ret0 : ∀ ls, Wf l X uX4_isWord (d + 5) true (mC M + 0, mS M + 0) 24 ls [] M kr := by
    intro ls
    refine Wf.sIc tkX4_isWord rfl ?_
    exact Wf.sZr tkX4_isWord rfl (Or.inl rfl) h0
  refine Wf.sAl tkX4_isWord rfl rfl rfl ?_
  refine Wf.sG tkX4_isWord rfl k2 ?_
  refine Wf.sIc tkX4_isWord rfl ?_
  refine Wf.sCm (x := mI M 2 4) (y := 1) tkX4_isWord rfl (fun _ => ret0 _) (fun _ => ?_)
  refine Wf.sAl tkX4_isWord rfl rfl rfl ?_
  refine Wf.sG tkX4_isWord rfl k2 ?_
  refine Wf.sAl tkX4_isWord rfl rfl rfl ?_
  refine Wf.sG tkX4_isWord rfl k2 ?_
  refine Wf.s2 (x := mI M 2 6) (y := mI M 2 5) tkX4_isWord rfl ?_
  refine Wf.sAl tkX4_isWord rfl rfl p0 ?_
  refine Wf.sCq (rest := [.int (mI M 2 6 - mI M 2 5)]) tkX4_isWord rfl rfl hw rfl ?_
  refine k_len (d := d + 3) hw ?_
  refine Wf.sCm (x := mI M 2 6 - mI M 2 5) (y := nI (tB (w - 5000)).length) tkX4_isWord rfl (fun hq => ?_) (fun _ => ret0 _)
  refine Wf.sIc tkX4_isWord rfl ?_
  refine Wf.sIs tkX4_isWord rfl rfl ?_
  have es : mI M 2 5 = nI (mI M 2 5).toInt.toNat := nI_at (by omega) (by omega)
  have hq2 : (mI M 2 6 - mI M 2 5).toInt = (nI (tB (w - 5000)).length).toInt := congrArg Int32.toInt hq
  have lo : iLo ≤ -900 := by decide
  have hi : (900 : Int) ≤ iHi := by decide
  rw [sub_i (by omega) (by omega), nI_toInt (by omega)] at hq2
  exact iw_loop hw rfl hI es (by omega) h0 h1 0 (Nat.zero_le _)
end ISW
end
section
/-! letters, digits -/
section NXT
variable {l : Launch} {X : Nat × (Nat → Int32)} {d : Nat} {M : Mm} {kr : KR}
/-- a letter, a digit -/
noncomputable def smL (c : Int32) : Bool := decide (¬ c < 97) && decide (¬ 122 < c)
noncomputable def dgL (c : Int32) : Bool := decide (¬ c < 48) && decide (¬ 57 < c)
set_option maxRecDepth 20000 in
theorem k_small {c : Int32} (h0 : smL c = false → kr (some (.int 0)) M) (h1 : smL c = true → kr (some (.int 1)) M) : Ev l X uX7_isSmall d true 0 0 [.int c] M kr := by
  refine Ev.of (by decide) (Nat.le_of_ble_eq_true rfl) ?_
  have r0 : smL c = false → ∀ ls, Wf l X uX7_isSmall d true (mC M + 0, mS M + 0) 16 ls [] M kr := by
    intro h ls
    refine Wf.sIc tkX7_isSmall rfl ?_
    exact Wf.sZr tkX7_isSmall rfl (Or.inl rfl) (h0 h)
  refine Wf.sIl tkX7_isSmall rfl rfl ?_
  refine Wf.sIc tkX7_isSmall rfl ?_
  refine Wf.sCm tkX7_isSmall rfl (fun z => r0 ?_ _) (fun z1 => ?_)
  · have z : c < 97 := z
    unfold smL
    rw [decide_eq_false (fun q => q z)]
    rfl
  refine Wf.sIl tkX7_isSmall rfl rfl ?_
  refine Wf.sIc tkX7_isSmall rfl ?_
  refine Wf.sCm tkX7_isSmall rfl (fun z => r0 ?_ _) (fun z2 => ?_)
  · have z : 122 < c := z
    unfold smL
    rw [show decide (¬ 122 < c) = false from decide_eq_false (fun q => q z), Bool.and_false]
  refine Wf.sIc tkX7_isSmall rfl ?_
  refine Wf.sGo tkX7_isSmall rfl ?_
  refine Wf.sZr tkX7_isSmall rfl (Or.inr rfl) (h1 ?_)
  unfold smL
  rw [decide_eq_true (show ¬ c < 97 from z1), decide_eq_true (show ¬ 122 < c from z2)]
  rfl
set_option maxRecDepth 20000 in
theorem k_digit {c : Int32} (h0 : dgL c = false → kr (some (.int 0)) M) (h1 : dgL c = true → kr (some (.int 1)) M) : Ev l X uX7_isDigit d true 0 0 [.int c] M kr := by
  refine Ev.of (by decide) (Nat.le_of_ble_eq_true rfl) ?_
  have r0 : dgL c = false → ∀ ls, Wf l X uX7_isDigit d true (mC M + 0, mS M + 0) 16 ls [] M kr := by
    intro h ls
    refine Wf.sIc tkX7_isDigit rfl ?_
    exact Wf.sZr tkX7_isDigit rfl (Or.inl rfl) (h0 h)
  refine Wf.sIl tkX7_isDigit rfl rfl ?_
  refine Wf.sIc tkX7_isDigit rfl ?_
  refine Wf.sCm tkX7_isDigit rfl (fun z => r0 ?_ _) (fun z1 => ?_)
  · have z : c < 48 := z
    unfold dgL
    rw [decide_eq_false (fun q => q z)]
    rfl
  refine Wf.sIl tkX7_isDigit rfl rfl ?_
  refine Wf.sIc tkX7_isDigit rfl ?_
  refine Wf.sCm tkX7_isDigit rfl (fun z => r0 ?_ _) (fun z2 => ?_)
  · have z : 57 < c := z
    unfold dgL
    rw [show decide (¬ 57 < c) = false from decide_eq_false (fun q => q z), Bool.and_false]
  refine Wf.sIc tkX7_isDigit rfl ?_
  refine Wf.sGo tkX7_isDigit rfl ?_
  refine Wf.sZr tkX7_isDigit rfl (Or.inr rfl) (h1 ?_)
  unfold dgL
  rw [decide_eq_true (show ¬ c < 48 from z1), decide_eq_true (show ¬ 57 < c from z2)]
  rfl
end NXT
end
section
/-! the class's ways: a step's cell as a plain number; the steps of a way -/
noncomputable def mx1 (w : Int32) : Int32 := if 1 < w then w else 1
noncomputable def nxR (w k s : Int32) : Int32 := k / mx1 w + (if s = 2 then 1 else 0) - (if s = 0 then 1 else 0)
noncomputable def nxC (w k s : Int32) : Int32 := k - k / mx1 w * w + (if s = 1 then 1 else 0) - (if s = 3 then 1 else 0)
noncomputable def nx5 (w dp wl k s : Int32) : Int32 := if nxR w k s < 0 ∨ dp ≤ nxR w k s ∨ nxC w k s < 0 ∨ ¬ nxC w k s < w then -2 else if (wl >>> ((nxR w k s * w + nxC w k s) &&& 31)) &&& 1 = 0 then nxR w k s * w + nxC w k s else -2
section STP5
variable {l : Launch} {X : Nat × (Nat → Int32)} {d : Nat} {M : Mm} {kr : KR} {p : Nat}
set_option maxRecDepth 20000 in
theorem k_maxI {y : Int32} (h : kr (some (.int (mx1 y))) M) : Ev l X uJ9_max_7cf53 d true 0 0 [.int 1, .int y] M kr := by
  refine Ev.ofF (by decide +kernel) (Nat.le_of_ble_eq_true rfl) ?_
  refine Wf.sIl tkJ9_max_7cf53 rfl rfl ?_
  refine Wf.sIl tkJ9_max_7cf53 rfl rfl ?_
  unfold mx1 at h
  refine Wf.sCm tkJ9_max_7cf53 rfl (fun w => ?_) (fun w => ?_)
  · refine Wf.sIl tkJ9_max_7cf53 rfl rfl ?_
    rw [if_pos (show 1 < y from w)] at h
    exact Wf.sIr tkJ9_max_7cf53 rfl h
  · refine Wf.sIl tkJ9_max_7cf53 rfl rfl ?_
    refine Wf.sGo tkJ9_max_7cf53 rfl ?_
    rw [if_neg (show ¬ 1 < y from w)] at h
    exact Wf.sIr tkJ9_max_7cf53 rfl h
set_option maxRecDepth 20000 in
theorem k_wall {k : Int32} (hp : Nat.blt 0 p = true) (kp : kk M p 3 = true) (h1 : (mI M p 3 >>> (k &&& 31)) &&& 1 = 0 → kr (some (.int 0)) M) (h2 : ¬ (mI M p 3 >>> (k &&& 31)) &&& 1 = 0 → kr (some (.int 1)) M) : Ev l X uX3_isWall d true 0 0 [.ref p, .int k] M kr := by
  refine Ev.of (by decide) (Nat.le_of_ble_eq_true rfl) ?_
  refine Wf.sAl tkX3_isWall rfl rfl hp ?_
  refine Wf.sG tkX3_isWall rfl kp ?_
  refine Wf.sIl tkX3_isWall rfl rfl ?_
  refine Wf.s2 (x := mI M p 3) (y := k) tkX3_isWall rfl ?_
  refine Wf.sIc tkX3_isWall rfl ?_
  refine Wf.s2 tkX3_isWall rfl ?_
  refine Wf.sIf tkX3_isWall rfl (fun w => ?_) (fun w => ?_)
  · refine Wf.sIc tkX3_isWall rfl ?_
    exact Wf.sZr tkX3_isWall rfl (Or.inl rfl) (h1 w)
  · refine Wf.sIc tkX3_isWall rfl ?_
    refine Wf.sGo tkX3_isWall rfl ?_
    exact Wf.sZr tkX3_isWall rfl (Or.inr rfl) (h2 w)
theorem mx1_ne (w : Int32) : ¬ mx1 w = 0 := by
  unfold mx1
  split
  · rename_i h
    intro z
    rw [z] at h
    exact absurd h (by decide)
  · decide
set_option maxRecDepth 20000 in
theorem k_next5 {k s : Int32} (hp : Nat.blt 0 p = true) (kp : kk M p 3 = true) (h : kr (some (.int (nx5 (mI M p 0) (mI M p 1) (mI M p 3) k s))) M) : Ev l X uX5_next (d + 1) true 0 0 [.ref 41, .ref p, .int k, .int s] M kr := by
  refine Ev.of (by decide) (Nat.le_of_ble_eq_true rfl) ?_
  refine Wf.sIl tkX5_next rfl rfl ?_
  refine Wf.sIc tkX5_next rfl ?_
  refine Wf.sAl tkX5_next rfl rfl hp ?_
  refine Wf.sG tkX5_next rfl kp ?_
  refine Wf.sCs (as := [.int 1, .int (mI M p 0)]) (rest := [.int k]) tkX5_next rfl rfl rfl ?_
  refine k_maxI ?_
  refine Wf.stp1 tkX5_next (o := o2d 9 (fun x y => x / y)) rfl ⟨mx1_ne _, ?_⟩
  refine Wf.sIs tkX5_next rfl rfl ?_
  refine Wf.sIl tkX5_next rfl rfl ?_
  refine Wf.sIl tkX5_next rfl rfl ?_
  refine Wf.sAl tkX5_next rfl rfl hp ?_
  refine Wf.sG tkX5_next rfl kp ?_
  refine Wf.s2 (x := k / mx1 (mI M p 0)) (y := mI M p 0) tkX5_next rfl ?_
  refine Wf.s2 (x := k) (y := k / mx1 (mI M p 0) * mI M p 0) tkX5_next rfl ?_
  refine Wf.sIs tkX5_next rfl rfl ?_
  refine Wf.sIl tkX5_next rfl rfl ?_
  show Wf l X uX5_next (d + 1) true (mC M + 0, mS M + 0) 25 [(0, .ref 41), (1, .ref p), (2, .int k), (3, .int s), (4, .int (k / mx1 (mI M p 0))), (5, .int (k - k / mx1 (mI M p 0) * mI M p 0))] [.int (k / mx1 (mI M p 0))] M kr
  generalize hrow : k / mx1 (mI M p 0) = row
  generalize hcol : k - row * mI M p 0 = col
  have eR : nxR (mI M p 0) k s = row + (if s = 2 then 1 else 0) - (if s = 0 then 1 else 0) := by unfold nxR; rw [hrow]
  have eC : nxC (mI M p 0) k s = col + (if s = 1 then 1 else 0) - (if s = 3 then 1 else 0) := by unfold nxC; rw [hrow, hcol]
  have j4 : ∀ tr tc : Int32, nxR (mI M p 0) k s = tr → nxC (mI M p 0) k s = tc → Wf l X uX5_next (d + 1) true (mC M + 0, mS M + 0) 74 [(0, .ref 41), (1, .ref p), (2, .int k), (3, .int s), (4, .int row), (5, .int col), (6, .int tr), (7, .int tc)] [] M kr := by
    intro tr tc er ec
    have hbad : (tr < 0 ∨ mI M p 1 ≤ tr ∨ tc < 0 ∨ ¬ tc < mI M p 0) → Wf l X uX5_next (d + 1) true (mC M + 0, mS M + 0) 102 [(0, .ref 41), (1, .ref p), (2, .int k), (3, .int s), (4, .int row), (5, .int col), (6, .int tr), (7, .int tc)] [] M kr := by
      intro hb
      refine Wf.sIc tkX5_next rfl ?_
      refine Wf.sIr tkX5_next rfl ?_
      unfold nx5 at h
      rw [er, ec, if_pos hb] at h
      exact h
    refine Wf.sIl tkX5_next rfl rfl ?_
    refine Wf.sIf tkX5_next rfl (fun w => hbad (Or.inl w)) (fun w1 => ?_)
    refine Wf.sIl tkX5_next rfl rfl ?_
    refine Wf.sAl tkX5_next rfl rfl hp ?_
    refine Wf.sG tkX5_next rfl kp ?_
    refine Wf.sCm (x := tr) (y := mI M p 1) tkX5_next rfl (fun w => hbad (Or.inr (Or.inl w))) (fun w2 => ?_)
    refine Wf.sIl tkX5_next rfl rfl ?_
    refine Wf.sIf tkX5_next rfl (fun w => hbad (Or.inr (Or.inr (Or.inl w)))) (fun w3 => ?_)
    refine Wf.sIl tkX5_next rfl rfl ?_
    refine Wf.sAl tkX5_next rfl rfl hp ?_
    refine Wf.sG tkX5_next rfl kp ?_
    refine Wf.sCm (x := tc) (y := mI M p 0) tkX5_next rfl (fun w4 => ?_) (fun w => hbad (Or.inr (Or.inr (Or.inr w))))
    refine Wf.sIl tkX5_next rfl rfl ?_
    refine Wf.sAl tkX5_next rfl rfl hp ?_
    refine Wf.sG tkX5_next rfl kp ?_
    refine Wf.s2 (x := tr) (y := mI M p 0) tkX5_next rfl ?_
    refine Wf.sIl tkX5_next rfl rfl ?_
    refine Wf.s2 tkX5_next rfl ?_
    refine Wf.sIs tkX5_next rfl rfl ?_
    refine Wf.sAl tkX5_next rfl rfl hp ?_
    refine Wf.sIl tkX5_next rfl rfl ?_
    refine Wf.sCv (as := [.int (tr * mI M p 0 + tc)]) (rest := []) tkX5_next rfl rfl kp rfl ?_
    have hg : ¬ (tr < 0 ∨ mI M p 1 ≤ tr ∨ tc < 0 ∨ ¬ tc < mI M p 0) := by
      rintro (z | z | z | z)
      · exact w1 z
      · exact w2 z
      · exact w3 z
      · exact z w4
    unfold nx5 at h
    rw [er, ec, if_neg hg] at h
    refine k_wall hp kp (fun w => ?_) (fun w => ?_)
    · rw [if_pos w] at h
      refine Wf.sIf tkX5_next rfl (fun _ => ?_) (fun z => absurd rfl z)
      refine Wf.sIl tkX5_next rfl rfl ?_
      exact Wf.sIr tkX5_next rfl h
    · rw [if_neg w] at h
      refine Wf.sIf tkX5_next rfl (fun z => absurd z (by decide)) (fun _ => ?_)
      refine Wf.sIc tkX5_next rfl ?_
      refine Wf.sGo tkX5_next rfl ?_
      exact Wf.sIr tkX5_next rfl h
  have j3 : ∀ tr tc0 : Int32, nxR (mI M p 0) k s = tr → col + (if s = 1 then 1 else 0) = tc0 → Wf l X uX5_next (d + 1) true (mC M + 0, mS M + 0) 61 [(0, .ref 41), (1, .ref p), (2, .int k), (3, .int s), (4, .int row), (5, .int col), (6, .int tr)] [.int tc0] M kr := by
    intro tr tc0 er ec
    refine Wf.sIl tkX5_next rfl rfl ?_
    refine Wf.sIc tkX5_next rfl ?_
    refine Wf.sCm (x := s) (y := 3) tkX5_next rfl (fun w => ?_) (fun w => ?_)
    · refine Wf.sIc tkX5_next rfl ?_
      refine Wf.s2 tkX5_next rfl ?_
      refine Wf.sIs tkX5_next rfl rfl ?_
      exact j4 tr _ er (by rw [eC, ec, if_neg w])
    · refine Wf.sIc tkX5_next rfl ?_
      refine Wf.sGo tkX5_next rfl ?_
      refine Wf.s2 tkX5_next rfl ?_
      refine Wf.sIs tkX5_next rfl rfl ?_
      exact j4 tr _ er (by rw [eC, ec, if_pos w])
  have j2 : ∀ tr : Int32, nxR (mI M p 0) k s = tr → Wf l X uX5_next (d + 1) true (mC M + 0, mS M + 0) 48 [(0, .ref 41), (1, .ref p), (2, .int k), (3, .int s), (4, .int row), (5, .int col), (6, .int tr)] [] M kr := by
    intro tr er
    refine Wf.sIl tkX5_next rfl rfl ?_
    refine Wf.sIl tkX5_next rfl rfl ?_
    refine Wf.sIc tkX5_next rfl ?_
    refine Wf.sCm (x := s) (y := 1) tkX5_next rfl (fun w => ?_) (fun w => ?_)
    · refine Wf.sIc tkX5_next rfl ?_
      refine Wf.s2 tkX5_next rfl ?_
      exact j3 tr _ er (by rw [if_neg w])
    · refine Wf.sIc tkX5_next rfl ?_
      refine Wf.sGo tkX5_next rfl ?_
      refine Wf.s2 tkX5_next rfl ?_
      exact j3 tr _ er (by rw [if_pos w])
  have j1 : ∀ r0 : Int32, row + (if s = 2 then 1 else 0) = r0 → Wf l X uX5_next (d + 1) true (mC M + 0, mS M + 0) 36 [(0, .ref 41), (1, .ref p), (2, .int k), (3, .int s), (4, .int row), (5, .int col)] [.int r0] M kr := by
    intro r0 er
    refine Wf.sIl tkX5_next rfl rfl ?_
    refine Wf.sIf tkX5_next rfl (fun w => ?_) (fun w => ?_)
    · refine Wf.sIc tkX5_next rfl ?_
      refine Wf.s2 tkX5_next rfl ?_
      refine Wf.sIs tkX5_next rfl rfl ?_
      exact j2 _ (by rw [eR, er, if_neg w])
    · refine Wf.sIc tkX5_next rfl ?_
      refine Wf.sGo tkX5_next rfl ?_
      refine Wf.s2 tkX5_next rfl ?_
      refine Wf.sIs tkX5_next rfl rfl ?_
      exact j2 _ (by rw [eR, er, if_pos w])
  refine Wf.sIl tkX5_next rfl rfl ?_
  refine Wf.sIc tkX5_next rfl ?_
  refine Wf.sCm (x := s) (y := 2) tkX5_next rfl (fun w => ?_) (fun w => ?_)
  · refine Wf.sIc tkX5_next rfl ?_
    refine Wf.s2 tkX5_next rfl ?_
    exact j1 _ (by rw [if_neg w])
  · refine Wf.sIc tkX5_next rfl ?_
    refine Wf.sGo tkX5_next rfl ?_
    refine Wf.s2 tkX5_next rfl ?_
    exact j1 _ (by rw [if_pos w])
theorem nx5_b {w dp wl k s : Int32} (hw : 0 ≤ w.toInt ∧ w.toInt ≤ 5) (hd : 0 ≤ dp.toInt ∧ dp.toInt ≤ 4) : nx5 w dp wl k s = -2 ∨ (0 ≤ (nx5 w dp wl k s).toInt ∧ (nx5 w dp wl k s).toInt ≤ 19) := by
  unfold nx5
  split
  · exact Or.inl rfl
  · rename_i h
    split
    · refine Or.inr ?_
      generalize nxR w k s = r at h
      generalize nxC w k s = c at h
      have h1 : ¬ r < 0 := fun z => h (Or.inl z)
      have h2 : ¬ dp ≤ r := fun z => h (Or.inr (Or.inl z))
      have h3 : ¬ c < 0 := fun z => h (Or.inr (Or.inr (Or.inl z)))
      have h4 : c < w := Classical.byContradiction fun z => h (Or.inr (Or.inr (Or.inr z)))
      rw [Int32.lt_iff_toInt_lt] at h1 h3 h4
      rw [Int32.le_iff_toInt_le] at h2
      have e0 : (0 : Int32).toInt = 0 := rfl
      rw [e0] at h1 h3
      have e1 : r.toInt * w.toInt ≤ 3 * 5 := Int.mul_le_mul (by omega) hw.2 hw.1 (by omega)
      have e2 : 0 ≤ r.toInt * w.toInt := Int.mul_nonneg (by omega) hw.1
      have lo : iLo ≤ 0 := by decide
      have hi : (100 : Int) ≤ iHi := by decide
      have em : (r * w).toInt = r.toInt * w.toInt := mul_i (by omega) (by omega)
      rw [add_i (by rw [em]; omega) (by rw [em]; omega), em]
      omega
    · exact Or.inl rfl
set_option maxRecDepth 20000 in
theorem k_weight {k : Int32} (k41 : kk M 41 5 = true) (h : ∀ r : Int32, kr (some (.int r)) M) : Ev l X uX5_weight d true 0 0 [.ref 41, .int k] M kr := by
  refine Ev.of (by decide) (Nat.le_of_ble_eq_true rfl) ?_
  refine Wf.sAl tkX5_weight rfl rfl rfl ?_
  refine Wf.sG tkX5_weight rfl k41 ?_
  refine Wf.sIl tkX5_weight rfl rfl ?_
  refine Wf.s2 (x := mI M 41 1) (y := k) tkX5_weight rfl ?_
  refine Wf.sIc tkX5_weight rfl ?_
  refine Wf.s2 tkX5_weight rfl ?_
  refine Wf.sIc tkX5_weight rfl ?_
  refine Wf.s2 tkX5_weight rfl ?_
  exact Wf.sIr tkX5_weight rfl (h _)
/-- a step that leads somewhere -/
noncomputable def stG (M : Mm) (p : Nat) (k s : Int32) : Prop := ¬ nx5 (mI M p 0) (mI M p 1) (mI M p 3) k s = -2
set_option maxRecDepth 20000 in
theorem k_first {k : Nat} (hk : k ≤ 19) (hI : Iv Pt8 M) (hp : p = 7 ∨ p = 20) (h0 : kr (some (.int (-2))) M) (h1 : ∀ s : Int32, ¬ s = -2 → stG M p (nI k) s → kr (some (.int s)) M) : Ev l X uX5_firstStep (d + 2) true 0 0 [.ref 41, .ref p, .int (nI k)] M kr := by
  have hp0 : Nat.blt 0 p = true := by rcases hp with rfl | rfl <;> rfl
  have kp : kk M p 3 = true := by rcases hp with rfl | rfl <;> exact kk_ok hI (by decide +kernel)
  have k41 : kk M 41 5 = true := kk_ok hI (by decide +kernel)
  have k42 : kk M 42 9 = true := kk_ok hI (by decide +kernel)
  have r41 : mR M 41 0 = 42 := List.mem_singleton.mp (hI.2.2.1 41 0 (by decide))
  have m42 : (mK M 42).2 = 20 := by rw [hI.2.1 42 (by decide)]; rfl
  have bw : (0 : Int) ≤ (mI M p 0).toInt ∧ (mI M p 0).toInt ≤ 5 := by rcases hp with rfl | rfl <;> exact hI.2.2.2 _ 0 (by decide)
  have bd : (0 : Int) ≤ (mI M p 1).toInt ∧ (mI M p 1).toInt ≤ 4 := by rcases hp with rfl | rfl <;> exact hI.2.2.2 _ 1 (by decide)
  refine Ev.of (by decide) (Nat.le_of_ble_eq_true rfl) ?_
  have key : ∀ s, s ≤ 4 → ∀ zs : Ls, (zs = [] ∨ ∃ z : Int32, zs = [(4, .int z)]) → Wf l X uX5_firstStep (d + 2) true (mC M + 0, mS M + 0) 2 ([(0, .ref 41), (1, .ref p), (2, .int (nI k)), (3, .int (nI s))] ++ zs) [] M kr := by
    have kee : ∀ (s : Nat) (zs : Ls), (zs = [] ∨ ∃ z : Int32, zs = [(4, .int z)]) → Wf l X uX5_firstStep (d + 2) true (mC M + 0, mS M + 0) 2 [(0, .ref 41), (1, .ref p), (2, .int (nI k)), (3, .int (nI s))] [] M kr → Wf l X uX5_firstStep (d + 2) true (mC M + 0, mS M + 0) 2 ([(0, .ref 41), (1, .ref p), (2, .int (nI k)), (3, .int (nI s))] ++ zs) [] M kr := by
      intro s zs hz hW
      refine Wf.keep [0, 1, 2, 3] ?_
      rcases hz with rfl | ⟨z, rfl⟩ <;> exact hW
    refine dwn _ 4 ?_ ?_
    · intro zs hz
      refine kee 4 zs hz ?_
      refine Wf.sIl tkX5_firstStep rfl rfl ?_
      refine Wf.sIc tkX5_firstStep rfl ?_
      refine Wf.sCm (x := nI 4) (y := 4) tkX5_firstStep rfl (fun _ => ?_) (fun z => absurd (show (4 : Int32) ≤ nI 4 by decide) z)
      refine Wf.sIc tkX5_firstStep rfl ?_
      exact Wf.sIr tkX5_firstStep rfl h0
    · intro s hs ih zs hz
      refine kee s zs hz ?_
      have inc : ∀ o : Int32, Wf l X uX5_firstStep (d + 2) true (mC M + 0, mS M + 0) 49 [(0, .ref 41), (1, .ref p), (2, .int (nI k)), (3, .int (nI s)), (4, .int o)] [] M kr := by
        intro o
        refine Wf.sInc tkX5_firstStep rfl rfl rfl ?_
        refine Wf.sGo tkX5_firstStep rfl ?_
        rw [nI_1]
        exact ih [(4, .int o)] (Or.inr ⟨o, rfl⟩)
      refine Wf.sIl tkX5_firstStep rfl rfl ?_
      refine Wf.sIc tkX5_firstStep rfl ?_
      refine Wf.sCm (x := nI s) (y := 4) tkX5_firstStep rfl (fun z => absurd (show nI 4 ≤ nI s from z) (nI_ge hs (by decide))) (fun _ => ?_)
      refine Wf.sAl tkX5_firstStep rfl rfl rfl ?_
      refine Wf.sAl tkX5_firstStep rfl rfl hp0 ?_
      refine Wf.sIl tkX5_firstStep rfl rfl ?_
      refine Wf.sIl tkX5_firstStep rfl rfl ?_
      refine Wf.sCv (as := [.ref p, .int (nI k), .int (nI s)]) (rest := []) tkX5_firstStep rfl rfl k41 rfl ?_
      refine k_next5 hp0 kp ?_
      generalize ho : nx5 (mI M p 0) (mI M p 1) (mI M p 3) (nI k) (nI s) = o
      have hob := nx5_b (wl := mI M p 3) (k := nI k) (s := nI s) bw bd
      rw [ho] at hob
      refine Wf.sIs tkX5_firstStep rfl rfl ?_
      refine Wf.sIl tkX5_firstStep rfl rfl ?_
      refine Wf.sIc tkX5_firstStep rfl ?_
      refine Wf.sCm (x := o) (y := -2) tkX5_firstStep rfl (fun _ => inc o) (fun w => ?_)
      have w : ¬ o = -2 := w
      have hob : 0 ≤ o.toInt ∧ o.toInt ≤ 19 := by
        rcases hob with z | z
        · exact absurd z w
        · exact z
      refine Wf.sAl tkX5_firstStep rfl rfl rfl ?_
      refine Wf.sG tkX5_firstStep rfl k41 ?_
      show Wf l X uX5_firstStep (d + 2) true _ 27 _ [.ref (mR M 41 0)] M kr
      rw [r41]
      refine Wf.sIl tkX5_firstStep rfl rfl ?_
      refine Wf.sIal (j := o.toInt.toNat) tkX5_firstStep rfl k42 ⟨nI_at (by omega) (by omega), by omega, by rw [m42]; omega⟩ ?_
      refine Wf.sIc tkX5_firstStep rfl ?_
      refine Wf.s2 tkX5_firstStep rfl ?_
      refine Wf.sAl tkX5_firstStep rfl rfl rfl ?_
      refine Wf.sIl tkX5_firstStep rfl rfl ?_
      refine Wf.sCv (as := [.int (nI k)]) (rest := [.int (mI M 42 o.toInt.toNat + 1)]) tkX5_firstStep rfl rfl k41 rfl ?_
      refine k_weight k41 (fun r => ?_)
      refine Wf.s2 (x := mI M 42 o.toInt.toNat + 1) (y := r) tkX5_firstStep rfl ?_
      refine Wf.sAl tkX5_firstStep rfl rfl rfl ?_
      refine Wf.sG tkX5_firstStep rfl k41 ?_
      show Wf l X uX5_firstStep (d + 2) true _ 42 _ [.ref (mR M 41 0), .int (mI M 42 o.toInt.toNat + 1 + r)] M kr
      rw [r41]
      refine Wf.sIl tkX5_firstStep rfl rfl ?_
      refine Wf.sIal (j := k) tkX5_firstStep rfl k42 ⟨rfl, by omega, by rw [m42]; omega⟩ ?_
      refine Wf.sCm tkX5_firstStep rfl (fun _ => inc o) (fun _ => ?_)
      refine Wf.sIl tkX5_firstStep rfl rfl ?_
      refine Wf.sIr tkX5_firstStep rfl (h1 (nI s) ?_ (by unfold stG; rw [ho]; exact w))
      intro z
      have := congrArg Int32.toInt z
      rw [nI_toInt (by omega)] at this
      have e2 : (-2 : Int32).toInt = -2 := by decide
      omega
  refine Wf.sIc tkX5_firstStep rfl ?_
  refine Wf.sIs tkX5_firstStep rfl rfl ?_
  exact key 0 (by decide) [] (Or.inl rfl)
set_option maxRecDepth 20000 in
theorem sa_loop {b : Nat × Nat} {f0 i : Int32} (hI : Iv Pt8 M) (hp : p = 7 ∨ p = 20) (h : ∀ r : Int32, kr (some (.int r)) M) : ∀ (n : Nat) (k : Nat) (s gone : Int32), (i.toInt - gone.toInt).toNat < n → k ≤ 19 → (s = -2 ∨ stG M p (nI k) s) → Wf l X uX5_stepAt (d + 3) true b 15 [(0, .ref 41), (1, .ref p), (2, .int f0), (3, .int i), (4, .int (nI k)), (5, .int s), (6, .int gone)] [] M kr := by
  have hp0 : Nat.blt 0 p = true := by rcases hp with rfl | rfl <;> rfl
  have kp : kk M p 3 = true := by rcases hp with rfl | rfl <;> exact kk_ok hI (by decide +kernel)
  have k41 : kk M 41 5 = true := kk_ok hI (by decide +kernel)
  have bw : (0 : Int) ≤ (mI M p 0).toInt ∧ (mI M p 0).toInt ≤ 5 := by rcases hp with rfl | rfl <;> exact hI.2.2.2 _ 0 (by decide)
  have bd : (0 : Int) ≤ (mI M p 1).toInt ∧ (mI M p 1).toInt ≤ 4 := by rcases hp with rfl | rfl <;> exact hI.2.2.2 _ 1 (by decide)
  intro n
  induction n with
  | zero => intro k s gone hn; exact absurd hn (Nat.not_lt_zero _)
  | succ n ih =>
    intro k s gone hn hk hs
    have fin : Wf l X uX5_stepAt (d + 3) true b 54 [(0, .ref 41), (1, .ref p), (2, .int f0), (3, .int i), (4, .int (nI k)), (5, .int s), (6, .int gone)] [] M kr := by
      refine Wf.sIl tkX5_stepAt rfl rfl ?_
      exact Wf.sIr tkX5_stepAt rfl (h s)
    refine Wf.sIl tkX5_stepAt rfl rfl ?_
    refine Wf.sIl tkX5_stepAt rfl rfl ?_
    refine Wf.sCm (x := gone) (y := i) tkX5_stepAt rfl (fun _ => fin) (fun w1 => ?_)
    refine Wf.sIl tkX5_stepAt rfl rfl ?_
    refine Wf.sIc tkX5_stepAt rfl ?_
    refine Wf.sCm (x := s) (y := -2) tkX5_stepAt rfl (fun _ => fin) (fun w2 => ?_)
    have hs : stG M p (nI k) s := by
      rcases hs with z | z
      · exact absurd z w2
      · exact z
    refine Wf.sAl tkX5_stepAt rfl rfl rfl ?_
    refine Wf.sAl tkX5_stepAt rfl rfl hp0 ?_
    refine Wf.sIl tkX5_stepAt rfl rfl ?_
    refine Wf.sIl tkX5_stepAt rfl rfl ?_
    refine Wf.sCv (as := [.ref p, .int (nI k), .int s]) (rest := []) tkX5_stepAt rfl rfl k41 rfl ?_
    refine k_next5 (d := d + 1) hp0 kp ?_
    have hob := nx5_b (wl := mI M p 3) (k := nI k) (s := s) bw bd
    unfold stG at hs
    generalize ho : nx5 (mI M p 0) (mI M p 1) (mI M p 3) (nI k) s = o at hob hs ⊢
    have hob : 0 ≤ o.toInt ∧ o.toInt ≤ 19 := by
      rcases hob with z | z
      · exact absurd z hs
      · exact z
    have eo : o = nI o.toInt.toNat := nI_at (by omega) (by omega)
    rw [eo]
    refine Wf.sIs tkX5_stepAt rfl rfl ?_
    refine Wf.sAl tkX5_stepAt rfl rfl rfl ?_
    refine Wf.sAl tkX5_stepAt rfl rfl hp0 ?_
    refine Wf.sIl tkX5_stepAt rfl rfl ?_
    refine Wf.sCv (as := [.ref p, .int (nI o.toInt.toNat)]) (rest := []) tkX5_stepAt rfl rfl k41 rfl ?_
    have go : ∀ s' : Int32, (s' = -2 ∨ stG M p (nI o.toInt.toNat) s') → Wf l X uX5_stepAt (d + 3) true b 46 [(0, .ref 41), (1, .ref p), (2, .int f0), (3, .int i), (4, .int (nI o.toInt.toNat)), (5, .int s), (6, .int gone)] [.int s'] M kr := by
      intro s' hs'
      refine Wf.sIs tkX5_stepAt rfl rfl ?_
      refine Wf.sInc tkX5_stepAt rfl rfl rfl ?_
      refine Wf.sGo tkX5_stepAt rfl ?_
      have w1 : ¬ i ≤ gone := w1
      rw [Int32.le_iff_toInt_le] at w1
      have hi := i32_hi i
      have eg : (gone + 1).toInt = gone.toInt + 1 := add_i (by have := i32_lo gone; have e1 : (1 : Int32).toInt = 1 := rfl; omega) (by have e1 : (1 : Int32).toInt = 1 := rfl; omega)
      exact ih o.toInt.toNat s' (gone + 1) (by rw [eg]; omega) (by omega) hs'
    exact k_first (d := d) (by omega) hI hp (go (-2) (Or.inl rfl)) (fun s' _ hs' => go s' (Or.inr hs'))
set_option maxRecDepth 20000 in
theorem vh_stepAt {e : Int} (d : Nat) : Vc l X U0 Pt8 e (d + 4) ((47, [(2, 0, 0, [41]), (2, 0, 0, [7, 20]), (0, 0, 19, []), (0, iLo, iHi, [])], []), [], [(some (0, iLo, iHi, []), [], [])]) := by
  intro av M kr hI he hb hf hr
  obtain ⟨v, t, rfl, hv, ht⟩ := gbs_1 hb
  obtain ⟨v2, t, rfl, hv2, ht⟩ := gbs_1 ht
  obtain ⟨v3, t, rfl, hv3, ht⟩ := gbs_1 ht
  obtain ⟨v4, t, rfl, hv4, ht⟩ := gbs_1 ht
  obtain rfl := gbs_0 ht
  obtain rfl := gb_r1 hv
  obtain ⟨p, rfl, hm⟩ := gb_r hv2
  obtain ⟨k, rfl, hk1, hk2⟩ := gb_i hv3
  obtain ⟨i, rfl, -, -⟩ := gb_i hv4
  have hp : p = 7 ∨ p = 20 := by
    rcases List.mem_cons.mp hm with z | z
    · exact Or.inl z
    · exact Or.inr (List.mem_singleton.mp z)
  have hp0 : Nat.blt 0 p = true := by rcases hp with rfl | rfl <;> rfl
  have k41 : kk M 41 5 = true := kk_ok hI (by decide +kernel)
  have hk : ∀ r : Int32, kr (some (.int r)) M := fun r => hr _ M (Jv.rf hI he) gps_any
  have ek : k = nI k.toInt.toNat := nI_at (by omega) (by omega)
  show Ev l X uX5_stepAt (d + 4) true 0 0 _ M kr
  refine Ev.of (by decide) (Nat.le_of_ble_eq_true rfl) ?_
  rw [ek]
  refine Wf.sIl tkX5_stepAt rfl rfl ?_
  refine Wf.sIs tkX5_stepAt rfl rfl ?_
  refine Wf.sAl tkX5_stepAt rfl rfl rfl ?_
  refine Wf.sAl tkX5_stepAt rfl rfl hp0 ?_
  refine Wf.sIl tkX5_stepAt rfl rfl ?_
  refine Wf.sCv (as := [.ref p, .int (nI k.toInt.toNat)]) (rest := []) tkX5_stepAt rfl rfl k41 rfl ?_
  have go : ∀ s : Int32, (s = -2 ∨ stG M p (nI k.toInt.toNat) s) → Wf l X uX5_stepAt (d + 4) true (mC M + 0, mS M + 0) 10 [(0, .ref 41), (1, .ref p), (2, .int (nI k.toInt.toNat)), (3, .int i), (4, .int (nI k.toInt.toNat))] [.int s] M kr := by
    intro s hs
    refine Wf.sIs tkX5_stepAt rfl rfl ?_
    refine Wf.sIc tkX5_stepAt rfl ?_
    refine Wf.sIs tkX5_stepAt rfl rfl ?_
    exact sa_loop (d := d + 1) hI hp hk ((i.toInt - (0 : Int32).toInt).toNat + 1) k.toInt.toNat s 0 (Nat.lt_succ_self _) (by omega) hs
  exact k_first (d := d + 1) (by omega) hI hp (go (-2) (Or.inl rfl)) (fun s' _ hs' => go s' (Or.inr hs'))
end STP5
end
section
/-! the reference's sums over calm days: all weights together are 100 to the n, so not 0 -/
noncomputable def bt (s k : Nat) : Bool := decide (((nI s) >>> (nI k &&& 31)) &&& 1 = 1)
noncomputable def wt (c s k : Nat) : Nat := if bt s k = true then c else 100 - c
noncomputable def pw (c s : Nat) : Nat → Nat
  | 0 => 1
  | k + 1 => pw c s k * wt c s k
noncomputable def smw (c N : Nat) : Nat → Nat
  | 0 => 0
  | s + 1 => smw c N s + pw c s N
theorem wt_le {c s k : Nat} (hc : c ≤ 100) : wt c s k ≤ 100 := by
  unfold wt
  split <;> omega
theorem pw_le {c s : Nat} (hc : c ≤ 100) : ∀ k, pw c s k ≤ 100 ^ k
  | 0 => Nat.le_refl _
  | k + 1 => by
    show pw c s k * wt c s k ≤ 100 ^ k * 100
    exact Nat.mul_le_mul (pw_le hc k) (wt_le hc)
theorem pw_le7 {c s k : Nat} (hc : c ≤ 100) (hk : k ≤ 7) : pw c s k ≤ 100000000000000 :=
  Nat.le_trans (pw_le hc k) (Nat.le_trans (Nat.pow_le_pow_right (by decide) hk) (by decide))
theorem smw_le {c N : Nat} (hc : c ≤ 100) (hN : N ≤ 7) : ∀ s, smw c N s ≤ s * 100000000000000
  | 0 => Nat.zero_le _
  | s + 1 => by
    show smw c N s + pw c s N ≤ (s + 1) * 100000000000000
    have h1 := smw_le (c := c) (N := N) hc hN s
    have h2 := pw_le7 (c := c) (s := s) hc hN
    omega
theorem pw_pos {c s : Nat} : ∀ k, (∀ j, j < k → 1 ≤ wt c s j) → 1 ≤ pw c s k
  | 0, _ => Nat.le_refl _
  | k + 1, h => Nat.mul_pos (pw_pos k (fun j hj => h j (by omega))) (h k (by omega))
theorem bt0 : ∀ k : Fin 7, bt 0 k.val = false := by decide +kernel
theorem bt1 : ∀ (n : Fin 8) (k : Fin 7), k.val < n.val → bt (2 ^ n.val - 1) k.val = true := by decide +kernel
theorem smw_mono {c N s : Nat} : ∀ n, smw c N s ≤ smw c N (s + n)
  | 0 => Nat.le_refl _
  | n + 1 => Nat.le_trans (smw_mono n) (Nat.le_add_right _ _)
theorem smw_pos {c N : Nat} (hc : c ≤ 100) (hN : N ≤ 7) : 1 ≤ smw c N (2 ^ N) := by
  have hp : 0 < 2 ^ N := Nat.pow_pos (by decide)
  by_cases h : c < 100
  · have h1 : 1 ≤ pw c 0 N := pw_pos N (fun j hj => by
      unfold wt
      rw [bt0 ⟨j, by omega⟩, if_neg (by decide)]
      omega)
    have h2 := smw_mono (c := c) (N := N) (s := 1) (2 ^ N - 1)
    rw [show 1 + (2 ^ N - 1) = 2 ^ N by omega] at h2
    have h3 : smw c N 1 = 0 + pw c 0 N := rfl
    omega
  · have h1 : 1 ≤ pw c (2 ^ N - 1) N := pw_pos N (fun j hj => by
      unfold wt
      rw [bt1 ⟨N, by omega⟩ ⟨j, by omega⟩ hj, if_pos rfl]
      omega)
    have h3 : smw c N (2 ^ N - 1 + 1) = smw c N (2 ^ N - 1) + pw c (2 ^ N - 1) N := rfl
    rw [show 2 ^ N - 1 + 1 = 2 ^ N by omega] at h3
    omega
theorem add64 {x y : Int64} (h1 : lLo ≤ x.toInt + y.toInt) (h2 : x.toInt + y.toInt ≤ lHi) : (x + y).toInt = x.toInt + y.toInt := by
  unfold lLo at h1
  unfold lHi at h2
  rw [Int64.toInt_add]
  exact Int.bmod_eq_of_le (by omega) (by omega)
theorem mul64 {x y : Int64} (h1 : lLo ≤ x.toInt * y.toInt) (h2 : x.toInt * y.toInt ≤ lHi) : (x * y).toInt = x.toInt * y.toInt := by
  unfold lLo at h1
  unfold lHi at h2
  rw [Int64.toInt_mul]
  exact Int.bmod_eq_of_le (by omega) (by omega)
section TCM
variable {l : Launch} {X : Nat × (Nat → Int32)} {d : Nat} {M : Mm} {kr : KR}
set_option maxRecDepth 20000 in
theorem k_bit {s k : Int32} (h0 : ¬ (s >>> (k &&& 31)) &&& 1 = 1 → kr (some (.int 0)) M) (h1 : (s >>> (k &&& 31)) &&& 1 = 1 → kr (some (.int 1)) M) : Ev l X uX7_hasBit d true 0 0 [.int s, .int k] M kr := by
  refine Ev.of (by decide) (Nat.le_of_ble_eq_true rfl) ?_
  refine Wf.sIl tkX7_hasBit rfl rfl ?_
  refine Wf.sIl tkX7_hasBit rfl rfl ?_
  refine Wf.s2 tkX7_hasBit rfl ?_
  refine Wf.sIc tkX7_hasBit rfl ?_
  refine Wf.s2 tkX7_hasBit rfl ?_
  refine Wf.sIc tkX7_hasBit rfl ?_
  refine Wf.sCm tkX7_hasBit rfl (fun w => ?_) (fun w => ?_)
  · refine Wf.sIc tkX7_hasBit rfl ?_
    exact Wf.sZr tkX7_hasBit rfl (Or.inl rfl) (h0 w)
  · refine Wf.sIc tkX7_hasBit rfl ?_
    refine Wf.sGo tkX7_hasBit rfl ?_
    exact Wf.sZr tkX7_hasBit rfl (Or.inr rfl) (h1 w)
noncomputable def msT : Md3 := [(150, 40, 42), (160, 0, 4), (161, 0, 24)]
noncomputable def msD9 : Md3 := [(160, 0, 4), (161, 0, 24)]
theorem shl_n {N : Nat} (hN : N ≤ 7) : (1 : Int32) <<< (nI N &&& 31) = nI (2 ^ N) := by
  refine Int32.toInt_inj.mp ?_
  have h := shl1 ⟨N, by omega⟩
  have h2 : 2 ^ N ≤ 2 ^ 7 := Nat.pow_le_pow_right (by decide) hN
  rw [nI_toInt (by omega)]
  exact h
/-- a state that a call within leaves -/
theorem Jv_tr {P : Pk} {M0 : Mm × Int} {M M' : Mm} {ms ms' : Md3} (h : Jv P ms M0 M) (h' : Jv P ms' (M, M0.2) M') (hs : ms'.all (fun m => ina ms m.1 m.2.1 m.2.2) = true) : Jv P ms M0 M' := by
  refine ⟨h'.1.trans h.1, h'.2.1, fun a k hk => ?_, h'.2.2.2⟩
  have hk2 : inm ms' a k = false := by
    cases hq : inm ms' a k with
    | false => rfl
    | true =>
      obtain ⟨m, hm, h4⟩ := List.any_eq_true.mp hq
      obtain ⟨h4, h5⟩ := andT h4
      obtain ⟨h5, h6⟩ := andT h5
      have h7 := ina_in (List.all_eq_true.mp hs m hm) (Nat.le_of_ble_eq_true h5) (Nat.le_of_ble_eq_true h6)
      rw [Nat.eq_of_beq_eq_true h4] at h7
      rw [h7] at hk
      cases hk
  obtain ⟨h4, h5, h8⟩ := h'.2.2.1 a k hk2
  obtain ⟨h6, h7, h9⟩ := h.2.2.1 a k hk
  exact ⟨h4.trans h6, h5.trans h7, h8.trans h9⟩
variable {R : List (Nat × List Row)} {e : Int}
/-- what is asked of the days: so many contracts, in plain words -/
noncomputable def dysO (l : Launch) (X : Nat × (Nat → Int32)) (R : List (Nat × List Row)) (e : Int) (d : Nat) : Prop := (∀ (M : Mm) (kr : KR), Iv (mkP R) M → eO e M → (∀ M', Jv (mkP R) msD9 (M, e) M' → kr none M') → Ev l X uX7_daysOn d true 0 0 [.ref 150, .int 0] M kr) ∧ (∀ (b : Int32) (M : Mm) (kr : KR), (b = 0 ∨ b = 1) → Iv (mkP R) M → eO e M → (∀ M', Jv (mkP R) msD9 (M, e) M' → kr none M') → Ev l X uX7_dayOn d true 0 0 [.ref 150, .ref 161, .int b] M kr)
set_option maxRecDepth 20000 in
theorem tc_inner {M0 : Mm} {b : Nat × Nat} {c N F s : Nat} (hc : c ≤ 100) (hN : N ≤ 7) (hs : s < 2 ^ N) (hD : dysO l X R e (d + 5)) (hr0 : mI M0 153 2 = nI c) (g : Int64) (h : ∀ (w : Int64) (M : Mm), Jv (mkP R) msT (M0, e) M → mL M 150 40 = g → w.toInt = (pw c s N : Int) → Wf l X uX7_tryCalms (d + 6) true b 95 [(0, .ref 150), (1, .int (nI F)), (2, .int (nI N)), (3, .int (nI s)), (4, .long w), (6, .int (nI N))] [] M kr) : ∀ k : Nat, k ≤ N → ∀ (w : Int64) (M : Mm), Jv (mkP R) msT (M0, e) M → mL M 150 40 = g → w.toInt = (pw c s k : Int) → Wf l X uX7_tryCalms (d + 6) true b 35 [(0, .ref 150), (1, .int (nI F)), (2, .int (nI N)), (3, .int (nI s)), (4, .long w), (6, .int (nI k))] [] M kr := by
  refine dwn _ N ?_ ?_
  · intro w M hJ hg hw
    refine Wf.sIl tkX7_tryCalms rfl rfl ?_
    refine Wf.sIl tkX7_tryCalms rfl rfl ?_
    refine Wf.sCm (x := nI N) (y := nI N) tkX7_tryCalms rfl (fun _ => h w M hJ hg hw) (fun z => absurd (Int32.le_refl _) z)
  · intro k hk ih w M hJ hg hw
    have k150 : kk M 150 7 = true := kk_ok hJ.2.1 rfl
    have k153 : kk M 153 9 = true := kk_ok hJ.2.1 rfl
    have r15 : mR M 150 15 = 153 := List.mem_singleton.mp (hJ.2.1.2.2.1 150 15 (by decide))
    have r25 : mR M 150 25 = 161 := List.mem_singleton.mp (hJ.2.1.2.2.1 150 25 (by decide))
    have m153 : (mK M 153).2 = 202 := by rw [hJ.2.1.2.1 153 (by decide)]; rfl
    have hr : mI M 153 2 = nI c := by rw [(hJ.2.2.1 153 2 rfl).1]; exact hr0
    have hpw := pw_le7 (c := c) (s := s) (k := k) hc (by omega)
    have hwt := wt_le (c := c) (s := s) (k := k) hc
    have big : (100000000000000 * 100 : Int) ≤ lHi := by decide
    have low : lLo ≤ 0 := by decide
    have mulw : ∀ y : Int64, y.toInt = (wt c s k : Int) → (w * y).toInt = (pw c s (k + 1) : Int) := by
      intro y hy
      have e1 : (pw c s k : Int) * (wt c s k : Int) ≤ 100000000000000 * 100 := Int.mul_le_mul (by omega) (by omega) (by omega) (by omega)
      have e2 : 0 ≤ (pw c s k : Int) * (wt c s k : Int) := Int.mul_nonneg (by omega) (by omega)
      rw [mul64 (by rw [hw, hy]; omega) (by rw [hw, hy]; omega), hw, hy]
      exact (Int.natCast_mul _ _).symm
    have go : ∀ y : Int64, y.toInt = (wt c s k : Int) → Wf l X uX7_tryCalms (d + 6) true b 72 [(0, .ref 150), (1, .int (nI F)), (2, .int (nI N)), (3, .int (nI s)), (4, .long w), (6, .int (nI k))] [.long y, .long w] M kr := by
      intro y hy
      refine Wf.sL2 tkX7_tryCalms rfl ?_
      refine Wf.sLs tkX7_tryCalms rfl rfl ?_
      refine Wf.sAl tkX7_tryCalms rfl rfl rfl ?_
      refine Wf.sAl tkX7_tryCalms rfl rfl rfl ?_
      refine Wf.sG tkX7_tryCalms rfl k150 ?_
      show Wf l X uX7_tryCalms (d + 6) true b 80 _ [.ref (mR M 150 25), .ref 150] M kr
      rw [r25]
      refine Wf.sIl tkX7_tryCalms rfl rfl ?_
      refine Wf.sIl tkX7_tryCalms rfl rfl ?_
      refine Wf.sCs (as := [.int (nI s), .int (nI k)]) (rest := [.ref 161, .ref 150]) tkX7_tryCalms rfl rfl rfl ?_
      have dn : ∀ bb : Int32, (bb = 0 ∨ bb = 1) → Wf l X uX7_tryCalms (d + 6) true b 86 [(0, .ref 150), (1, .int (nI F)), (2, .int (nI N)), (3, .int (nI s)), (4, .long (w * y)), (6, .int (nI k))] [.int bb, .ref 161, .ref 150] M kr := by
        intro bb hbb
        refine Wf.sCv (as := [.ref 161, .int bb]) (rest := []) tkX7_tryCalms rfl rfl k150 rfl ?_
        refine hD.2 bb M _ hbb hJ.2.1 hJ.2.2.2 (fun M' hJ' => ?_)
        have hJ2 := Jv_tr hJ hJ' (by decide)
        refine Wf.sInc tkX7_tryCalms rfl rfl rfl ?_
        refine Wf.sGo tkX7_tryCalms rfl ?_
        rw [nI_1]
        exact ih (w * y) M' hJ2 (by rw [(hJ'.2.2.1 150 40 (by decide)).2.2]; exact hg) (mulw y hy)
      exact k_bit (fun _ => dn 0 (Or.inl rfl)) (fun _ => dn 1 (Or.inr rfl))
    refine Wf.sIl tkX7_tryCalms rfl rfl ?_
    refine Wf.sIl tkX7_tryCalms rfl rfl ?_
    refine Wf.sCm (x := nI k) (y := nI N) tkX7_tryCalms rfl (fun z => absurd z (nI_ge hk (by omega))) (fun _ => ?_)
    refine Wf.sLl tkX7_tryCalms rfl rfl ?_
    refine Wf.sIl tkX7_tryCalms rfl rfl ?_
    refine Wf.sIl tkX7_tryCalms rfl rfl ?_
    refine Wf.sCs (as := [.int (nI s), .int (nI k)]) (rest := [.long w]) tkX7_tryCalms rfl rfl rfl ?_
    refine k_bit (fun hb => ?_) (fun hb => ?_)
    · refine Wf.sIf tkX7_tryCalms rfl (fun _ => ?_) (fun z => absurd rfl z)
      refine Wf.sIc tkX7_tryCalms rfl ?_
      refine Wf.sAl tkX7_tryCalms rfl rfl rfl ?_
      refine Wf.sG tkX7_tryCalms rfl k150 ?_
      show Wf l X uX7_tryCalms (d + 6) true b 68 _ [.ref (mR M 150 15), .int 100, .long w] M kr
      rw [r15]
      refine Wf.sIc tkX7_tryCalms rfl ?_
      refine Wf.sIal (j := 2) tkX7_tryCalms rfl k153 ⟨by decide, by decide, by rw [m153]; decide⟩ ?_
      rw [hr]
      refine Wf.s2 tkX7_tryCalms rfl ?_
      refine Wf.si2l tkX7_tryCalms rfl ?_
      refine go _ ?_
      have hbf : bt s k = false := decide_eq_false hb
      unfold wt
      rw [hbf, if_neg (by decide), Int32.toInt_toInt64]
      show ((100 : Int32) - nI c).toInt = _
      have e1 : (100 : Int32).toInt = 100 := by decide
      have e2 : (nI c).toInt = (c : Int) := nI_toInt (by omega)
      have lo : iLo ≤ 0 := by decide
      have hi : (100 : Int) ≤ iHi := by decide
      rw [sub_i (by omega) (by omega), e1, e2]
      omega
    · refine Wf.sIf tkX7_tryCalms rfl (fun z => absurd z (by decide)) (fun _ => ?_)
      refine Wf.sAl tkX7_tryCalms rfl rfl rfl ?_
      refine Wf.sG tkX7_tryCalms rfl k150 ?_
      show Wf l X uX7_tryCalms (d + 6) true b 56 _ [.ref (mR M 150 15), .long w] M kr
      rw [r15]
      refine Wf.sIc tkX7_tryCalms rfl ?_
      refine Wf.sIal (j := 2) tkX7_tryCalms rfl k153 ⟨by decide, by decide, by rw [m153]; decide⟩ ?_
      rw [hr]
      refine Wf.si2l tkX7_tryCalms rfl ?_
      refine Wf.sGo tkX7_tryCalms rfl ?_
      refine go _ ?_
      have hbf : bt s k = true := decide_eq_true hb
      unfold wt
      rw [hbf, if_pos rfl, Int32.toInt_toInt64]
      exact nI_toInt (by omega)
set_option maxRecDepth 20000 in
theorem tc_outer {M0 : Mm} {b : Nat × Nat} {c N F : Nat} (hc : c ≤ 100) (hN : N ≤ 7) (hF : F ≤ 5) (hD : dysO l X R e (d + 5)) (hr0 : mI M0 153 2 = nI c) (h : ∀ M, Jv (mkP R) msT (M0, e) M → 1 ≤ (mL M 150 40).toInt → kr none M) : ∀ s : Nat, s ≤ 2 ^ N → ∀ (zs : Ls) (M : Mm), (zs = [] ∨ ∃ (w : Int64) (k : Int32), zs = [(4, .long w), (6, .int k)]) → Jv (mkP R) msT (M0, e) M → (mL M 150 40).toInt = (smw c N s : Int) → Wf l X uX7_tryCalms (d + 6) true b 17 ([(0, .ref 150), (1, .int (nI F)), (2, .int (nI N)), (3, .int (nI s))] ++ zs) [] M kr := by
  have h27 : 2 ^ N ≤ 2 ^ 7 := Nat.pow_le_pow_right (by decide) hN
  have kee : ∀ (s : Nat) (zs : Ls) (M : Mm), (zs = [] ∨ ∃ (w : Int64) (k : Int32), zs = [(4, .long w), (6, .int k)]) → Wf l X uX7_tryCalms (d + 6) true b 17 [(0, .ref 150), (1, .int (nI F)), (2, .int (nI N)), (3, .int (nI s))] [] M kr → Wf l X uX7_tryCalms (d + 6) true b 17 ([(0, .ref 150), (1, .int (nI F)), (2, .int (nI N)), (3, .int (nI s))] ++ zs) [] M kr := by
    intro s zs M hz hW
    refine Wf.keep [0, 1, 2, 3] ?_
    rcases hz with rfl | ⟨w, k, rfl⟩ <;> exact hW
  refine dwn _ (2 ^ N) ?_ ?_
  · intro zs M hz hJ hg
    refine kee _ zs M hz ?_
    refine Wf.sIl tkX7_tryCalms rfl rfl ?_
    refine Wf.sIc tkX7_tryCalms rfl ?_
    refine Wf.sIl tkX7_tryCalms rfl rfl ?_
    refine Wf.s2 tkX7_tryCalms rfl ?_
    show Wf l X uX7_tryCalms (d + 6) true b 21 _ [.int ((1 : Int32) <<< (nI N &&& 31)), .int (nI (2 ^ N))] M kr
    rw [shl_n hN]
    refine Wf.sCm (x := nI (2 ^ N)) (y := nI (2 ^ N)) tkX7_tryCalms rfl (fun _ => ?_) (fun z => absurd (Int32.le_refl _) z)
    refine Wf.sVr tkX7_tryCalms rfl (h M hJ ?_)
    rw [hg]
    have := smw_pos (c := c) (N := N) hc hN
    omega
  · intro s hs ih zs M hz hJ hg
    refine kee _ zs M hz ?_
    have k150 : kk M 150 7 = true := kk_ok hJ.2.1 rfl
    refine Wf.sIl tkX7_tryCalms rfl rfl ?_
    refine Wf.sIc tkX7_tryCalms rfl ?_
    refine Wf.sIl tkX7_tryCalms rfl rfl ?_
    refine Wf.s2 tkX7_tryCalms rfl ?_
    show Wf l X uX7_tryCalms (d + 6) true b 21 _ [.int ((1 : Int32) <<< (nI N &&& 31)), .int (nI s)] M kr
    rw [shl_n hN]
    refine Wf.sCm (x := nI s) (y := nI (2 ^ N)) tkX7_tryCalms rfl (fun z => absurd z (nI_ge hs (by omega))) (fun _ => ?_)
    refine Wf.sLc tkX7_tryCalms rfl ?_
    refine Wf.sLs tkX7_tryCalms rfl rfl ?_
    refine Wf.sAl tkX7_tryCalms rfl rfl rfl ?_
    refine Wf.sIc tkX7_tryCalms rfl ?_
    refine Wf.sCv (as := [.int 0]) (rest := []) tkX7_tryCalms rfl rfl k150 rfl ?_
    refine hD.1 M _ hJ.2.1 hJ.2.2.2 (fun M1 hJ1 => ?_)
    have hJ2 := Jv_tr hJ hJ1 (by decide)
    have hg1 : mL M1 150 40 = mL M 150 40 := (hJ1.2.2.1 150 40 (by decide)).2.2
    refine Wf.sIc tkX7_tryCalms rfl ?_
    refine Wf.sIs tkX7_tryCalms rfl rfl ?_
    refine tc_inner hc hN hs hD hr0 (mL M 150 40) (fun w M3 hJ3 hg3 hw => ?_) 0 (Nat.zero_le _) 1 M1 hJ2 hg1 rfl
    have k150 : kk M3 150 7 = true := kk_ok hJ3.2.1 rfl
    have k157 : kk M3 157 9 = true := kk_ok hJ3.2.1 rfl
    have k161 : kk M3 161 9 = true := kk_ok hJ3.2.1 rfl
    have r25 : mR M3 150 25 = 161 := List.mem_singleton.mp (hJ3.2.1.2.2.1 150 25 (by decide))
    have r19 : mR M3 150 19 = 157 := List.mem_singleton.mp (hJ3.2.1.2.2.1 150 19 (by decide))
    have m157 : (mK M3 157).2 = 25 := by rw [hJ3.2.1.2.1 157 (by decide)]; rfl
    have m161 : (mK M3 161).2 = 25 := by rw [hJ3.2.1.2.1 161 (by decide)]; rfl
    have hsum : (mL M3 150 40 + w).toInt = (smw c N (s + 1) : Int) := by
      have b1 := smw_le (c := c) (N := N) hc hN s
      have b2 := pw_le7 (c := c) (s := s) hc hN
      have big : (1000 * 100000000000000 : Int) ≤ lHi := by decide
      have low : lLo ≤ 0 := by decide
      have e1 : (mL M3 150 40).toInt = (smw c N s : Int) := by rw [hg3]; exact hg
      rw [add64 (by rw [e1, hw]; omega) (by rw [e1, hw]; omega), e1, hw]
      exact (Int.natCast_add _ _).symm
    have hJa : Jv (mkP R) msT (M0, e) (wL M3 150 40 (mL M3 150 40 + w)) := Jv.wL hJ3 (by decide)
    refine Wf.sAl tkX7_tryCalms rfl rfl rfl ?_
    refine Wf.sDup tkX7_tryCalms rfl rfl ?_
    refine Wf.sG tkX7_tryCalms rfl k150 ?_
    refine Wf.sLl tkX7_tryCalms rfl rfl ?_
    refine Wf.sL2 (x := mL M3 150 40) (y := w) tkX7_tryCalms rfl ?_
    refine Wf.sPL tkX7_tryCalms rfl k150 ?_
    generalize hMa : wL M3 150 40 (mL M3 150 40 + w) = Ma at hJa ⊢
    have ga : (mL Ma 150 40).toInt = (smw c N (s + 1) : Int) := by rw [← hMa, mL_w, if_pos ⟨rfl, rfl⟩]; exact hsum
    have k150 : kk Ma 150 7 = true := kk_ok hJa.2.1 rfl
    have k157 : kk Ma 157 9 = true := kk_ok hJa.2.1 rfl
    have k161 : kk Ma 161 9 = true := kk_ok hJa.2.1 rfl
    have r25 : mR Ma 150 25 = 161 := List.mem_singleton.mp (hJa.2.1.2.2.1 150 25 (by decide))
    have r19 : mR Ma 150 19 = 157 := List.mem_singleton.mp (hJa.2.1.2.2.1 150 19 (by decide))
    have m157 : (mK Ma 157).2 = 25 := by rw [hJa.2.1.2.1 157 (by decide)]; rfl
    have m161 : (mK Ma 161).2 = 25 := by rw [hJa.2.1.2.1 161 (by decide)]; rfl
    have last : ∀ Mb, Jv (mkP R) msT (M0, e) Mb → (mL Mb 150 40).toInt = (smw c N (s + 1) : Int) → Wf l X uX7_tryCalms (d + 6) true b 142 [(0, .ref 150), (1, .int (nI F)), (2, .int (nI N)), (3, .int (nI s)), (4, .long w), (6, .int (nI N))] [] Mb kr := by
      intro Mb hJb gb
      have k150 : kk Mb 150 7 = true := kk_ok hJb.2.1 rfl
      have k161 : kk Mb 161 9 = true := kk_ok hJb.2.1 rfl
      have r25 : mR Mb 150 25 = 161 := List.mem_singleton.mp (hJb.2.1.2.2.1 150 25 (by decide))
      have m161 : (mK Mb 161).2 = 25 := by rw [hJb.2.1.2.1 161 (by decide)]; rfl
      refine Wf.sAl tkX7_tryCalms rfl rfl rfl ?_
      refine Wf.sDup tkX7_tryCalms rfl rfl ?_
      refine Wf.sG tkX7_tryCalms rfl k150 ?_
      refine Wf.sLl tkX7_tryCalms rfl rfl ?_
      refine Wf.sAl tkX7_tryCalms rfl rfl rfl ?_
      refine Wf.sG tkX7_tryCalms rfl k150 ?_
      show Wf l X uX7_tryCalms (d + 6) true b 153 _ [.ref (mR Mb 150 25), .long w, .long (mL Mb 150 42), .ref 150] Mb kr
      rw [r25]
      refine Wf.sIc tkX7_tryCalms rfl ?_
      refine Wf.sIl tkX7_tryCalms rfl rfl ?_
      refine Wf.s2 (x := 6) (y := nI F) tkX7_tryCalms rfl ?_
      refine Wf.sIal (j := 6 + F) tkX7_tryCalms rfl k161 ⟨nI_add 6 F, by omega, by rw [m161]; omega⟩ ?_
      refine Wf.si2l tkX7_tryCalms rfl ?_
      refine Wf.sL2 tkX7_tryCalms rfl ?_
      refine Wf.sL2 tkX7_tryCalms rfl ?_
      refine Wf.sPL tkX7_tryCalms rfl k150 ?_
      refine Wf.sInc tkX7_tryCalms rfl rfl rfl ?_
      refine Wf.sGo tkX7_tryCalms rfl ?_
      rw [nI_1]
      exact ih [(4, .long w), (6, .int (nI N))] _ (Or.inr ⟨w, nI N, rfl⟩) (Jv.wL hJb (by decide)) (by rw [mL_w, if_neg (by decide)]; exact gb)
    have mid : ∀ y : Int64, Wf l X uX7_tryCalms (d + 6) true b 138 [(0, .ref 150), (1, .int (nI F)), (2, .int (nI N)), (3, .int (nI s)), (4, .long w), (6, .int (nI N))] [.long y, .long (mL Ma 150 41), .ref 150] Ma kr := by
      intro y
      refine Wf.sL2 tkX7_tryCalms rfl ?_
      refine Wf.sPL tkX7_tryCalms rfl k150 ?_
      exact last _ (Jv.wL hJa (by decide)) (by rw [mL_w, if_neg (by decide)]; exact ga)
    refine Wf.sAl tkX7_tryCalms rfl rfl rfl ?_
    refine Wf.sDup tkX7_tryCalms rfl rfl ?_
    refine Wf.sG tkX7_tryCalms rfl k150 ?_
    refine Wf.sAl tkX7_tryCalms rfl rfl rfl ?_
    refine Wf.sG tkX7_tryCalms rfl k150 ?_
    show Wf l X uX7_tryCalms (d + 6) true b 115 _ [.ref (mR Ma 150 25), .long (mL Ma 150 41), .ref 150] Ma kr
    rw [r25]
    refine Wf.sIc tkX7_tryCalms rfl ?_
    refine Wf.sIl tkX7_tryCalms rfl rfl ?_
    refine Wf.s2 (x := 12) (y := nI F) tkX7_tryCalms rfl ?_
    refine Wf.sIal (j := 12 + F) tkX7_tryCalms rfl k161 ⟨nI_add 12 F, by omega, by rw [m161]; omega⟩ ?_
    refine Wf.sAl tkX7_tryCalms rfl rfl rfl ?_
    refine Wf.sG tkX7_tryCalms rfl k150 ?_
    show Wf l X uX7_tryCalms (d + 6) true b 124 _ [.ref (mR Ma 150 19), .int (mI Ma 161 (12 + F)), .long (mL Ma 150 41), .ref 150] Ma kr
    rw [r19]
    refine Wf.sIc tkX7_tryCalms rfl ?_
    refine Wf.sIl tkX7_tryCalms rfl rfl ?_
    refine Wf.s2 (x := 12) (y := nI F) tkX7_tryCalms rfl ?_
    refine Wf.sIal (j := 12 + F) tkX7_tryCalms rfl k157 ⟨nI_add 12 F, by omega, by rw [m157]; omega⟩ ?_
    refine Wf.sCm tkX7_tryCalms rfl (fun _ => ?_) (fun _ => ?_)
    · refine Wf.sLc tkX7_tryCalms rfl ?_
      exact mid 0
    · refine Wf.sLl tkX7_tryCalms rfl rfl ?_
      refine Wf.sGo tkX7_tryCalms rfl ?_
      exact mid w
set_option maxRecDepth 20000 in
theorem vh_tryCalms (hR : rwB (lkR R 153) 2 = (0, 100)) (d : Nat) (hD : dysO l X R e (d + 5)) : Vc l X U0 (mkP R) e (d + 6) ((259, [(2, 0, 0, [150]), (0, 0, 5, []), (0, 0, 7, [])], []), [(150, 40, 42), (160, 0, 4), (161, 0, 24)], [(none, [], [(150, 40, 1, 1, lHi, [])])]) := by
  intro av M kr hI he hb hf hr
  obtain ⟨v, t, rfl, hv, ht⟩ := gbs_1 hb
  obtain ⟨v2, t, rfl, hv2, ht⟩ := gbs_1 ht
  obtain ⟨v3, t, rfl, hv3, ht⟩ := gbs_1 ht
  obtain rfl := gbs_0 ht
  obtain rfl := gb_r1 hv
  obtain ⟨f, rfl, hf1, hf2⟩ := gb_i hv2
  obtain ⟨n, rfl, hn1, hn2⟩ := gb_i hv3
  have ef : f = nI f.toInt.toNat := nI_at (by omega) (by omega)
  have en : n = nI n.toInt.toNat := nI_at (by omega) (by omega)
  have b2 := hI.2.2.2 153 2 (by decide)
  have b2 : (0 : Int) ≤ (mI M 153 2).toInt ∧ (mI M 153 2).toInt ≤ 100 := by
    have e1 : rwB ((mkP R).2.2 153) 2 = (0, 100) := hR
    rw [e1] at b2
    exact b2
  have ec : mI M 153 2 = nI (mI M 153 2).toInt.toNat := nI_at (by omega) (by omega)
  have k150 : kk M 150 7 = true := kk_ok hI rfl
  show Ev l X uX7_tryCalms (d + 6) true 0 0 _ M kr
  refine Ev.of (by decide) (Nat.le_of_ble_eq_true rfl) ?_
  rw [ef, en]
  have hJ0 : Jv (mkP R) msT (M, e) M := Jv.rf hI he
  refine Wf.sAl tkX7_tryCalms rfl rfl rfl ?_
  refine Wf.sLc tkX7_tryCalms rfl ?_
  refine Wf.sPL tkX7_tryCalms rfl k150 ?_
  refine Wf.sAl tkX7_tryCalms rfl rfl rfl ?_
  refine Wf.sLc tkX7_tryCalms rfl ?_
  refine Wf.sPL tkX7_tryCalms rfl k150 ?_
  refine Wf.sAl tkX7_tryCalms rfl rfl rfl ?_
  refine Wf.sLc tkX7_tryCalms rfl ?_
  refine Wf.sPL tkX7_tryCalms rfl k150 ?_
  refine Wf.sIc tkX7_tryCalms rfl ?_
  refine Wf.sIs tkX7_tryCalms rfl rfl ?_
  refine tc_outer (c := (mI M 153 2).toInt.toNat) (N := n.toInt.toNat) (F := f.toInt.toNat) (M0 := M) (by omega) (by omega) (by omega) hD ec (fun M' hJ' h1 => ?_) 0 (Nat.zero_le _) [] _ (Or.inl rfl) (Jv.wL (Jv.wL (Jv.wL hJ0 (by decide)) (by decide)) (by decide)) rfl
  refine hr none M' hJ' ⟨_, List.mem_singleton.mpr rfl, trivial, fun x hx => absurd hx List.not_mem_nil, fun x hx => ?_⟩
  rw [List.mem_singleton.mp hx]
  exact ⟨rfl, h1, i64_hi _⟩
end TCM
end
section
/-! the reference's steps, and the costs that it lays -/
noncomputable def hbB (s k : Int32) : Bool := decide ((s >>> (k &&& 31)) &&& 1 = 1)
noncomputable def isw (wl gw k : Int32) : Bool := !(decide (k = gw)) && hbB wl k
noncomputable def dxI (s : Int32) : Int32 := if s = 1 then 1 else if s = 3 then -1 else 0
noncomputable def dyI (s : Int32) : Int32 := if s = 2 then 1 else if s = 0 then -1 else 0
noncomputable def sfx (w k s : Int32) : Int32 := k - k / w * w + dxI s
noncomputable def sfy (w k s : Int32) : Int32 := k / w + dyI s
noncomputable def inB (v lo hi : Int32) : Bool := decide (¬ v < lo) && decide (¬ hi < v)
noncomputable def sfI (w dp wl gw k s : Int32) : Int32 := if (inB (sfx w k s) 0 (w - 1) && (inB (sfy w k s) 0 (dp - 1) && (!(isw wl gw k) && !(isw wl gw (sfy w k s * w + sfx w k s))))) = true then sfy w k s * w + sfx w k s else -2
noncomputable def coI (wet k : Int32) : Int32 := if hbB wet k = true then 1000 else 0
section LAY9
variable {l : Launch} {X : Nat × (Nat → Int32)} {d : Nat} {M : Mm} {kr : KR}
theorem k_bitB {s k : Int32} (h : kr (some (.int (if hbB s k = true then 1 else 0))) M) : Ev l X uX7_hasBit d true 0 0 [.int s, .int k] M kr := by
  refine k_bit (fun w => ?_) (fun w => ?_)
  · have e : hbB s k = false := decide_eq_false w
    rw [e, if_neg (by decide)] at h
    exact h
  · have e : hbB s k = true := decide_eq_true w
    rw [e, if_pos rfl] at h
    exact h
set_option maxRecDepth 20000 in
theorem k_inB {v lo hi : Int32} (h : kr (some (.int (if inB v lo hi = true then 1 else 0))) M) : Ev l X uX7_in d true 0 0 [.int v, .int lo, .int hi] M kr := by
  refine Ev.of (by decide) (Nat.le_of_ble_eq_true rfl) ?_
  have r0 : inB v lo hi = false → ∀ ls, Wf l X uX7_in d true (mC M + 0, mS M + 0) 14 ls [] M kr := by
    intro e ls
    rw [e, if_neg (by decide)] at h
    refine Wf.sIc tkX7_in rfl ?_
    exact Wf.sZr tkX7_in rfl (Or.inl rfl) h
  refine Wf.sIl tkX7_in rfl rfl ?_
  refine Wf.sIl tkX7_in rfl rfl ?_
  refine Wf.sCm tkX7_in rfl (fun w => r0 ?_ _) (fun w1 => ?_)
  · unfold inB
    rw [show decide (¬ v < lo) = false from decide_eq_false (fun q => q w)]
    rfl
  refine Wf.sIl tkX7_in rfl rfl ?_
  refine Wf.sIl tkX7_in rfl rfl ?_
  refine Wf.sCm tkX7_in rfl (fun w => r0 ?_ _) (fun w2 => ?_)
  · unfold inB
    rw [show decide (¬ hi < v) = false from decide_eq_false (fun q => q w), Bool.and_false]
  have e : inB v lo hi = true := by
    unfold inB
    rw [decide_eq_true (show ¬ v < lo from w1), decide_eq_true (show ¬ hi < v from w2)]
    rfl
  rw [e, if_pos rfl] at h
  refine Wf.sIc tkX7_in rfl ?_
  refine Wf.sGo tkX7_in rfl ?_
  exact Wf.sZr tkX7_in rfl (Or.inr rfl) h
variable {R : List (Nat × List Row)} {e : Int}
set_option maxRecDepth 20000 in
theorem k_isw {k : Int32} (hI : Iv (mkP R) M) (h : kr (some (.int (if isw (mI M 153 10) (mI M 150 26) k = true then 1 else 0))) M) : Ev l X uX7_isWall (d + 1) true 0 0 [.ref 150, .int k] M kr := by
  have k150 : kk M 150 7 = true := kk_ok hI rfl
  have k153 : kk M 153 9 = true := kk_ok hI rfl
  have r15 : mR M 150 15 = 153 := List.mem_singleton.mp (hI.2.2.1 150 15 (by decide))
  have m153 : (mK M 153).2 = 202 := by rw [hI.2.1 153 (by decide)]; rfl
  refine Ev.of (by decide) (Nat.le_of_ble_eq_true rfl) ?_
  have r0 : isw (mI M 153 10) (mI M 150 26) k = false → ∀ ls, Wf l X uX7_isWall (d + 1) true (mC M + 0, mS M + 0) 26 ls [] M kr := by
    intro e ls
    rw [e, if_neg (by decide)] at h
    refine Wf.sIc tkX7_isWall rfl ?_
    exact Wf.sZr tkX7_isWall rfl (Or.inl rfl) h
  refine Wf.sIl tkX7_isWall rfl rfl ?_
  refine Wf.sAl tkX7_isWall rfl rfl rfl ?_
  refine Wf.sG tkX7_isWall rfl k150 ?_
  refine Wf.sCm (x := k) (y := mI M 150 26) tkX7_isWall rfl (fun w => r0 ?_ _) (fun w1 => ?_)
  · unfold isw
    rw [decide_eq_true (show k = mI M 150 26 from w)]
    rfl
  refine Wf.sAl tkX7_isWall rfl rfl rfl ?_
  refine Wf.sG tkX7_isWall rfl k150 ?_
  show Wf l X uX7_isWall (d + 1) true _ 12 _ [.ref (mR M 150 15)] M kr
  rw [r15]
  refine Wf.sIc tkX7_isWall rfl ?_
  refine Wf.sIal (j := 10) tkX7_isWall rfl k153 ⟨by decide, by decide, by rw [m153]; decide⟩ ?_
  refine Wf.sIl tkX7_isWall rfl rfl ?_
  refine Wf.sCs (as := [.int (mI M 153 10), .int k]) (rest := []) tkX7_isWall rfl rfl rfl ?_
  have e1 : decide (k = mI M 150 26) = false := decide_eq_false w1
  refine k_bitB ?_
  cases hb : hbB (mI M 153 10) k with
  | false =>
    refine Wf.sIf tkX7_isWall rfl (fun _ => r0 ?_ _) (fun z => absurd rfl z)
    unfold isw
    rw [e1, hb]
    rfl
  | true =>
    refine Wf.sIf tkX7_isWall rfl (fun z => absurd z (by decide)) (fun _ => ?_)
    have e : isw (mI M 153 10) (mI M 150 26) k = true := by
      unfold isw
      rw [e1, hb]
      rfl
    rw [e, if_pos rfl] at h
    refine Wf.sIc tkX7_isWall rfl ?_
    refine Wf.sGo tkX7_isWall rfl ?_
    exact Wf.sZr tkX7_isWall rfl (Or.inr rfl) h
set_option maxRecDepth 20000 in
theorem k_cof {k wet : Int32} (h : kr (some (.int (coI wet k))) M) : Ev l X uX7_costOf (d + 1) true 0 0 [.ref 150, .int k, .int wet] M kr := by
  refine Ev.of (by decide) (Nat.le_of_ble_eq_true rfl) ?_
  refine Wf.sIl tkX7_costOf rfl rfl ?_
  refine Wf.sIl tkX7_costOf rfl rfl ?_
  refine Wf.sCs (as := [.int wet, .int k]) (rest := []) tkX7_costOf rfl rfl rfl ?_
  refine k_bitB ?_
  unfold coI at h
  cases hb : hbB wet k with
  | false =>
    rw [hb, if_neg (by decide)] at h
    refine Wf.sIf tkX7_costOf rfl (fun _ => ?_) (fun z => absurd rfl z)
    refine Wf.sIc tkX7_costOf rfl ?_
    exact Wf.sIr tkX7_costOf rfl h
  | true =>
    rw [hb, if_pos rfl] at h
    refine Wf.sIf tkX7_costOf rfl (fun z => absurd z (by decide)) (fun _ => ?_)
    refine Wf.sIc tkX7_costOf rfl ?_
    refine Wf.sGo tkX7_costOf rfl ?_
    exact Wf.sIr tkX7_costOf rfl h
set_option maxRecDepth 20000 in
theorem k_sf {k s : Int32} (hI : Iv (mkP R) M) (hw0 : ¬ mI M 153 0 = 0) (h : kr (some (.int (sfI (mI M 153 0) (mI M 153 1) (mI M 153 10) (mI M 150 26) k s))) M) : Ev l X uX7_stepFrom (d + 2) true 0 0 [.ref 150, .int k, .int s] M kr := by
  have k150 : kk M 150 7 = true := kk_ok hI rfl
  have k153 : kk M 153 9 = true := kk_ok hI rfl
  have r15 : mR M 150 15 = 153 := List.mem_singleton.mp (hI.2.2.1 150 15 (by decide))
  have m153 : (mK M 153).2 = 202 := by rw [hI.2.1 153 (by decide)]; rfl
  refine Ev.of (by decide) (Nat.le_of_ble_eq_true rfl) ?_
  have bad : (inB (sfx (mI M 153 0) k s) 0 (mI M 153 0 - 1) && (inB (sfy (mI M 153 0) k s) 0 (mI M 153 1 - 1) && (!(isw (mI M 153 10) (mI M 150 26) k) && !(isw (mI M 153 10) (mI M 150 26) (sfy (mI M 153 0) k s * mI M 153 0 + sfx (mI M 153 0) k s))))) = false → ∀ ls, Wf l X uX7_stepFrom (d + 2) true (mC M + 0, mS M + 0) 117 ls [] M kr := by
    intro hb ls
    unfold sfI at h
    rw [hb, if_neg (by decide)] at h
    refine Wf.sIc tkX7_stepFrom rfl ?_
    exact Wf.sIr tkX7_stepFrom rfl h
  have j58 : Wf l X uX7_stepFrom (d + 2) true (mC M + 0, mS M + 0) 58 [(0, .ref 150), (1, .int k), (2, .int s), (3, .int (sfx (mI M 153 0) k s)), (4, .int (sfy (mI M 153 0) k s))] [] M kr := by
    generalize hx : sfx (mI M 153 0) k s = x at h bad ⊢
    generalize hy : sfy (mI M 153 0) k s = y at h bad ⊢
    unfold sfI at h
    rw [hx, hy] at h
    refine Wf.sIl tkX7_stepFrom rfl rfl ?_
    refine Wf.sIc tkX7_stepFrom rfl ?_
    refine Wf.sAl tkX7_stepFrom rfl rfl rfl ?_
    refine Wf.sG tkX7_stepFrom rfl k150 ?_
    show Wf l X uX7_stepFrom (d + 2) true _ 64 _ (.ref (mR M 150 15) :: [.int 0, .int x]) M kr
    rw [r15]
    refine Wf.sIc tkX7_stepFrom rfl ?_
    refine Wf.sIal (j := 0) tkX7_stepFrom rfl k153 ⟨by decide, by decide, by rw [m153]; decide⟩ ?_
    refine Wf.sIc tkX7_stepFrom rfl ?_
    refine Wf.s2 tkX7_stepFrom rfl ?_
    refine Wf.sCs (as := [.int x, .int 0, .int (mI M 153 0 - 1)]) (rest := []) tkX7_stepFrom rfl rfl rfl ?_
    refine k_inB ?_
    cases b1 : inB x 0 (mI M 153 0 - 1) with
    | false => exact Wf.sIf tkX7_stepFrom rfl (fun _ => bad (by rw [b1]; rfl) _) (fun z => absurd rfl z)
    | true =>
    refine Wf.sIf tkX7_stepFrom rfl (fun z => absurd z (by decide)) (fun _ => ?_)
    refine Wf.sIl tkX7_stepFrom rfl rfl ?_
    refine Wf.sIc tkX7_stepFrom rfl ?_
    refine Wf.sAl tkX7_stepFrom rfl rfl rfl ?_
    refine Wf.sG tkX7_stepFrom rfl k150 ?_
    show Wf l X uX7_stepFrom (d + 2) true _ 81 _ (.ref (mR M 150 15) :: [.int 0, .int y]) M kr
    rw [r15]
    refine Wf.sIc tkX7_stepFrom rfl ?_
    refine Wf.sIal (j := 1) tkX7_stepFrom rfl k153 ⟨by decide, by decide, by rw [m153]; decide⟩ ?_
    refine Wf.sIc tkX7_stepFrom rfl ?_
    refine Wf.s2 tkX7_stepFrom rfl ?_
    refine Wf.sCs (as := [.int y, .int 0, .int (mI M 153 1 - 1)]) (rest := []) tkX7_stepFrom rfl rfl rfl ?_
    refine k_inB ?_
    cases b2 : inB y 0 (mI M 153 1 - 1) with
    | false => exact Wf.sIf tkX7_stepFrom rfl (fun _ => bad (by rw [b1, b2]; rfl) _) (fun z => absurd rfl z)
    | true =>
    refine Wf.sIf tkX7_stepFrom rfl (fun z => absurd z (by decide)) (fun _ => ?_)
    refine Wf.sAl tkX7_stepFrom rfl rfl rfl ?_
    refine Wf.sIl tkX7_stepFrom rfl rfl ?_
    refine Wf.sCv (as := [.int k]) (rest := []) tkX7_stepFrom rfl rfl k150 rfl ?_
    refine k_isw hI ?_
    cases b3 : isw (mI M 153 10) (mI M 150 26) k with
    | true => exact Wf.sIf tkX7_stepFrom rfl (fun _ => bad (by rw [b1, b2, b3]; rfl) _) (fun z => absurd z (by decide))
    | false =>
    refine Wf.sIf tkX7_stepFrom rfl (fun z => absurd rfl z) (fun _ => ?_)
    refine Wf.sAl tkX7_stepFrom rfl rfl rfl ?_
    refine Wf.sIl tkX7_stepFrom rfl rfl ?_
    refine Wf.sAl tkX7_stepFrom rfl rfl rfl ?_
    refine Wf.sG tkX7_stepFrom rfl k150 ?_
    show Wf l X uX7_stepFrom (d + 2) true _ 106 _ (.ref (mR M 150 15) :: [.int y, .ref 150]) M kr
    rw [r15]
    refine Wf.sIc tkX7_stepFrom rfl ?_
    refine Wf.sIal (j := 0) tkX7_stepFrom rfl k153 ⟨by decide, by decide, by rw [m153]; decide⟩ ?_
    refine Wf.s2 tkX7_stepFrom rfl ?_
    refine Wf.sIl tkX7_stepFrom rfl rfl ?_
    refine Wf.s2 tkX7_stepFrom rfl ?_
    refine Wf.sCv (as := [.int (y * mI M 153 0 + x)]) (rest := []) tkX7_stepFrom rfl rfl k150 rfl ?_
    refine k_isw hI ?_
    cases b4 : isw (mI M 153 10) (mI M 150 26) (y * mI M 153 0 + x) with
    | true => exact Wf.sIf tkX7_stepFrom rfl (fun z => absurd z (by decide)) (fun _ => bad (by rw [b1, b2, b3, b4]; rfl) _)
    | false =>
    refine Wf.sIf tkX7_stepFrom rfl (fun _ => ?_) (fun z => absurd rfl z)
    rw [b1, b2, b3, b4, if_pos (by decide)] at h
    refine Wf.sIl tkX7_stepFrom rfl rfl ?_
    refine Wf.sAl tkX7_stepFrom rfl rfl rfl ?_
    refine Wf.sG tkX7_stepFrom rfl k150 ?_
    show Wf l X uX7_stepFrom (d + 2) true _ 126 _ (.ref (mR M 150 15) :: [.int y]) M kr
    rw [r15]
    refine Wf.sIc tkX7_stepFrom rfl ?_
    refine Wf.sIal (j := 0) tkX7_stepFrom rfl k153 ⟨by decide, by decide, by rw [m153]; decide⟩ ?_
    refine Wf.s2 tkX7_stepFrom rfl ?_
    refine Wf.sIl tkX7_stepFrom rfl rfl ?_
    refine Wf.s2 tkX7_stepFrom rfl ?_
    exact Wf.sIr tkX7_stepFrom rfl h
  have j55 : ∀ dy : Int32, dyI s = dy → Wf l X uX7_stepFrom (d + 2) true (mC M + 0, mS M + 0) 55 [(0, .ref 150), (1, .int k), (2, .int s), (3, .int (sfx (mI M 153 0) k s))] [.int dy, .int (k / mI M 153 0)] M kr := by
    intro dy hdy
    refine Wf.s2 tkX7_stepFrom rfl ?_
    refine Wf.sIs tkX7_stepFrom rfl rfl ?_
    rw [show sfy (mI M 153 0) k s = k / mI M 153 0 + dy from by unfold sfy; rw [hdy]] at j58
    exact j58
  have j29 : Wf l X uX7_stepFrom (d + 2) true (mC M + 0, mS M + 0) 29 [(0, .ref 150), (1, .int k), (2, .int s), (3, .int (sfx (mI M 153 0) k s))] [] M kr := by
    refine Wf.sIl tkX7_stepFrom rfl rfl ?_
    refine Wf.sAl tkX7_stepFrom rfl rfl rfl ?_
    refine Wf.sG tkX7_stepFrom rfl k150 ?_
    show Wf l X uX7_stepFrom (d + 2) true _ 34 _ (.ref (mR M 150 15) :: [.int k]) M kr
    rw [r15]
    refine Wf.sIc tkX7_stepFrom rfl ?_
    refine Wf.sIal (j := 0) tkX7_stepFrom rfl k153 ⟨by decide, by decide, by rw [m153]; decide⟩ ?_
    refine Wf.stp1 tkX7_stepFrom (o := o2d 36 (fun x y => x / y)) rfl ⟨hw0, ?_⟩
    refine Wf.sIl tkX7_stepFrom rfl rfl ?_
    refine Wf.sIc tkX7_stepFrom rfl ?_
    refine Wf.sCm (x := s) (y := 2) tkX7_stepFrom rfl (fun w => ?_) (fun w => ?_)
    · refine Wf.sIl tkX7_stepFrom rfl rfl ?_
      refine Wf.sIf tkX7_stepFrom rfl (fun w2 => ?_) (fun w2 => ?_)
      · refine Wf.sIc tkX7_stepFrom rfl ?_
        exact j55 0 (by unfold dyI; rw [if_neg w, if_neg w2])
      · refine Wf.sIc tkX7_stepFrom rfl ?_
        refine Wf.sGo tkX7_stepFrom rfl ?_
        exact j55 (-1) (by unfold dyI; rw [if_neg w, if_pos w2])
    · refine Wf.sIc tkX7_stepFrom rfl ?_
      refine Wf.sGo tkX7_stepFrom rfl ?_
      exact j55 1 (by unfold dyI; rw [if_pos w])
  have j27 : ∀ dx : Int32, dxI s = dx → Wf l X uX7_stepFrom (d + 2) true (mC M + 0, mS M + 0) 27 [(0, .ref 150), (1, .int k), (2, .int s)] [.int dx, .int (k - k / mI M 153 0 * mI M 153 0)] M kr := by
    intro dx hdx
    refine Wf.s2 tkX7_stepFrom rfl ?_
    refine Wf.sIs tkX7_stepFrom rfl rfl ?_
    rw [show sfx (mI M 153 0) k s = k - k / mI M 153 0 * mI M 153 0 + dx from by unfold sfx; rw [hdx]] at j29
    exact j29
  refine Wf.sIl tkX7_stepFrom rfl rfl ?_
  refine Wf.sAl tkX7_stepFrom rfl rfl rfl ?_
  refine Wf.sG tkX7_stepFrom rfl k150 ?_
  show Wf l X uX7_stepFrom (d + 2) true _ 5 _ (.ref (mR M 150 15) :: [.int k]) M kr
  rw [r15]
  refine Wf.sIc tkX7_stepFrom rfl ?_
  refine Wf.sIal (j := 0) tkX7_stepFrom rfl k153 ⟨by decide, by decide, by rw [m153]; decide⟩ ?_
  refine Wf.stp1 tkX7_stepFrom (o := o2d 7 (fun x y => x - x / y * y)) rfl ⟨hw0, ?_⟩
  refine Wf.sIl tkX7_stepFrom rfl rfl ?_
  refine Wf.sIc tkX7_stepFrom rfl ?_
  refine Wf.sCm (x := s) (y := 1) tkX7_stepFrom rfl (fun w => ?_) (fun w => ?_)
  · refine Wf.sIl tkX7_stepFrom rfl rfl ?_
    refine Wf.sIc tkX7_stepFrom rfl ?_
    refine Wf.sCm (x := s) (y := 3) tkX7_stepFrom rfl (fun w2 => ?_) (fun w2 => ?_)
    · refine Wf.sIc tkX7_stepFrom rfl ?_
      exact j27 0 (by unfold dxI; rw [if_neg w, if_neg w2])
    · refine Wf.sIc tkX7_stepFrom rfl ?_
      refine Wf.sGo tkX7_stepFrom rfl ?_
      exact j27 (-1) (by unfold dxI; rw [if_neg w, if_pos w2])
  · refine Wf.sIc tkX7_stepFrom rfl ?_
    refine Wf.sGo tkX7_stepFrom rfl ?_
    exact j27 1 (by unfold dxI; rw [if_pos w])
theorem sfI_b {w dp wl gw k s : Int32} (hw : 2 ≤ w.toInt ∧ w.toInt ≤ 5) (hd : 0 ≤ dp.toInt ∧ dp.toInt ≤ 4) : sfI w dp wl gw k s = -2 ∨ (0 ≤ (sfI w dp wl gw k s).toInt ∧ (sfI w dp wl gw k s).toInt ≤ 19) := by
  unfold sfI
  split
  · rename_i h
    obtain ⟨h1, h⟩ := andT h
    obtain ⟨h2, -⟩ := andT h
    refine Or.inr ?_
    generalize sfx w k s = x at h1 ⊢
    generalize sfy w k s = y at h2 ⊢
    unfold inB at h1 h2
    obtain ⟨h1, h3⟩ := andT h1
    obtain ⟨h2, h4⟩ := andT h2
    have h1 := of_decide_eq_true h1
    have h2 := of_decide_eq_true h2
    have h3 := of_decide_eq_true h3
    have h4 := of_decide_eq_true h4
    rw [Int32.lt_iff_toInt_lt] at h1 h2 h3 h4
    have e0 : (0 : Int32).toInt = 0 := rfl
    have e1 : (1 : Int32).toInt = 1 := rfl
    have lo : iLo ≤ -100 := by decide
    have hi : (100 : Int) ≤ iHi := by decide
    rw [sub_i (by omega) (by omega)] at h3 h4
    rw [e0] at h1 h2
    rw [e1] at h3 h4
    have q1 : y.toInt * w.toInt ≤ 3 * 5 := Int.mul_le_mul (by omega) hw.2 (by omega) (by omega)
    have q2 : 0 ≤ y.toInt * w.toInt := Int.mul_nonneg (by omega) (by omega)
    have em : (y * w).toInt = y.toInt * w.toInt := mul_i (by omega) (by omega)
    rw [add_i (by rw [em]; omega) (by rw [em]; omega), em]
    omega
  · exact Or.inl rfl
theorem sfI_wall {w dp wl gw k s : Int32} (h : isw wl gw k = true) : sfI w dp wl gw k s = -2 := by
  unfold sfI
  rw [h]
  rw [if_neg (by simp)]
theorem coI_b (wet k : Int32) : (coI wet k).toInt = 0 ∨ (coI wet k).toInt = 1000 := by
  unfold coI
  split
  · exact Or.inr (by decide)
  · exact Or.inl (by decide)
set_option maxRecDepth 20000 in
theorem k_cells (hI : Iv (mkP R) M) (h : kr (some (.int (mI M 153 0 * mI M 153 1))) M) : Ev l X uX7_cells d true 0 0 [.ref 150] M kr := by
  have k150 : kk M 150 7 = true := kk_ok hI rfl
  have k153 : kk M 153 9 = true := kk_ok hI rfl
  have r15 : mR M 150 15 = 153 := List.mem_singleton.mp (hI.2.2.1 150 15 (by decide))
  have m153 : (mK M 153).2 = 202 := by rw [hI.2.1 153 (by decide)]; rfl
  refine Ev.of (by decide) (Nat.le_of_ble_eq_true rfl) ?_
  refine Wf.sAl tkX7_cells rfl rfl rfl ?_
  refine Wf.sG tkX7_cells rfl k150 ?_
  show Wf l X uX7_cells d true _ 4 _ [.ref (mR M 150 15)] M kr
  rw [r15]
  refine Wf.sIc tkX7_cells rfl ?_
  refine Wf.sIal (j := 0) tkX7_cells rfl k153 ⟨by decide, by decide, by rw [m153]; decide⟩ ?_
  refine Wf.sAl tkX7_cells rfl rfl rfl ?_
  refine Wf.sG tkX7_cells rfl k150 ?_
  show Wf l X uX7_cells d true _ 10 _ [.ref (mR M 150 15), .int (mI M 153 0)] M kr
  rw [r15]
  refine Wf.sIc tkX7_cells rfl ?_
  refine Wf.sIal (j := 1) tkX7_cells rfl k153 ⟨by decide, by decide, by rw [m153]; decide⟩ ?_
  refine Wf.s2 tkX7_cells rfl ?_
  exact Wf.sIr tkX7_cells rfl h
end LAY9
end
section
/-! the costs that the reference lays: they come to an end, and then every cell but the goal has a step by which its cost goes down -/
noncomputable def msL : Md3 := [(164, 0, 19)]
noncomputable def fS (M0 : Mm) (k s : Nat) : Int32 := sfI (mI M0 153 0) (mI M0 153 1) (mI M0 153 10) (mI M0 150 26) (nI k) (nI s)
noncomputable def cw (M : Mm) (j : Nat) : Int := (mI M 164 j).toInt
noncomputable def cK (wet : Int32) (k : Nat) : Int := (coI wet (nI k)).toInt
noncomputable def nC (M0 : Mm) : Nat := (mI M0 153 0 * mI M0 153 1).toInt.toNat
noncomputable def lyI (M0 : Mm) (wet : Int32) (to : Nat) (M : Mm) : Prop := (∀ j, j < 20 → 0 ≤ cw M j ∧ cw M j ≤ 100000000) ∧ (∀ j, j < 20 → j ≠ to → cw M j < 100000000 → j < nC M0 ∧ ∃ s, s < 4 ∧ 0 ≤ (fS M0 j s).toInt ∧ cw M (fS M0 j s).toInt.toNat + 1 + cK wet j ≤ cw M j) ∧ (cw M to = cK wet to ∨ (cw M to = 100000000 ∧ ∀ s, s < 4 → fS M0 to s = -2))
noncomputable def lyD (M0 : Mm) (wet : Int32) (M : Mm) (k s : Nat) : Prop := fS M0 k s = -2 ∨ cw M (fS M0 k s).toInt.toNat = 100000000 ∨ cw M k ≤ cw M (fS M0 k s).toInt.toNat + 1 + cK wet k
noncomputable def lyF (M0 : Mm) (wet : Int32) (M : Mm) : Prop := ∀ k s, k < nC M0 → s < 4 → lyD M0 wet M k s
noncomputable def sgn (M : Mm) : Nat → Nat
  | 0 => 0
  | j + 1 => sgn M j + (cw M j).toNat
theorem cw_w {M : Mm} {k j : Nat} {x : Int32} : cw (wI M 164 k x) j = if j = k then x.toInt else cw M j := by
  unfold cw
  rw [mI_w]
  by_cases h : j = k
  · rw [if_pos ⟨rfl, h⟩, if_pos h]
  · rw [if_neg (fun z => h z.2), if_neg h]
theorem sgn_lo {M : Mm} {k : Nat} {x : Int32} : ∀ n, n ≤ k → sgn (wI M 164 k x) n = sgn M n
  | 0, _ => rfl
  | n + 1, h => by
    show sgn (wI M 164 k x) n + (cw (wI M 164 k x) n).toNat = sgn M n + (cw M n).toNat
    rw [sgn_lo n (by omega), cw_w, if_neg (by omega)]
theorem sgn_up {M : Mm} {k : Nat} {x : Int32} (h0 : 0 ≤ x.toInt) (h : x.toInt < cw M k) : ∀ n, k < n → sgn (wI M 164 k x) n < sgn M n
  | 0, h => absurd h (Nat.not_lt_zero _)
  | n + 1, hn => by
    show sgn (wI M 164 k x) n + (cw (wI M 164 k x) n).toNat < sgn M n + (cw M n).toNat
    by_cases e : n = k
    · subst e
      rw [sgn_lo n (Nat.le_refl _), cw_w, if_pos rfl]
      omega
    · have := sgn_up h0 h n (by omega)
      rw [cw_w, if_neg e]
      omega
theorem cK_b (wet : Int32) (k : Nat) : cK wet k = 0 ∨ cK wet k = 1000 := coI_b wet (nI k)
theorem lyI_up {M0 M : Mm} {wet x : Int32} {to k s : Nat} (h : lyI M0 wet to M) (hk : k < 20) (hkn : k < nC M0) (hs : s < 4) (hf : 0 ≤ (fS M0 k s).toInt ∧ (fS M0 k s).toInt ≤ 19) (hx : x.toInt = cw M (fS M0 k s).toInt.toNat + 1 + cK wet k) (hlt : x.toInt < cw M k) : lyI M0 wet to (wI M 164 k x) ∧ sgn (wI M 164 k x) 20 < sgn M 20 := by
  obtain ⟨h1, h2, h3⟩ := h
  have hn : (fS M0 k s).toInt.toNat < 20 := by omega
  have b1 := h1 _ hn
  have b2 := h1 k hk
  have c1 := cK_b wet k
  have hne : (fS M0 k s).toInt.toNat ≠ k := by
    intro z
    rw [z] at hx
    omega
  have hto : k ≠ to := by
    intro z
    subst z
    rcases h3 with z | ⟨-, z⟩
    · omega
    · have e2 : (-2 : Int32).toInt = -2 := by decide
      rw [z s hs, e2] at hf
      omega
  refine ⟨⟨fun j hj => ?_, fun j hj hjt hlt2 => ?_, ?_⟩, sgn_up (by omega) hlt 20 hk⟩
  · rw [cw_w]
    split
    · omega
    · exact h1 j hj
  · rw [cw_w] at hlt2
    by_cases e : j = k
    · subst e
      refine ⟨hkn, s, hs, hf.1, ?_⟩
      rw [cw_w, if_neg hne, cw_w, if_pos rfl]
      omega
    · rw [if_neg e] at hlt2
      obtain ⟨g0, s', g1, g2, g3⟩ := h2 j hj hjt hlt2
      refine ⟨g0, s', g1, g2, ?_⟩
      rw [cw_w, cw_w, if_neg e]
      split
      · rename_i z
        rw [z] at g3
        omega
      · exact g3
  · rw [cw_w, if_neg (fun z => hto z.symm)]
    exact h3
section LAYC
variable {l : Launch} {X : Nat × (Nat → Int32)} {d : Nat} {kr : KR} {R : List (Nat × List Row)} {e : Int} {M0 : Mm} {wet : Int32} {to : Nat} {b : Nat × Nat}
/-- the memory while costs are laid -/
noncomputable def lyJ (R : List (Nat × List Row)) (e : Int) (M0 M : Mm) : Prop := Jv (mkP R) msL (M0, e) M
theorem ly_sf {M : Mm} {k s : Nat} (hJ : lyJ R e M0 M) : sfI (mI M 153 0) (mI M 153 1) (mI M 153 10) (mI M 150 26) (nI k) (nI s) = fS M0 k s := by
  unfold fS
  rw [(hJ.2.2.1 153 0 rfl).1, (hJ.2.2.1 153 1 rfl).1, (hJ.2.2.1 153 10 rfl).1, (hJ.2.2.1 150 26 rfl).1]
theorem ly_w {M : Mm} {k : Nat} {x : Int32} (h164 : lkR R 164 = []) (hJ : lyJ R e M0 M) (hk : k < 20) : lyJ R e M0 (wI M 164 k x) := by
  refine Jv.wI hJ ?_ ?_ (by omega)
  · have e1 : (mkP R).2.2 164 = [] := h164
    rw [e1]
    exact ⟨i32_lo x, i32_hi x⟩
  · exact List.any_eq_true.mpr ⟨(164, 0, 19), List.mem_singleton.mpr rfl, Bool.and_eq_true_iff.mpr ⟨rfl, Bool.and_eq_true_iff.mpr ⟨rfl, Nat.ble_eq_true_of_le (by show k ≤ 19; omega)⟩⟩⟩
/-- where a pass over all cells and steps stands -/
noncomputable def lyP (M0 : Mm) (wet : Int32) (S0 : Nat) (M : Mm) (more : Int32) (k s : Nat) : Prop := (more = 1 ∧ sgn M 20 < S0) ∨ (more = 0 ∧ sgn M 20 ≤ S0 ∧ ∀ k' s', k' < nC M0 → s' < 4 → (k' < k ∨ (k' = k ∧ s' < s)) → lyD M0 wet M k' s')
set_option maxRecDepth 20000 in
theorem ly_in (h164 : lkR R 164 = []) (hW : 2 ≤ (mI M0 153 0).toInt ∧ (mI M0 153 0).toInt ≤ 5) (hDp : 0 ≤ (mI M0 153 1).toInt ∧ (mI M0 153 1).toInt ≤ 4) (hto : to < 20) {S0 k : Nat} (hk : k < 20) (hkn : k < nC M0)
    (h : ∀ (more : Int32) (M : Mm), lyJ R e M0 M → lyI M0 wet to M → lyP M0 wet S0 M more (k + 1) 0 → Wf l X uX7_layCosts (d + 3) true b 54 [(0, .ref 150), (1, .int (nI to)), (2, .int wet), (3, .int more), (4, .int (nI (k + 1)))] [] M kr) : ∀ s, s ≤ 4 → ∀ (more : Int32) (M : Mm), lyJ R e M0 M → lyI M0 wet to M → lyP M0 wet S0 M more k s → Wf l X uX7_layCosts (d + 3) true b 66 [(0, .ref 150), (1, .int (nI to)), (2, .int wet), (3, .int more), (4, .int (nI k)), (5, .int (nI s))] [] M kr := by
  refine dwn _ 4 ?_ ?_
  · intro more M hJ hI hP
    refine Wf.sIl tkX7_layCosts rfl rfl ?_
    refine Wf.sIc tkX7_layCosts rfl ?_
    refine Wf.sCm (x := nI 4) (y := 4) tkX7_layCosts rfl (fun _ => ?_) (fun z => absurd (show (4 : Int32) ≤ nI 4 by decide) z)
    refine Wf.sInc tkX7_layCosts rfl rfl rfl ?_
    refine Wf.sGo tkX7_layCosts rfl ?_
    rw [nI_1]
    refine Wf.sub (fun x hx => List.mem_append_left [(5, .int (nI 4))] hx) (h more M hJ hI ?_)
    rcases hP with z | ⟨z1, z2, z3⟩
    · exact Or.inl z
    · refine Or.inr ⟨z1, z2, fun k' s' g1 g2 g3 => z3 k' s' g1 g2 ?_⟩
      rcases g3 with g | ⟨-, g⟩
      · omega
      · omega
  · intro s hs ih more M hJ hI hP
    have k150 : kk M 150 7 = true := kk_ok hJ.2.1 rfl
    have k164 : kk M 164 9 = true := kk_ok hJ.2.1 rfl
    have r33 : mR M 150 33 = 164 := List.mem_singleton.mp (hJ.2.1.2.2.1 150 33 (by decide))
    have m164 : (mK M 164).2 = 20 := by rw [hJ.2.1.2.1 164 (by decide)]; rfl
    have nx : ∀ (more' o : Int32) (M' : Mm), lyJ R e M0 M' → lyI M0 wet to M' → lyP M0 wet S0 M' more' k (s + 1) → Wf l X uX7_layCosts (d + 3) true b 156 [(0, .ref 150), (1, .int (nI to)), (2, .int wet), (3, .int more'), (4, .int (nI k)), (5, .int (nI s)), (6, .int o)] [] M' kr := by
      intro more' o M' hJ' hI' hP'
      refine Wf.sInc tkX7_layCosts rfl rfl rfl ?_
      refine Wf.sGo tkX7_layCosts rfl ?_
      rw [nI_1]
      exact Wf.sub (fun x hx => List.mem_append_left [(6, .int o)] hx) (ih more' M' hJ' hI' hP')
    have skp : lyD M0 wet M k s → lyP M0 wet S0 M more k (s + 1) := by
      intro hd
      rcases hP with z | ⟨z1, z2, z3⟩
      · exact Or.inl z
      · refine Or.inr ⟨z1, z2, fun k' s' g1 g2 g3 => ?_⟩
        by_cases q : k' = k ∧ s' = s
        · rw [q.1, q.2]; exact hd
        · exact z3 k' s' g1 g2 (by omega)
    refine Wf.sIl tkX7_layCosts rfl rfl ?_
    refine Wf.sIc tkX7_layCosts rfl ?_
    refine Wf.sCm (x := nI s) (y := 4) tkX7_layCosts rfl (fun z => absurd (show nI 4 ≤ nI s from z) (nI_ge hs (by decide))) (fun _ => ?_)
    refine Wf.sAl tkX7_layCosts rfl rfl rfl ?_
    refine Wf.sIl tkX7_layCosts rfl rfl ?_
    refine Wf.sIl tkX7_layCosts rfl rfl ?_
    refine Wf.sCv (as := [.int (nI k), .int (nI s)]) (rest := []) tkX7_layCosts rfl rfl k150 rfl ?_
    refine k_sf (d := d) hJ.2.1 (fun z => ?_) ?_
    · rw [(hJ.2.2.1 153 0 rfl).1] at z
      rw [z] at hW
      exact absurd hW.1 (by decide)
    rw [ly_sf hJ]
    have hfb : fS M0 k s = -2 ∨ (0 ≤ (fS M0 k s).toInt ∧ (fS M0 k s).toInt ≤ 19) := sfI_b hW hDp
    refine Wf.sIs tkX7_layCosts rfl rfl ?_
    refine Wf.sIl tkX7_layCosts rfl rfl ?_
    have e2 : (-2 : Int32).toInt = -2 := by decide
    refine Wf.sIf tkX7_layCosts rfl (fun z => ?_) (fun z => ?_)
    · refine nx more _ M hJ hI (skp (Or.inl ?_))
      rcases hfb with q | q
      · exact q
      · have z : fS M0 k s < 0 := z
        rw [Int32.lt_iff_toInt_lt] at z
        have e0 : (0 : Int32).toInt = 0 := rfl
        omega
    have hf : 0 ≤ (fS M0 k s).toInt ∧ (fS M0 k s).toInt ≤ 19 := by
      rcases hfb with q | q
      · have z : ¬ fS M0 k s < 0 := z
        rw [q] at z
        exact absurd (by decide) z
      · exact q
    have eo : fS M0 k s = nI (fS M0 k s).toInt.toNat := nI_at (by omega) (by omega)
    have hn20 : (fS M0 k s).toInt.toNat < 20 := by omega
    have cb := hI.1 _ hn20
    have kb := hI.1 k hk
    have cKb := cK_b wet k
    have eM : (100000000 : Int32).toInt = 100000000 := by decide
    have lo : iLo ≤ 0 := by decide
    have hi : (200000000 : Int) ≤ iHi := by decide
    refine Wf.sAl tkX7_layCosts rfl rfl rfl ?_
    refine Wf.sG tkX7_layCosts rfl k150 ?_
    show Wf l X uX7_layCosts (d + 3) true b 91 _ (.ref (mR M 150 33) :: []) M kr
    rw [r33]
    refine Wf.sIl tkX7_layCosts rfl rfl ?_
    refine Wf.sIal (j := (fS M0 k s).toInt.toNat) tkX7_layCosts rfl k164 ⟨eo, by omega, by rw [m164]; exact hn20⟩ ?_
    refine Wf.sIc tkX7_layCosts rfl ?_
    refine Wf.sCm (x := mI M 164 (fS M0 k s).toInt.toNat) (y := 100000000) tkX7_layCosts rfl (fun z => ?_) (fun _ => ?_)
    · refine nx more _ M hJ hI (skp (Or.inr (Or.inl ?_)))
      have z : mI M 164 (fS M0 k s).toInt.toNat = 100000000 := z
      show (mI M 164 (fS M0 k s).toInt.toNat).toInt = 100000000
      rw [z]
      exact eM
    have ev : (mI M 164 (fS M0 k s).toInt.toNat + 1 + coI wet (nI k)).toInt = cw M (fS M0 k s).toInt.toNat + 1 + cK wet k := by
      have e1 : (1 : Int32).toInt = 1 := rfl
      unfold cw at cb ⊢
      unfold cK at cKb ⊢
      have a1 : (mI M 164 (fS M0 k s).toInt.toNat + 1).toInt = (mI M 164 (fS M0 k s).toInt.toNat).toInt + 1 := add_i (by omega) (by omega)
      rw [add_i (by rw [a1]; omega) (by rw [a1]; omega), a1]
    refine Wf.sAl tkX7_layCosts rfl rfl rfl ?_
    refine Wf.sG tkX7_layCosts rfl k150 ?_
    show Wf l X uX7_layCosts (d + 3) true b 104 _ (.ref (mR M 150 33) :: []) M kr
    rw [r33]
    refine Wf.sIl tkX7_layCosts rfl rfl ?_
    refine Wf.sIal (j := (fS M0 k s).toInt.toNat) tkX7_layCosts rfl k164 ⟨eo, by omega, by rw [m164]; exact hn20⟩ ?_
    refine Wf.sIc tkX7_layCosts rfl ?_
    refine Wf.s2 tkX7_layCosts rfl ?_
    refine Wf.sAl tkX7_layCosts rfl rfl rfl ?_
    refine Wf.sIl tkX7_layCosts rfl rfl ?_
    refine Wf.sIl tkX7_layCosts rfl rfl ?_
    refine Wf.sCv (as := [.int (nI k), .int wet]) (rest := [.int (mI M 164 (fS M0 k s).toInt.toNat + 1)]) tkX7_layCosts rfl rfl k150 rfl ?_
    refine k_cof (d := d + 1) ?_
    refine Wf.s2 (x := mI M 164 (fS M0 k s).toInt.toNat + 1) (y := coI wet (nI k)) tkX7_layCosts rfl ?_
    refine Wf.sAl tkX7_layCosts rfl rfl rfl ?_
    refine Wf.sG tkX7_layCosts rfl k150 ?_
    show Wf l X uX7_layCosts (d + 3) true b 121 _ (.ref (mR M 150 33) :: [.int (mI M 164 (fS M0 k s).toInt.toNat + 1 + coI wet (nI k))]) M kr
    rw [r33]
    refine Wf.sIl tkX7_layCosts rfl rfl ?_
    refine Wf.sIal (j := k) tkX7_layCosts rfl k164 ⟨rfl, by omega, by rw [m164]; exact hk⟩ ?_
    refine Wf.sCm (x := mI M 164 (fS M0 k s).toInt.toNat + 1 + coI wet (nI k)) (y := mI M 164 k) tkX7_layCosts rfl (fun z => ?_) (fun z => ?_)
    · have z : mI M 164 (fS M0 k s).toInt.toNat + 1 + coI wet (nI k) < mI M 164 k := z
      rw [Int32.lt_iff_toInt_lt] at z
      refine Wf.sAl tkX7_layCosts rfl rfl rfl ?_
      refine Wf.sG tkX7_layCosts rfl k150 ?_
      show Wf l X uX7_layCosts (d + 3) true b 134 _ (.ref (mR M 150 33) :: []) M kr
      rw [r33]
      refine Wf.sIl tkX7_layCosts rfl rfl ?_
      refine Wf.sAl tkX7_layCosts rfl rfl rfl ?_
      refine Wf.sG tkX7_layCosts rfl k150 ?_
      show Wf l X uX7_layCosts (d + 3) true b 140 _ (.ref (mR M 150 33) :: [.int (nI k), .ref 164]) M kr
      rw [r33]
      refine Wf.sIl tkX7_layCosts rfl rfl ?_
      refine Wf.sIal (j := (fS M0 k s).toInt.toNat) tkX7_layCosts rfl k164 ⟨eo, by omega, by rw [m164]; exact hn20⟩ ?_
      refine Wf.sIc tkX7_layCosts rfl ?_
      refine Wf.s2 tkX7_layCosts rfl ?_
      refine Wf.sAl tkX7_layCosts rfl rfl rfl ?_
      refine Wf.sIl tkX7_layCosts rfl rfl ?_
      refine Wf.sIl tkX7_layCosts rfl rfl ?_
      refine Wf.sCv (as := [.int (nI k), .int wet]) (rest := [.int (mI M 164 (fS M0 k s).toInt.toNat + 1), .int (nI k), .ref 164]) tkX7_layCosts rfl rfl k150 rfl ?_
      refine k_cof (d := d + 1) ?_
      refine Wf.s2 (x := mI M 164 (fS M0 k s).toInt.toNat + 1) (y := coI wet (nI k)) tkX7_layCosts rfl ?_
      refine Wf.sIas (j := k) tkX7_layCosts rfl k164 ⟨rfl, by omega, by rw [m164]; exact hk⟩ ?_
      refine Wf.sIc tkX7_layCosts rfl ?_
      refine Wf.sIs tkX7_layCosts rfl rfl ?_
      obtain ⟨u1, u2⟩ := lyI_up hI hk hkn hs hf ev z
      refine nx 1 _ _ (ly_w h164 hJ hk) u1 (Or.inl ⟨rfl, ?_⟩)
      rcases hP with q | ⟨-, q, -⟩
      · omega
      · omega
    · refine Wf.sGo tkX7_layCosts rfl ?_
      refine nx more _ M hJ hI (skp (Or.inr (Or.inr ?_)))
      have z : ¬ mI M 164 (fS M0 k s).toInt.toNat + 1 + coI wet (nI k) < mI M 164 k := z
      rw [Int32.lt_iff_toInt_lt, ev] at z
      show (mI M 164 k).toInt ≤ _
      omega
theorem nC_b (hW : 2 ≤ (mI M0 153 0).toInt ∧ (mI M0 153 0).toInt ≤ 5) (hDp : 0 ≤ (mI M0 153 1).toInt ∧ (mI M0 153 1).toInt ≤ 4) : nC M0 ≤ 20 ∧ mI M0 153 0 * mI M0 153 1 = nI (nC M0) := by
  have q1 : (mI M0 153 0).toInt * (mI M0 153 1).toInt ≤ 5 * 4 := Int.mul_le_mul hW.2 hDp.2 hDp.1 (by omega)
  have q2 : 0 ≤ (mI M0 153 0).toInt * (mI M0 153 1).toInt := Int.mul_nonneg (by omega) hDp.1
  have lo : iLo ≤ 0 := by decide
  have hi : (100 : Int) ≤ iHi := by decide
  have em : (mI M0 153 0 * mI M0 153 1).toInt = (mI M0 153 0).toInt * (mI M0 153 1).toInt := mul_i (by omega) (by omega)
  exact ⟨by unfold nC; omega, nI_at (by omega) (by omega)⟩
set_option maxRecDepth 20000 in
theorem ly_out (h164 : lkR R 164 = []) (hW : 2 ≤ (mI M0 153 0).toInt ∧ (mI M0 153 0).toInt ≤ 5) (hDp : 0 ≤ (mI M0 153 1).toInt ∧ (mI M0 153 1).toInt ≤ 4) (hto : to < 20) {S0 : Nat}
    (h : ∀ (more : Int32) (M : Mm), lyJ R e M0 M → lyI M0 wet to M → ((more = 1 ∧ sgn M 20 < S0) ∨ (more = 0 ∧ lyF M0 wet M)) → Wf l X uX7_layCosts (d + 3) true b 45 [(0, .ref 150), (1, .int (nI to)), (2, .int wet), (3, .int more)] [] M kr) : ∀ k, k ≤ nC M0 → ∀ (more : Int32) (M : Mm), lyJ R e M0 M → lyI M0 wet to M → lyP M0 wet S0 M more k 0 → Wf l X uX7_layCosts (d + 3) true b 54 [(0, .ref 150), (1, .int (nI to)), (2, .int wet), (3, .int more), (4, .int (nI k))] [] M kr := by
  obtain ⟨hn20, hne⟩ := nC_b hW hDp
  refine dwn _ (nC M0) ?_ ?_
  · intro more M hJ hI hP
    have k150 : kk M 150 7 = true := kk_ok hJ.2.1 rfl
    refine Wf.sIl tkX7_layCosts rfl rfl ?_
    refine Wf.sAl tkX7_layCosts rfl rfl rfl ?_
    refine Wf.sCv (as := []) (rest := [.int (nI (nC M0))]) tkX7_layCosts rfl rfl k150 rfl ?_
    refine k_cells hJ.2.1 ?_
    rw [(hJ.2.2.1 153 0 rfl).1, (hJ.2.2.1 153 1 rfl).1, hne]
    refine Wf.sCm (x := nI (nC M0)) (y := nI (nC M0)) tkX7_layCosts rfl (fun _ => ?_) (fun z => absurd (Int32.le_refl _) z)
    refine Wf.sGo tkX7_layCosts rfl ?_
    refine Wf.sub (fun x hx => List.mem_append_left [(4, .int (nI (nC M0)))] hx) (h more M hJ hI ?_)
    rcases hP with z | ⟨z1, z2, z3⟩
    · exact Or.inl z
    · exact Or.inr ⟨z1, fun k' s' g1 g2 => z3 k' s' g1 g2 (Or.inl g1)⟩
  · intro k hk ih more M hJ hI hP
    have k150 : kk M 150 7 = true := kk_ok hJ.2.1 rfl
    refine Wf.sIl tkX7_layCosts rfl rfl ?_
    refine Wf.sAl tkX7_layCosts rfl rfl rfl ?_
    refine Wf.sCv (as := []) (rest := [.int (nI k)]) tkX7_layCosts rfl rfl k150 rfl ?_
    refine k_cells hJ.2.1 ?_
    rw [(hJ.2.2.1 153 0 rfl).1, (hJ.2.2.1 153 1 rfl).1, hne]
    refine Wf.sCm (x := nI k) (y := nI (nC M0)) tkX7_layCosts rfl (fun z => absurd z (nI_ge hk (by omega))) (fun _ => ?_)
    refine Wf.sIc tkX7_layCosts rfl ?_
    refine Wf.sIs tkX7_layCosts rfl rfl ?_
    exact ly_in h164 hW hDp hto (by omega) hk ih 0 (by decide) more M hJ hI hP
set_option maxRecDepth 20000 in
theorem ly_while (h164 : lkR R 164 = []) (hW : 2 ≤ (mI M0 153 0).toInt ∧ (mI M0 153 0).toInt ≤ 5) (hDp : 0 ≤ (mI M0 153 1).toInt ∧ (mI M0 153 1).toInt ≤ 4) (hto : to < 20) (h : ∀ M, lyJ R e M0 M → lyI M0 wet to M → lyF M0 wet M → kr none M) : ∀ (n : Nat) (M : Mm), sgn M 20 < n → lyJ R e M0 M → lyI M0 wet to M → Wf l X uX7_layCosts (d + 3) true b 45 [(0, .ref 150), (1, .int (nI to)), (2, .int wet), (3, .int 1)] [] M kr := by
  intro n
  induction n with
  | zero => intro M hn; exact absurd hn (Nat.not_lt_zero _)
  | succ n ih =>
    intro M hn hJ hI
    refine Wf.sIl tkX7_layCosts rfl rfl ?_
    refine Wf.sIf tkX7_layCosts rfl (fun z => absurd z (by decide)) (fun _ => ?_)
    refine Wf.sIc tkX7_layCosts rfl ?_
    refine Wf.sIs tkX7_layCosts rfl rfl ?_
    refine Wf.sIc tkX7_layCosts rfl ?_
    refine Wf.sIs tkX7_layCosts rfl rfl ?_
    refine ly_out (S0 := sgn M 20) h164 hW hDp hto (fun more M' hJ' hI' hq => ?_) 0 (Nat.zero_le _) 0 M hJ hI (Or.inr ⟨rfl, Nat.le_refl _, fun k' s' g1 g2 g3 => ?_⟩)
    · rcases hq with ⟨rfl, q⟩ | ⟨rfl, q⟩
      · exact ih M' (by omega) hJ' hI'
      · refine Wf.sIl tkX7_layCosts rfl rfl ?_
        refine Wf.sIf tkX7_layCosts rfl (fun _ => ?_) (fun z => absurd rfl z)
        exact Wf.sVr tkX7_layCosts rfl (h M' hJ' hI' q)
    · rcases g3 with g | ⟨-, g⟩
      · omega
      · omega
set_option maxRecDepth 20000 in
theorem ly_ev (h164 : lkR R 164 = []) (hI0 : Iv (mkP R) M0) (he : eO e M0) (hW : 2 ≤ (mI M0 153 0).toInt ∧ (mI M0 153 0).toInt ≤ 5) (hDp : 0 ≤ (mI M0 153 1).toInt ∧ (mI M0 153 1).toInt ≤ 4) (hto : to < 20) (h : ∀ M, lyJ R e M0 M → lyI M0 wet to M → lyF M0 wet M → kr none M) : Ev l X uX7_layCosts (d + 3) true 0 0 [.ref 150, .int (nI to), .int wet] M0 kr := by
  have eM : (100000000 : Int32).toInt = 100000000 := by decide
  refine Ev.of (by decide) (Nat.le_of_ble_eq_true rfl) ?_
  have fin : ∀ M, lyJ R e M0 M → lyI M0 wet to M → ∀ z : Int32, Wf l X uX7_layCosts (d + 3) true (mC M0 + 0, mS M0 + 0) 43 [(0, .ref 150), (1, .int (nI to)), (2, .int wet), (3, .int z)] [] M kr := by
    intro M hJ hI z
    refine Wf.sIc tkX7_layCosts rfl ?_
    refine Wf.sIs tkX7_layCosts rfl rfl ?_
    exact ly_while h164 hW hDp hto h (sgn M 20 + 1) M (Nat.lt_succ_self _) hJ hI
  have key : ∀ k, k ≤ 20 → ∀ M, lyJ R e M0 M → (∀ j, j < k → mI M 164 j = 100000000) → Wf l X uX7_layCosts (d + 3) true (mC M0 + 0, mS M0 + 0) 2 [(0, .ref 150), (1, .int (nI to)), (2, .int wet), (3, .int (nI k))] [] M kr := by
    refine dwn _ 20 ?_ ?_
    · intro M hJ hall
      have k150 : kk M 150 7 = true := kk_ok hJ.2.1 rfl
      have k164 : kk M 164 9 = true := kk_ok hJ.2.1 rfl
      have r33 : mR M 150 33 = 164 := List.mem_singleton.mp (hJ.2.1.2.2.1 150 33 (by decide))
      have m164 : (mK M 164).2 = 20 := by rw [hJ.2.1.2.1 164 (by decide)]; rfl
      have hc : ∀ j, j < 20 → cw M j = 100000000 := fun j hj => by unfold cw; rw [hall j hj]; exact eM
      refine Wf.sIl tkX7_layCosts rfl rfl ?_
      refine Wf.sIc tkX7_layCosts rfl ?_
      refine Wf.sCm (x := nI 20) (y := 20) tkX7_layCosts rfl (fun _ => ?_) (fun z => absurd (show (20 : Int32) ≤ nI 20 by decide) z)
      refine Wf.sAl tkX7_layCosts rfl rfl rfl ?_
      refine Wf.sIl tkX7_layCosts rfl rfl ?_
      refine Wf.sCv (as := [.int (nI to)]) (rest := []) tkX7_layCosts rfl rfl k150 rfl ?_
      refine k_isw (d := d + 1) hJ.2.1 ?_
      rw [(hJ.2.2.1 153 10 rfl).1, (hJ.2.2.1 150 26 rfl).1]
      cases hw : isw (mI M0 153 10) (mI M0 150 26) (nI to) with
      | true =>
        refine Wf.sIf tkX7_layCosts rfl (fun _ => ?_) (fun z => absurd z (by decide))
        refine fin M hJ ⟨fun j hj => by rw [hc j hj]; omega, fun j hj _ q => by rw [hc j hj] at q; omega, Or.inr ⟨hc to hto, fun s hs => ?_⟩⟩ _
        exact sfI_wall hw
      | false =>
        refine Wf.sIf tkX7_layCosts rfl (fun z => absurd rfl z) (fun _ => ?_)
        refine Wf.sAl tkX7_layCosts rfl rfl rfl ?_
        refine Wf.sG tkX7_layCosts rfl k150 ?_
        show Wf l X uX7_layCosts (d + 3) true _ 35 _ [.ref (mR M 150 33)] M kr
        rw [r33]
        refine Wf.sIl tkX7_layCosts rfl rfl ?_
        refine Wf.sAl tkX7_layCosts rfl rfl rfl ?_
        refine Wf.sIl tkX7_layCosts rfl rfl ?_
        refine Wf.sIl tkX7_layCosts rfl rfl ?_
        refine Wf.sCv (as := [.int (nI to), .int wet]) (rest := [.int (nI to), .ref 164]) tkX7_layCosts rfl rfl k150 rfl ?_
        refine k_cof (d := d + 1) ?_
        refine Wf.sIas (j := to) tkX7_layCosts rfl k164 ⟨rfl, by omega, by rw [m164]; exact hto⟩ ?_
        have cKb := cK_b wet to
        unfold cK at cKb
        refine fin _ (ly_w h164 hJ hto) ⟨fun j hj => ?_, fun j hj hjt q => ?_, Or.inl ?_⟩ _
        · rw [cw_w]
          split
          · omega
          · rw [hc j hj]; omega
        · rw [cw_w, if_neg hjt, hc j hj] at q
          omega
        · rw [cw_w, if_pos rfl]
          rfl
    · intro k hk ih M hJ hall
      have k150 : kk M 150 7 = true := kk_ok hJ.2.1 rfl
      have k164 : kk M 164 9 = true := kk_ok hJ.2.1 rfl
      have r33 : mR M 150 33 = 164 := List.mem_singleton.mp (hJ.2.1.2.2.1 150 33 (by decide))
      have m164 : (mK M 164).2 = 20 := by rw [hJ.2.1.2.1 164 (by decide)]; rfl
      refine Wf.sIl tkX7_layCosts rfl rfl ?_
      refine Wf.sIc tkX7_layCosts rfl ?_
      refine Wf.sCm (x := nI k) (y := 20) tkX7_layCosts rfl (fun z => absurd (show nI 20 ≤ nI k from z) (nI_ge hk (by decide))) (fun _ => ?_)
      refine Wf.sAl tkX7_layCosts rfl rfl rfl ?_
      refine Wf.sG tkX7_layCosts rfl k150 ?_
      show Wf l X uX7_layCosts (d + 3) true _ 12 _ [.ref (mR M 150 33)] M kr
      rw [r33]
      refine Wf.sIl tkX7_layCosts rfl rfl ?_
      refine Wf.sIc tkX7_layCosts rfl ?_
      refine Wf.sIas (j := k) tkX7_layCosts rfl k164 ⟨rfl, by omega, by rw [m164]; exact hk⟩ ?_
      refine Wf.sInc tkX7_layCosts rfl rfl rfl ?_
      refine Wf.sGo tkX7_layCosts rfl ?_
      rw [nI_1]
      refine ih _ (ly_w h164 hJ hk) (fun j hj => ?_)
      rw [mI_w]
      by_cases q : j = k
      · rw [if_pos ⟨rfl, q⟩]
      · rw [if_neg (fun z => q z.2)]
        exact hall j (by omega)
  refine Wf.sIc tkX7_layCosts rfl ?_
  refine Wf.sIs tkX7_layCosts rfl rfl ?_
  exact key 0 (Nat.zero_le _) M0 (Jv.rf hI0 he) (fun j hj => absurd hj (Nat.not_lt_zero _))
theorem wd_of {M : Mm} (h0 : rwB (lkR R 153) 0 = (2, 5)) (h1 : rwB (lkR R 153) 1 = (0, 4)) (hI : Iv (mkP R) M) : (2 ≤ (mI M 153 0).toInt ∧ (mI M 153 0).toInt ≤ 5) ∧ (0 ≤ (mI M 153 1).toInt ∧ (mI M 153 1).toInt ≤ 4) := by
  have b0 := hI.2.2.2 153 0 (by decide)
  have b1 := hI.2.2.2 153 1 (by decide)
  have e0 : rwB ((mkP R).2.2 153) 0 = (2, 5) := h0
  have e1 : rwB ((mkP R).2.2 153) 1 = (0, 4) := h1
  rw [e0] at b0
  rw [e1] at b1
  exact ⟨b0, b1⟩
theorem vh_lay (h0 : rwB (lkR R 153) 0 = (2, 5)) (h1 : rwB (lkR R 153) 1 = (0, 4)) (h164 : lkR R 164 = []) (d : Nat) : Vc l X U0 (mkP R) e (d + 4) ((232, [(2, 0, 0, [150]), (0, 0, 19, []), (0, iLo, iHi, [])], []), [(164, 0, 19)], [(none, [], [])]) := by
  intro av M kr hI he hb hf hr
  obtain ⟨v, t, rfl, hv, ht⟩ := gbs_1 hb
  obtain ⟨v2, t, rfl, hv2, ht⟩ := gbs_1 ht
  obtain ⟨v3, t, rfl, hv3, ht⟩ := gbs_1 ht
  obtain rfl := gbs_0 ht
  obtain rfl := gb_r1 hv
  obtain ⟨x, rfl, hx1, hx2⟩ := gb_i hv2
  obtain ⟨wet, rfl, -, -⟩ := gb_i hv3
  obtain ⟨hW, hDp⟩ := wd_of h0 h1 hI
  have ex : x = nI x.toInt.toNat := nI_at (by omega) (by omega)
  have hk : Ev l X uX7_layCosts (d + 4) true 0 0 [.ref 150, .int (nI x.toInt.toNat), .int wet] M kr := ly_ev (d := d + 1) h164 hI he hW hDp (by omega) (fun M' hJ' _ _ => hr none M' hJ' gps_n)
  rw [← ex] at hk
  exact hk
end LAYC
end
section
theorem r_none {av : List Value} {r : Option Value} {M : Mm} {ps : List Po} (h : ps.all (fun p => p.1.isNone) = true) (hp : gps av r M ps) : r = none := by
  obtain ⟨p, hm, h1, -⟩ := hp
  have h2 := List.all_eq_true.mp h p hm
  cases hq : p.1 with
  | some b => rw [hq] at h2; cases h2
  | none =>
    rw [hq] at h1
    cases r with
    | none => rfl
    | some v => exact h1.elim
end
