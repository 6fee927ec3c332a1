/-! String constants: their length, their letters, as the JDK's own code -/
section STR
variable {l : Launch} {X : Nat × (Nat → Int32)} {q : Md} {d : Nat} {na : Bool} {b : Nat × Nat} {pc : Nat}
def rS (a : Nat) : Prop := 5000 ≤ a ∧ a < 5042
def rT (a : Nat) : Prop := 5100 ≤ a ∧ a < 5142
/-- getfield value, coder; their byte arrays are the names 5100 + i -/
def oGsv (pc : Nat) : OP := fun kn _ ls st M => match st with
  | .ref a :: st => rS a ∧ kn (pc + 3) ls (.ref (a + 100) :: st) M
  | _ => False
def oGsc (pc : Nat) : OP := fun kn _ ls st M => match st with
  | .ref a :: st => rS a ∧ kn (pc + 3) ls (.int 0 :: st) M
  | _ => False
def oSln (pc : Nat) : OP := fun kn _ ls st M => match st with
  | .ref a :: st => rT a ∧ kn (pc + 1) ls (.int (nI (tB (a - 5100)).length) :: st) M
  | _ => False
def oSbl (pc : Nat) : OP := fun kn _ ls st M => match st with
  | .int i :: .ref a :: st => rT a ∧ vp_in i (tB (a - 5100)).length ∧ kn (pc + 1) ls (.int ((tB (a - 5100)).getD i.toNatClampNeg 0) :: st) M
  | _ => False
def oGz (pc : Nat) : OP := fun kn _ ls st M => kn (pc + 3) ls (.int 1 :: st) M
theorem ok_gsv {idx : Nat} (hw : Cond.fieldLink q.1.cls idx "java/lang/String" "value" "[B" ∈ wB) (hd : decode q.2.1 pc = .ok (.getfield idx, 3)) : OK l X q d na b pc (oGsv pc) := by
  intro kn kr ls st M hk h
  simp only [oGsv] at h
  split at h
  · rename_i a st
    obtain ⟨ha, h⟩ := h
    obtain ⟨a', haa⟩ : ∃ z : Nat, z = a := ⟨a, rfl⟩
    subst haa
    obtain ⟨ha1, ha2⟩ := ha
    intro p e R s m args below meth c Q D g ad0 A n0 S0 c0 s0 ad H locs la hf g1 g2 g3 g4 g5 g6 g7 g8 hr hl hk2
    have hE := (hf.2.2.2.2.2.2.2.2.2.2.2.2.1 (a' - 5000) (by omega)).2.2.1
    rw [show 5000 + (a' - 5000) = a' by omega, show 5100 + (a' - 5000) = a' + 100 by omega] at hE
    have ea : ad a' = ad0 a' := hr.2.2.2.2.2.2.1 _ (Or.inr (by omega))
    have eb : ad (a' + 100) = ad0 (a' + 100) := hr.2.2.2.2.2.2.1 _ (Or.inr (by omega))
    have hW := hk _ _ _ _ h p e R s m args below meth c Q D g ad0 A n0 S0 c0 s0 ad H locs la hf g1 g2 g3 g4 g5 g6 g7 g8 hr hl hk2
    rw [List.map_cons, iv_ref (by omega), eb] at hW
    rw [List.map_cons, iv_ref (by omega), ea]
    exact vk_getf hf.1 hf.2.1 hE hr.2.2.1 hf.2.2.2.2.2.1 (hf.2.2.2.2.2.2.2.1 _ hw) (fun _ z => z) hd hW
  · exact h.elim
theorem ok_gsc {idx : Nat} (hw : Cond.fieldLink q.1.cls idx "java/lang/String" "coder" "B" ∈ wB) (hd : decode q.2.1 pc = .ok (.getfield idx, 3)) : OK l X q d na b pc (oGsc pc) := by
  intro kn kr ls st M hk h
  simp only [oGsc] at h
  split at h
  · rename_i a st
    obtain ⟨ha, h⟩ := h
    obtain ⟨a', haa⟩ : ∃ z : Nat, z = a := ⟨a, rfl⟩
    subst haa
    obtain ⟨ha1, ha2⟩ := ha
    intro p e R s m args below meth c Q D g ad0 A n0 S0 c0 s0 ad H locs la hf g1 g2 g3 g4 g5 g6 g7 g8 hr hl hk2
    have hE := (hf.2.2.2.2.2.2.2.2.2.2.2.2.1 (a' - 5000) (by omega)).2.1
    rw [show 5000 + (a' - 5000) = a' by omega] at hE
    have ea : ad a' = ad0 a' := hr.2.2.2.2.2.2.1 _ (Or.inr (by omega))
    have hW := hk _ _ _ _ h p e R s m args below meth c Q D g ad0 A n0 S0 c0 s0 ad H locs la hf g1 g2 g3 g4 g5 g6 g7 g8 hr hl hk2
    rw [List.map_cons, iv_ref (by omega), ea]
    exact vk_getf hf.1 hf.2.1 hE hr.2.2.1 hf.2.2.2.2.2.1 (hf.2.2.2.2.2.2.2.1 _ hw) (fun _ z => z) hd hW
  · exact h.elim
theorem ok_sln (hd : decode q.2.1 pc = .ok (.arraylength, 1)) : OK l X q d na b pc (oSln pc) := by
  intro kn kr ls st M hk h
  simp only [oSln] at h
  split at h
  · rename_i a st
    obtain ⟨ha, h⟩ := h
    obtain ⟨a', haa⟩ : ∃ z : Nat, z = a := ⟨a, rfl⟩
    subst haa
    obtain ⟨ha1, ha2⟩ := ha
    intro p e R s m args below meth c Q D g ad0 A n0 S0 c0 s0 ad H locs la hf g1 g2 g3 g4 g5 g6 g7 g8 hr hl hk2
    have hE := (hf.2.2.2.2.2.2.2.2.2.2.2.2.1 (a' - 5100) (by omega)).2.2.2
    rw [show 5100 + (a' - 5100) = a' by omega] at hE
    have ea : ad a' = ad0 a' := hr.2.2.2.2.2.2.1 _ (Or.inr (by omega))
    have hW := hk _ _ _ _ h p e R s m args below meth c Q D g ad0 A n0 S0 c0 s0 ad H locs la hf g1 g2 g3 g4 g5 g6 g7 g8 hr hl hk2
    rw [List.map_cons, iv_ref (by omega), ea]
    exact va_tlen hf.1 hf.2.1 hE hr.2.2.1 rfl hd hW
  · exact h.elim
theorem ok_sbl (hd : decode q.2.1 pc = .ok (.baload, 1)) : OK l X q d na b pc (oSbl pc) := by
  intro kn kr ls st M hk h
  simp only [oSbl] at h
  split at h
  · rename_i i a st
    obtain ⟨ha, hin, h⟩ := h
    obtain ⟨a', haa⟩ : ∃ z : Nat, z = a := ⟨a, rfl⟩
    subst haa
    obtain ⟨ha1, ha2⟩ := ha
    intro p e R s m args below meth c Q D g ad0 A n0 S0 c0 s0 ad H locs la hf g1 g2 g3 g4 g5 g6 g7 g8 hr hl hk2
    have hE := (hf.2.2.2.2.2.2.2.2.2.2.2.2.1 (a' - 5100) (by omega)).2.2.2
    rw [show 5100 + (a' - 5100) = a' by omega] at hE
    have ea : ad a' = ad0 a' := hr.2.2.2.2.2.2.1 _ (Or.inr (by omega))
    have hW := hk _ _ _ _ h p e R s m args below meth c Q D g ad0 A n0 S0 c0 s0 ad H locs la hf g1 g2 g3 g4 g5 g6 g7 g8 hr hl hk2
    rw [List.map_cons, List.map_cons, iv_ref (by omega), ea]
    exact va_tb hf.1 hf.2.1 hE hr.2.2.1 hin rfl hd hW
  · exact h.elim
theorem ok_gz {idx : Nat} (hw : Cond.fieldLink q.1.cls idx "java/lang/String" "COMPACT_STRINGS" "Z" ∈ wB) (hd : decode q.2.1 pc = .ok (.getstatic idx, 3)) : OK l X q d na b pc (oGz pc) := by
  intro kn kr ls st M hk h p e R s m args below meth c Q D g ad0 A n0 S0 c0 s0 ad H locs la hf g1 g2 g3 g4 g5 g6 g7 g8 hr hl hk2
  have hZ := hf.2.2.2.2.2.2.2.2.2.2.2.2.2.2.1.1
  have hW := hk _ _ _ _ h p e R s m args below meth c Q D g ad0 A n0 S0 c0 s0 ad H locs la hf g1 g2 g3 g4 g5 g6 g7 g8 hr hl hk2
  exact va_gets hf.1 hf.2.1 hZ hr.2.2.1 hf.2.2.2.2.2.1 (hf.2.2.2.2.2.2.2.1 _ hw) (fun _ z => z) hd hW
/-- an int's return as a byte or a char -/
def oTr (ty : FieldType) : OP := fun _ kr _ st M => match st with
  | [.int v] => narrow ty (.int v) = .int v ∧ kr (some (.int v)) M
  | _ => False
theorem ok_tr {ty : FieldType} (hr : q.2.2.2 = some ty) (hd : decode q.2.1 pc = .ok (.ireturn, 1)) : OK l X q d na b pc (oTr ty) := by
  intro kn kr ls st M hk h
  simp only [oTr] at h
  split at h
  · exact Wf.end (r := some (.int _)) (Or.inl ⟨_, _, rfl, hr, h.1, hd⟩) h.2
  · exact h.elim
/-! a static that holds a reference or null: its name is 4998, or null -/
theorem wl_ad {g : Nat → ClassId} {ad ad' : Nat → Nat} {M : Mm} (hk : kO M) (h : ∀ n, n ≤ mN M → ad' n = ad n) : wl g ad' M = wl g ad M := by
  have hiv : ∀ a i, iv ad' (.ref (mR M a i)) = iv ad (.ref (mR M a i)) := by
    intro a i
    have hle := hk a i
    cases hm : mR M a i with
    | zero => rfl
    | succ n => show Value.ref (ad' (n + 1)) = Value.ref (ad (n + 1)); rw [h _ (by rw [← hm]; exact hle)]
  have hsv : ∀ a k t, iv ad' (sv M a k t) = iv ad (sv M a k t) := by
    intro a k t
    match t with
    | 0 => rfl
    | 1 => rfl
    | t + 2 => exact hiv a k
  have her : ∀ a, er ad' M a = er ad M a := by
    intro a
    funext i
    have hle := hk a i
    unfold er
    cases hm : mR M a i with
    | zero => rfl
    | succ n => show some (ad' (n + 1)) = some (ad (n + 1)); rw [h _ (by rw [← hm]; exact hle)]
  have hen : ∀ a, en g ad' M a = en g ad M a := by
    intro a
    unfold en eo
    simp only [hsv, her]
  unfold wl
  apply List.map_congr_left
  intro i hi
  have hi2 := List.mem_range.mp hi
  rw [hen, h _ (by omega)]
/-- names below 4998 stand where they stood: a run that may name more gives one that doesn't -/
def nref (st : List Value) : Prop := ∀ v ∈ st, ∀ a : Nat, v = .ref a → a = 0 ∨ 5000 ≤ a
theorem nref_map {ad ad' : Nat → Nat} (h : ∀ n, 4999 ≤ n → ad' n = ad n) : ∀ {st : List Value}, nref st → st.map (iv ad') = st.map (iv ad)
  | [], _ => rfl
  | v :: t, hn => by
    rw [List.map_cons, List.map_cons, nref_map h (fun w hw => hn w (List.mem_cons_of_mem _ hw))]
    congr 1
    cases v with
    | ref a =>
      obtain ⟨a', haa⟩ : ∃ z : Nat, z = a := ⟨a, rfl⟩
      subst haa
      rcases hn _ List.mem_cons_self a' rfl with e | e
      · rw [e]; rfl
      · rw [iv_ref (by omega), iv_ref (by omega), h a' (by omega)]
    | _ => rfl
theorem Wf.loose {kr : KR} {ls : Ls} {st : List Value} {M : Mm} (h : Wf l X q d false b pc ls st M (fun r M' => M' = M ∧ r = none ∧ kr none M)) : Wf l X q d true b pc ls st M kr := by
  intro p e R s m args below meth c Q D g ad0 A n0 S0 c0 s0 ad H locs la hf g1 g2 g3 g4 g5 g6 g7 g8 hr hl hk2
  obtain ⟨r1, r2, r3, r4, r5, r6, r7, r8⟩ := hr
  obtain ⟨e1, e2⟩ := r8 rfl
  refine h p e R s m args below meth c Q D g ad0 A (mN M) S0 c0 s0 ad H locs la hf g1 g2 g3 g4 g5 g6 g7 g8 ⟨r1, r2, r3, r4, Nat.le_refl _, r6, fun n _ => by rw [e1], fun z => by cases z⟩ hl ?_
  intro pc' r M' ad' H' locs' la' hkr hr' h1 h2 h3 h4 ht
  obtain ⟨rfl, rfl, hk⟩ := hkr
  obtain ⟨q1, q2, q3, q4, q5, q6, q7, q8⟩ := hr'
  have ew : wl g ad' M' = wl g ad0 M' := wl_ad q4 (fun n hn => q7 n (Or.inl hn))
  rw [ew] at q1 q2
  rw [← e1] at q1 q2
  exact hk2 pc' none M' ad H' locs' la' hk ⟨q1, q2, q3, q4, r5, q6, fun n _ => by rw [e1], fun _ => ⟨e1, e2⟩⟩ h1 h2 h3 h4 ht
def oGq (pc : Nat) : OP := fun kn _ ls st M => (nref st ∧ ∀ x ∈ ls, ∀ a : Nat, x.2 = .ref a → a = 0 ∨ 5000 ≤ a) ∧ kn (pc + 3) ls (.ref 0 :: st) M ∧ kn (pc + 3) ls (.ref 4998 :: st) M
theorem ok_gq {idx : Nat} (hw : Cond.fieldLink q.1.cls idx "jdk/internal/util/Preconditions" "SIOOBE_FORMATTER" "Ljava/util/function/BiFunction;" ∈ wB) (hd : decode q.2.1 pc = .ok (.getstatic idx, 3)) : OK l X q d false b pc (oGq pc) := by
  intro kn kr ls st M hk h p e R s m args below meth c Q D g ad0 A n0 S0 c0 s0 ad H locs la hf g1 g2 g3 g4 g5 g6 g7 g8 hr hl hk2
  obtain ⟨⟨hn, hnl⟩, h0, h1⟩ := h
  rcases hf.2.2.2.2.2.2.2.2.2.2.2.2.2.2.1.2 with hZ | ⟨t, hZ⟩
  · have hW := hk _ _ _ _ h0 p e R s m args below meth c Q D g ad0 A n0 S0 c0 s0 ad H locs la hf g1 g2 g3 g4 g5 g6 g7 g8 hr hl hk2
    exact va_gets hf.1 hf.2.1 hZ hr.2.2.1 hf.2.2.2.2.2.1 (hf.2.2.2.2.2.2.2.1 _ hw) (fun _ z => z) hd hW
  · obtain ⟨r1, r2, r3, r4, r5, r6, r7, r8⟩ := hr
    have hu : ∀ n, n ≠ 4998 → (fun n => if n = 4998 then t else ad n) n = ad n := fun n hn => if_neg hn
    have ew : wl g (fun n => if n = 4998 then t else ad n) M = wl g ad M := wl_ad r4 (fun n hn => hu n (by omega))
    have em : lm (fun n => if n = 4998 then t else ad n) ls = lm ad ls := by
      unfold lm
      apply List.map_congr_left
      intro x hx
      have hx2 := hnl x hx
      cases hv : x.2 with
      | ref a =>
        obtain ⟨a', haa⟩ : ∃ z : Nat, z = a := ⟨a, rfl⟩
        subst haa
        rcases hx2 a' hv with e | e
        · rw [e]; rfl
        · rw [iv_ref (by omega), iv_ref (by omega), if_neg (by omega)]
      | _ => rfl
    have hW := hk _ _ _ _ h1 p e R s m args below meth c Q D g ad0 A n0 S0 c0 s0 (fun n => if n = 4998 then t else ad n) H locs la hf g1 g2 g3 g4 g5 g6 g7 g8 ⟨by rw [ew]; exact r1, by rw [ew]; exact r2, r3, r4, r5, r6, fun n hn => by rw [hu n (by omega)]; exact r7 n hn, fun z => by cases z⟩ (by rw [em]; exact hl) hk2
    have es : ((.ref 4998 :: st : List Value).map (iv (fun n => if n = 4998 then t else ad n))) = .ref t :: st.map (iv ad) := by
      rw [List.map_cons, nref_map (fun n hn => hu n (by omega)) hn]
      rfl
    rw [es] at hW
    exact va_gets hf.1 hf.2.1 hZ r3 hf.2.2.2.2.2.1 (hf.2.2.2.2.2.2.2.1 _ hw) (fun _ z => z) hd hW
end STR
