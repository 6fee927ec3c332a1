/-! the plan, a line more -/
section PLN
variable {l : Launch} {X : Nat × (Nat → Int32)} {d : Nat} {w : Nat × Nat} {p r : Nat} {I : Nat → Nat → Int32} {L : Nat → Nat → Int64} {kr : KR} {b : Nat → Nat} {n e : Nat} {nm : List Nm} {F : Nat → Nat} {W : Int32}
theorem PC_uF {q k v : Nat} (hk : k = 3 ∨ k = 8 ∨ k = 9) (h : PC q F W I) : PC q (uF F k v) W I := by
  have o : ∀ j, j ≠ 3 → j ≠ 8 → j ≠ 9 → uF F k v j = F j := fun j h1 h2 h3 => uF_o (by omega)
  obtain ⟨⟨a0, a1, a2, a3, a4, a5, a6, a7⟩, b1, b2, b3, b4, b5⟩ := h
  refine ⟨⟨by rw [o 0 (by omega) (by omega) (by omega)]; exact a0, by rw [o 1 (by omega) (by omega) (by omega)]; exact a1, by rw [o 2 (by omega) (by omega) (by omega)]; exact a2, a3, by rw [o 4 (by omega) (by omega) (by omega)]; exact a4, by rw [o 5 (by omega) (by omega) (by omega)]; exact a5, by rw [o 6 (by omega) (by omega) (by omega)]; exact a6, by rw [o 7 (by omega) (by omega) (by omega)]; exact a7⟩, fun f hf => ?_, fun f hf => ?_, fun f hf => ?_, fun f hf => ?_, fun f hf => ?_⟩
  · rw [o 4 (by omega) (by omega) (by omega)] at hf
    rw [o _ (by omega) (by omega) (by omega), o _ (by omega) (by omega) (by omega), o _ (by omega) (by omega) (by omega), o _ (by omega) (by omega) (by omega)]
    exact b1 f hf
  · rw [o _ (by omega) (by omega) (by omega)]
    exact b2 f hf
  · rw [o 5 (by omega) (by omega) (by omega)] at hf
    rw [o _ (by omega) (by omega) (by omega), o _ (by omega) (by omega) (by omega), o _ (by omega) (by omega) (by omega)]
    exact b3 f hf
  · rw [o 6 (by omega) (by omega) (by omega)] at hf
    rw [o _ (by omega) (by omega) (by omega), o _ (by omega) (by omega) (by omega)]
    exact b4 f hf
  · rw [o 7 (by omega) (by omega) (by omega)] at hf
    rw [o _ (by omega) (by omega) (by omega), o _ (by omega) (by omega) (by omega)]
    exact b5 f hf
theorem PC_W {q : Nat} {V : Int32} (h : PC q F W I) : PC q F V (u2 I q 3 V) := by
  obtain ⟨⟨a0, a1, a2, a3, a4, a5, a6, a7⟩, b1, b2, b3, b4, b5⟩ := h
  refine ⟨⟨by rw [u2_o (by omega)]; exact a0, by rw [u2_o (by omega)]; exact a1, by rw [u2_o (by omega)]; exact a2, u2_s, by rw [u2_o (by omega)]; exact a4, by rw [u2_o (by omega)]; exact a5, by rw [u2_o (by omega)]; exact a6, by rw [u2_o (by omega)]; exact a7⟩, fun f hf => ?_, fun f hf => ?_, fun f hf => ?_, fun f hf => ?_, fun f hf => ?_⟩
  · rw [u2_o (by omega), u2_o (by omega), u2_o (by omega), u2_o (by omega)]
    exact b1 f hf
  · rw [u2_o (by omega)]
    exact b2 f hf
  · rw [u2_o (by omega), u2_o (by omega), u2_o (by omega)]
    exact b3 f hf
  · rw [u2_o (by omega), u2_o (by omega)]
    exact b4 f hf
  · rw [u2_o (by omega), u2_o (by omega)]
    exact b5 f hf
theorem PC_drop {q f v : Nat} (hf : f < 6) (B4 : F 4 ≤ 6) (B5 : F 5 ≤ 5) (B6 : F 6 ≤ 4) (B7 : F 7 ≤ 4) (h : PC q F W I) : PC q (uF (uF F (61 + f) v) 8 (F 8 + 1)) W (u2 I (q + 5) f (nI v)) := by
  have o : ∀ j, j ≠ 61 + f → j ≠ 8 → uF (uF F (61 + f) v) 8 (F 8 + 1) j = F j := fun j h1 h2 => by rw [uF_o h2, uF_o h1]
  obtain ⟨⟨a0, a1, a2, a3, a4, a5, a6, a7⟩, b1, b2, b3, b4, b5⟩ := h
  refine ⟨⟨by rw [u2_o (by omega), o 0 (by omega) (by omega)]; exact a0, by rw [u2_o (by omega), o 1 (by omega) (by omega)]; exact a1, by rw [u2_o (by omega), o 2 (by omega) (by omega)]; exact a2, by rw [u2_o (by omega)]; exact a3, by rw [u2_o (by omega), o 4 (by omega) (by omega)]; exact a4, by rw [u2_o (by omega), o 5 (by omega) (by omega)]; exact a5, by rw [u2_o (by omega), o 6 (by omega) (by omega)]; exact a6, by rw [u2_o (by omega), o 7 (by omega) (by omega)]; exact a7⟩, fun g hg => ?_, fun g hg => ?_, fun g hg => ?_, fun g hg => ?_, fun g hg => ?_⟩
  · rw [o 4 (by omega) (by omega)] at hg
    rw [u2_o (by omega), u2_o (by omega), u2_o (by omega), u2_o (by omega), o _ (by omega) (by omega), o _ (by omega) (by omega), o _ (by omega) (by omega), o _ (by omega) (by omega)]
    exact b1 g hg
  · by_cases e : g = f
    · subst e
      rw [u2_s, uF_o (by omega), uF_s]
    · rw [u2_o (by omega), o _ (by omega) (by omega)]
      exact b2 g hg
  · rw [o 5 (by omega) (by omega)] at hg
    rw [u2_o (by omega), u2_o (by omega), u2_o (by omega), o _ (by omega) (by omega), o _ (by omega) (by omega), o _ (by omega) (by omega)]
    exact b3 g hg
  · rw [o 6 (by omega) (by omega)] at hg
    rw [u2_o (by omega), u2_o (by omega), o _ (by omega) (by omega), o _ (by omega) (by omega)]
    exact b4 g hg
  · rw [o 7 (by omega) (by omega)] at hg
    rw [u2_o (by omega), u2_o (by omega), o _ (by omega) (by omega), o _ (by omega) (by omega)]
    exact b5 g hg
theorem PC_face_o {kd ho we at0 j : Nat} (h : j ≠ 11 + 4 * F 4 ∧ j ≠ 12 + 4 * F 4 ∧ j ≠ 13 + 4 * F 4 ∧ j ≠ 14 + 4 * F 4 ∧ j ≠ 4) : (uF (uF (uF (uF (uF F (11 + 4 * F 4) kd) (12 + 4 * F 4) ho) (13 + 4 * F 4) we) (14 + 4 * F 4) at0) 4 (F 4 + 1)) j = F j := by
  rw [uF_o (h.2.2.2.2), uF_o (h.2.2.2.1), uF_o (h.2.2.1), uF_o (h.2.1), uF_o (h.1)]
theorem PC_face {q kd ho we at0 : Nat} (h : PC q F W I) (B4 : F 4 ≤ 6) (B5 : F 5 ≤ 5) (B6 : F 6 ≤ 4) (B7 : F 7 ≤ 4) (Bc : F 4 < 6) (x1 : I (q + 1) (F 4) = nI kd) (x2 : I (q + 2) (F 4) = nI ho) (x3 : I (q + 3) (F 4) = nI we) (x4 : I (q + 4) (F 4) = nI at0) : PC q (uF (uF (uF (uF (uF F (11 + 4 * F 4) kd) (12 + 4 * F 4) ho) (13 + 4 * F 4) we) (14 + 4 * F 4) at0) 4 (F 4 + 1)) W (u2 I q 4 (nI (F 4 + 1))) := by
  obtain ⟨⟨a0, a1, a2, a3, a4, a5, a6, a7⟩, b1, b2, b3, b4, b5⟩ := h
  refine ⟨⟨?_, ?_, ?_, ?_, ?_, ?_, ?_, ?_⟩, fun f hf => ?_, fun f hf => ?_, fun f hf => ?_, fun f hf => ?_, fun f hf => ?_⟩
  · rw [u2_o (by omega), PC_face_o (by omega)]; exact a0
  · rw [u2_o (by omega), PC_face_o (by omega)]; exact a1
  · rw [u2_o (by omega), PC_face_o (by omega)]; exact a2
  · rw [u2_o (by omega)]; exact a3
  · rw [u2_s, uF_s]
  · rw [u2_o (by omega), PC_face_o (by omega)]; exact a5
  · rw [u2_o (by omega), PC_face_o (by omega)]; exact a6
  · rw [u2_o (by omega), PC_face_o (by omega)]; exact a7
  · rw [uF_s] at hf
    rw [u2_o (by omega), u2_o (by omega), u2_o (by omega), u2_o (by omega)]
    rcases Nat.lt_or_ge f (F 4) with z | z
    · rw [PC_face_o (j := 11 + 4 * f) (by omega), PC_face_o (j := 12 + 4 * f) (by omega), PC_face_o (j := 13 + 4 * f) (by omega), PC_face_o (j := 14 + 4 * f) (by omega)]
      exact b1 f z
    · have ef : f = F 4 := by omega
      subst ef
      exact ⟨by rw [uF_o (by omega), uF_o (by omega), uF_o (by omega), uF_o (by omega), uF_s]; exact x1, by rw [uF_o (by omega), uF_o (by omega), uF_o (by omega), uF_s]; exact x2, by rw [uF_o (by omega), uF_o (by omega), uF_s]; exact x3, by rw [uF_o (by omega), uF_s]; exact x4⟩
  · rw [u2_o (by omega), PC_face_o (j := 61 + f) (by omega)]
    exact b2 f hf
  · have hf : f < F 5 := by rw [PC_face_o (by omega)] at hf; exact hf
    rw [u2_o (by omega), u2_o (by omega), u2_o (by omega), PC_face_o (j := 300 + f) (by omega), PC_face_o (j := 35 + 2 * f) (by omega), PC_face_o (j := 36 + 2 * f) (by omega)]
    exact b3 f hf
  · have hf : f < F 6 := by rw [PC_face_o (by omega)] at hf; exact hf
    rw [u2_o (by omega), u2_o (by omega), PC_face_o (j := 45 + 2 * f) (by omega), PC_face_o (j := 46 + 2 * f) (by omega)]
    exact b4 f hf
  · have hf : f < F 7 := by rw [PC_face_o (by omega)] at hf; exact hf
    rw [u2_o (by omega), u2_o (by omega), PC_face_o (j := 53 + 2 * f) (by omega), PC_face_o (j := 54 + 2 * f) (by omega)]
    exact b5 f hf
theorem PC_canon_o {f0 ve ev j : Nat} (h : j ≠ 300 + F 5 ∧ j ≠ 35 + 2 * F 5 ∧ j ≠ 36 + 2 * F 5 ∧ j ≠ 5) : (uF (uF (uF (uF F (300 + F 5) f0) (35 + 2 * F 5) ve) (36 + 2 * F 5) ev) 5 (F 5 + 1)) j = F j := by
  rw [uF_o (h.2.2.2), uF_o (h.2.2.1), uF_o (h.2.1), uF_o (h.1)]
theorem PC_canon {q f0 ve ev : Nat} (h : PC q F W I) (B4 : F 4 ≤ 6) (B5 : F 5 ≤ 5) (B6 : F 6 ≤ 4) (B7 : F 7 ≤ 4) (Bc : F 5 < 5) (x6 : I (q + 6) (F 5) = nI f0) (x7 : I (q + 7) (F 5) = nI ve) (x8 : I (q + 8) (F 5) = nI ev) : PC q (uF (uF (uF (uF F (300 + F 5) f0) (35 + 2 * F 5) ve) (36 + 2 * F 5) ev) 5 (F 5 + 1)) W (u2 I q 10 (nI (F 5 + 1))) := by
  obtain ⟨⟨a0, a1, a2, a3, a4, a5, a6, a7⟩, b1, b2, b3, b4, b5⟩ := h
  refine ⟨⟨?_, ?_, ?_, ?_, ?_, ?_, ?_, ?_⟩, fun f hf => ?_, fun f hf => ?_, fun f hf => ?_, fun f hf => ?_, fun f hf => ?_⟩
  · rw [u2_o (by omega), PC_canon_o (by omega)]; exact a0
  · rw [u2_o (by omega), PC_canon_o (by omega)]; exact a1
  · rw [u2_o (by omega), PC_canon_o (by omega)]; exact a2
  · rw [u2_o (by omega)]; exact a3
  · rw [u2_o (by omega), PC_canon_o (by omega)]; exact a4
  · rw [u2_s, uF_s]
  · rw [u2_o (by omega), PC_canon_o (by omega)]; exact a6
  · rw [u2_o (by omega), PC_canon_o (by omega)]; exact a7
  · have hf : f < F 4 := by rw [PC_canon_o (by omega)] at hf; exact hf
    rw [u2_o (by omega), u2_o (by omega), u2_o (by omega), u2_o (by omega), PC_canon_o (j := 11 + 4 * f) (by omega), PC_canon_o (j := 12 + 4 * f) (by omega), PC_canon_o (j := 13 + 4 * f) (by omega), PC_canon_o (j := 14 + 4 * f) (by omega)]
    exact b1 f hf
  · rw [u2_o (by omega), PC_canon_o (j := 61 + f) (by omega)]
    exact b2 f hf
  · rw [uF_s] at hf
    rw [u2_o (by omega), u2_o (by omega), u2_o (by omega)]
    rcases Nat.lt_or_ge f (F 5) with z | z
    · rw [PC_canon_o (j := 300 + f) (by omega), PC_canon_o (j := 35 + 2 * f) (by omega), PC_canon_o (j := 36 + 2 * f) (by omega)]
      exact b3 f z
    · have ef : f = F 5 := by omega
      subst ef
      exact ⟨by rw [uF_o (by omega), uF_o (by omega), uF_o (by omega), uF_s]; exact x6, by rw [uF_o (by omega), uF_o (by omega), uF_s]; exact x7, by rw [uF_o (by omega), uF_s]; exact x8⟩
  · have hf : f < F 6 := by rw [PC_canon_o (by omega)] at hf; exact hf
    rw [u2_o (by omega), u2_o (by omega), PC_canon_o (j := 45 + 2 * f) (by omega), PC_canon_o (j := 46 + 2 * f) (by omega)]
    exact b4 f hf
  · have hf : f < F 7 := by rw [PC_canon_o (by omega)] at hf; exact hf
    rw [u2_o (by omega), u2_o (by omega), PC_canon_o (j := 53 + 2 * f) (by omega), PC_canon_o (j := 54 + 2 * f) (by omega)]
    exact b5 f hf
theorem PC_walker_o {fr to0 j : Nat} (h : j ≠ 45 + 2 * F 6 ∧ j ≠ 46 + 2 * F 6 ∧ j ≠ 6) : (uF (uF (uF F (45 + 2 * F 6) fr) (46 + 2 * F 6) to0) 6 (F 6 + 1)) j = F j := by
  rw [uF_o (h.2.2), uF_o (h.2.1), uF_o (h.1)]
theorem PC_walker {q fr to0 : Nat} (h : PC q F W I) (B4 : F 4 ≤ 6) (B5 : F 5 ≤ 5) (B6 : F 6 ≤ 4) (B7 : F 7 ≤ 4) (Bc : F 6 < 4) (x9 : I (q + 9) (F 6) = nI fr) (x10 : I (q + 10) (F 6) = nI to0) : PC q (uF (uF (uF F (45 + 2 * F 6) fr) (46 + 2 * F 6) to0) 6 (F 6 + 1)) W (u2 I q 14 (nI (F 6 + 1))) := by
  obtain ⟨⟨a0, a1, a2, a3, a4, a5, a6, a7⟩, b1, b2, b3, b4, b5⟩ := h
  refine ⟨⟨?_, ?_, ?_, ?_, ?_, ?_, ?_, ?_⟩, fun f hf => ?_, fun f hf => ?_, fun f hf => ?_, fun f hf => ?_, fun f hf => ?_⟩
  · rw [u2_o (by omega), PC_walker_o (by omega)]; exact a0
  · rw [u2_o (by omega), PC_walker_o (by omega)]; exact a1
  · rw [u2_o (by omega), PC_walker_o (by omega)]; exact a2
  · rw [u2_o (by omega)]; exact a3
  · rw [u2_o (by omega), PC_walker_o (by omega)]; exact a4
  · rw [u2_o (by omega), PC_walker_o (by omega)]; exact a5
  · rw [u2_s, uF_s]
  · rw [u2_o (by omega), PC_walker_o (by omega)]; exact a7
  · have hf : f < F 4 := by rw [PC_walker_o (by omega)] at hf; exact hf
    rw [u2_o (by omega), u2_o (by omega), u2_o (by omega), u2_o (by omega), PC_walker_o (j := 11 + 4 * f) (by omega), PC_walker_o (j := 12 + 4 * f) (by omega), PC_walker_o (j := 13 + 4 * f) (by omega), PC_walker_o (j := 14 + 4 * f) (by omega)]
    exact b1 f hf
  · rw [u2_o (by omega), PC_walker_o (j := 61 + f) (by omega)]
    exact b2 f hf
  · have hf : f < F 5 := by rw [PC_walker_o (by omega)] at hf; exact hf
    rw [u2_o (by omega), u2_o (by omega), u2_o (by omega), PC_walker_o (j := 300 + f) (by omega), PC_walker_o (j := 35 + 2 * f) (by omega), PC_walker_o (j := 36 + 2 * f) (by omega)]
    exact b3 f hf
  · rw [uF_s] at hf
    rw [u2_o (by omega), u2_o (by omega)]
    rcases Nat.lt_or_ge f (F 6) with z | z
    · rw [PC_walker_o (j := 45 + 2 * f) (by omega), PC_walker_o (j := 46 + 2 * f) (by omega)]
      exact b4 f z
    · have ef : f = F 6 := by omega
      subst ef
      exact ⟨by rw [uF_o (by omega), uF_o (by omega), uF_s]; exact x9, by rw [uF_o (by omega), uF_s]; exact x10⟩
  · have hf : f < F 7 := by rw [PC_walker_o (by omega)] at hf; exact hf
    rw [u2_o (by omega), u2_o (by omega), PC_walker_o (j := 53 + 2 * f) (by omega), PC_walker_o (j := 54 + 2 * f) (by omega)]
    exact b5 f hf
theorem PC_unsure_o {c0 ve j : Nat} (h : j ≠ 53 + 2 * F 7 ∧ j ≠ 54 + 2 * F 7 ∧ j ≠ 7) : (uF (uF (uF F (53 + 2 * F 7) c0) (54 + 2 * F 7) ve) 7 (F 7 + 1)) j = F j := by
  rw [uF_o (h.2.2), uF_o (h.2.1), uF_o (h.1)]
theorem PC_unsure {q c0 ve : Nat} (h : PC q F W I) (B4 : F 4 ≤ 6) (B5 : F 5 ≤ 5) (B6 : F 6 ≤ 4) (B7 : F 7 ≤ 4) (Bc : F 7 < 4) (x11 : I (q + 11) (F 7) = nI c0) (x12 : I (q + 12) (F 7) = nI ve) : PC q (uF (uF (uF F (53 + 2 * F 7) c0) (54 + 2 * F 7) ve) 7 (F 7 + 1)) W (u2 I q 17 (nI (F 7 + 1))) := by
  obtain ⟨⟨a0, a1, a2, a3, a4, a5, a6, a7⟩, b1, b2, b3, b4, b5⟩ := h
  refine ⟨⟨?_, ?_, ?_, ?_, ?_, ?_, ?_, ?_⟩, fun f hf => ?_, fun f hf => ?_, fun f hf => ?_, fun f hf => ?_, fun f hf => ?_⟩
  · rw [u2_o (by omega), PC_unsure_o (by omega)]; exact a0
  · rw [u2_o (by omega), PC_unsure_o (by omega)]; exact a1
  · rw [u2_o (by omega), PC_unsure_o (by omega)]; exact a2
  · rw [u2_o (by omega)]; exact a3
  · rw [u2_o (by omega), PC_unsure_o (by omega)]; exact a4
  · rw [u2_o (by omega), PC_unsure_o (by omega)]; exact a5
  · rw [u2_o (by omega), PC_unsure_o (by omega)]; exact a6
  · rw [u2_s, uF_s]
  · have hf : f < F 4 := by rw [PC_unsure_o (by omega)] at hf; exact hf
    rw [u2_o (by omega), u2_o (by omega), u2_o (by omega), u2_o (by omega), PC_unsure_o (j := 11 + 4 * f) (by omega), PC_unsure_o (j := 12 + 4 * f) (by omega), PC_unsure_o (j := 13 + 4 * f) (by omega), PC_unsure_o (j := 14 + 4 * f) (by omega)]
    exact b1 f hf
  · rw [u2_o (by omega), PC_unsure_o (j := 61 + f) (by omega)]
    exact b2 f hf
  · have hf : f < F 5 := by rw [PC_unsure_o (by omega)] at hf; exact hf
    rw [u2_o (by omega), u2_o (by omega), u2_o (by omega), PC_unsure_o (j := 300 + f) (by omega), PC_unsure_o (j := 35 + 2 * f) (by omega), PC_unsure_o (j := 36 + 2 * f) (by omega)]
    exact b3 f hf
  · have hf : f < F 6 := by rw [PC_unsure_o (by omega)] at hf; exact hf
    rw [u2_o (by omega), u2_o (by omega), PC_unsure_o (j := 45 + 2 * f) (by omega), PC_unsure_o (j := 46 + 2 * f) (by omega)]
    exact b4 f hf
  · rw [uF_s] at hf
    rw [u2_o (by omega), u2_o (by omega)]
    rcases Nat.lt_or_ge f (F 7) with z | z
    · rw [PC_unsure_o (j := 53 + 2 * f) (by omega), PC_unsure_o (j := 54 + 2 * f) (by omega)]
      exact b5 f z
    · have ef : f = F 7 := by omega
      subst ef
      exact ⟨by rw [uF_o (by omega), uF_o (by omega), uF_s]; exact x11, by rw [uF_o (by omega), uF_s]; exact x12⟩
end PLN
