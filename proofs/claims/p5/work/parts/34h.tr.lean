/-! contracts of the reference with the trouble at the end, table 6 -/
def Kc1778 : Con := ((146, [(2, 0, 0, [150])], []), [(150, 0, 0), (150, 11, 11)], [(none, [], [(150, 11, (0, 0, 0, []))])])
set_option maxRecDepth 20000 in
theorem vc1778 {l : Launch} {X : Nat × (Nat → Int32)} {e : Int} (d : Nat) : Vc l X U0 Pt6 e d Kc1778 :=
  ck (d := d) (Ks := []) (cy := 152) (cd := cdX7_good) (nl := 1) (fuel := 1000) (Hs := []) (by decide) rfl (fun na b => by rw [← ceX7_good]; exact tkX7_good) (fun _ h => absurd h List.not_mem_nil) (cpyX d) (by decide +kernel)
def Kc1779 : Con := ((147, [(2, 0, 0, [150]), (0, 1, 1, [])], []), [(150, 11, 11)], [(some (0, (-1), (-1), []), [], [(150, 11, (0, 1, 1, []))])])
set_option maxRecDepth 20000 in
theorem vc1779 {l : Launch} {X : Nat × (Nat → Int32)} {e : Int} (d : Nat) : Vc l X U0 Pt6 e d Kc1779 :=
  ck (d := d) (Ks := []) (cy := 152) (cd := cdX7_no) (nl := 2) (fuel := 1000) (Hs := []) (by decide) rfl (fun na b => by rw [← ceX7_no]; exact tkX7_no) (fun _ h => absurd h List.not_mem_nil) (cpyX d) (by decide +kernel)
def Kc1780 : Con := ((198, [(2, 0, 0, [150]), (0, iLo, iHi, []), (0, iLo, iHi, [])], []), [(150, 0, 0), (150, 11, 11)], [(some (0, (-1), (-1), []), [], [(150, 11, (0, 1, 1, []))])])
set_option maxRecDepth 20000 in
theorem vc1780 {l : Launch} {X : Nat × (Nat → Int32)} {e : Int} (d : Nat) : Vc l X U0 Pt6 e (d + 2) Kc1780 :=
  ck (d := (d + 1)) (Ks := [Kc1778, Kc1049, Kc1779]) (cy := 152) (cd := cdX7_face) (nl := 3) (fuel := 1000) (Hs := []) (by decide) rfl (fun na b => by rw [← ceX7_face]; exact tkX7_face) (List.forall_mem_cons.mpr ⟨vc1778 (d + 1), List.forall_mem_cons.mpr ⟨vc1049 d, List.forall_mem_cons.mpr ⟨vc1779 (d + 1), fun _ h => absurd h List.not_mem_nil⟩⟩⟩) (cpyX (d + 1)) (by decide +kernel)
def Kc1781 : Con := ((199, [(2, 0, 0, [150]), (0, iLo, iHi, []), (0, iLo, iHi, [])], []), [(150, 0, 0), (150, 11, 11)], [(some (0, (-1), (-1), []), [], [(150, 11, (0, 1, 1, []))])])
set_option maxRecDepth 20000 in
theorem vc1781 {l : Launch} {X : Nat × (Nat → Int32)} {e : Int} (d : Nat) : Vc l X U0 Pt6 e (d + 2) Kc1781 :=
  ck (d := (d + 1)) (Ks := [Kc1778, Kc1052, Kc1779]) (cy := 152) (cd := cdX7_canon) (nl := 3) (fuel := 1000) (Hs := []) (by decide) rfl (fun na b => by rw [← ceX7_canon]; exact tkX7_canon) (List.forall_mem_cons.mpr ⟨vc1778 (d + 1), List.forall_mem_cons.mpr ⟨vc1052 d, List.forall_mem_cons.mpr ⟨vc1779 (d + 1), fun _ h => absurd h List.not_mem_nil⟩⟩⟩) (cpyX (d + 1)) (by decide +kernel)
def Kc1782 : Con := ((204, [(2, 0, 0, [150]), (0, iLo, iHi, []), (0, iLo, iHi, [])], []), [(150, 0, 0), (150, 11, 11), (150, 26, 26)], [(some (0, (-1), (-1), []), [], [(150, 11, (0, 1, 1, []))])])
set_option maxRecDepth 20000 in
theorem vc1782 {l : Launch} {X : Nat × (Nat → Int32)} {e : Int} (d : Nat) : Vc l X U0 Pt6 e (d + 2) Kc1782 :=
  ck (d := (d + 1)) (Ks := [Kc1778, Kc1054, Kc1779]) (cy := 152) (cd := cdX7_cell) (nl := 3) (fuel := 1000) (Hs := []) (by decide) rfl (fun na b => by rw [← ceX7_cell]; exact tkX7_cell) (List.forall_mem_cons.mpr ⟨vc1778 (d + 1), List.forall_mem_cons.mpr ⟨vc1054 d, List.forall_mem_cons.mpr ⟨vc1779 (d + 1), fun _ h => absurd h List.not_mem_nil⟩⟩⟩) (cpyX (d + 1)) (by decide +kernel)
def Kc1783 : Con := ((205, [(2, 0, 0, [150])], []), [(150, 0, 0), (150, 11, 11)], [(some (0, (-1), (-1), []), [], [(150, 11, (0, 1, 1, []))])])
set_option maxRecDepth 20000 in
theorem vc1783 {l : Launch} {X : Nat × (Nat → Int32)} {e : Int} (d : Nat) : Vc l X U0 Pt6 e (d + 1) Kc1783 :=
  ck (d := d) (Ks := [Kc1778, Kc1779]) (cy := 152) (cd := cdX7_burden) (nl := 3) (fuel := 1000) (Hs := []) (by decide) rfl (fun na b => by rw [← ceX7_burden]; exact tkX7_burden) (List.forall_mem_cons.mpr ⟨vc1778 d, List.forall_mem_cons.mpr ⟨vc1779 d, fun _ h => absurd h List.not_mem_nil⟩⟩) (cpyX d) (by decide +kernel)
def Kc1784 : Con := ((207, [(2, 0, 0, [150]), (0, iLo, iHi, []), (0, iLo, iHi, [])], []), [(150, 0, 0), (150, 11, 11)], [(some (0, (-1), (-1), []), [], [(150, 11, (0, 1, 1, []))])])
set_option maxRecDepth 20000 in
theorem vc1784 {l : Launch} {X : Nat × (Nat → Int32)} {e : Int} (d : Nat) : Vc l X U0 Pt6 e (d + 2) Kc1784 :=
  ck (d := (d + 1)) (Ks := [Kc1778, Kc1049, Kc1060, Kc1779]) (cy := 152) (cd := cdX7_bears) (nl := 4) (fuel := 1000) (Hs := []) (by decide) rfl (fun na b => by rw [← ceX7_bears]; exact tkX7_bears) (List.forall_mem_cons.mpr ⟨vc1778 (d + 1), List.forall_mem_cons.mpr ⟨vc1049 d, List.forall_mem_cons.mpr ⟨vc1060 d, List.forall_mem_cons.mpr ⟨vc1779 (d + 1), fun _ h => absurd h List.not_mem_nil⟩⟩⟩⟩) (cpyX (d + 1)) (by decide +kernel)
def Kc1785 : Con := ((208, [(2, 0, 0, [150]), (0, iLo, iHi, []), (0, iLo, iHi, [])], []), [(150, 0, 0), (150, 11, 11)], [(some (0, (-1), (-1), []), [], [(150, 11, (0, 1, 1, []))])])
set_option maxRecDepth 20000 in
theorem vc1785 {l : Launch} {X : Nat × (Nat → Int32)} {e : Int} (d : Nat) : Vc l X U0 Pt6 e (d + 2) Kc1785 :=
  ck (d := (d + 1)) (Ks := [Kc1778, Kc1049, Kc1060, Kc1779]) (cy := 152) (cd := cdX7_holds) (nl := 4) (fuel := 1000) (Hs := []) (by decide) rfl (fun na b => by rw [← ceX7_holds]; exact tkX7_holds) (List.forall_mem_cons.mpr ⟨vc1778 (d + 1), List.forall_mem_cons.mpr ⟨vc1049 d, List.forall_mem_cons.mpr ⟨vc1060 d, List.forall_mem_cons.mpr ⟨vc1779 (d + 1), fun _ h => absurd h List.not_mem_nil⟩⟩⟩⟩) (cpyX (d + 1)) (by decide +kernel)
def Kc1786 : Con := ((209, [(2, 0, 0, [150]), (0, iLo, iHi, []), (0, iLo, iHi, [])], []), [(150, 0, 0), (150, 11, 11)], [(some (0, (-1), (-1), []), [], [(150, 11, (0, 1, 1, []))])])
set_option maxRecDepth 20000 in
theorem vc1786 {l : Launch} {X : Nat × (Nat → Int32)} {e : Int} (d : Nat) : Vc l X U0 Pt6 e (d + 2) Kc1786 :=
  ck (d := (d + 1)) (Ks := [Kc1778, Kc1049, Kc1060, Kc1779]) (cy := 152) (cd := cdX7_drops) (nl := 4) (fuel := 1000) (Hs := []) (by decide) rfl (fun na b => by rw [← ceX7_drops]; exact tkX7_drops) (List.forall_mem_cons.mpr ⟨vc1778 (d + 1), List.forall_mem_cons.mpr ⟨vc1049 d, List.forall_mem_cons.mpr ⟨vc1060 d, List.forall_mem_cons.mpr ⟨vc1779 (d + 1), fun _ h => absurd h List.not_mem_nil⟩⟩⟩⟩) (cpyX (d + 1)) (by decide +kernel)
def Kc1787 : Con := ((210, [(2, 0, 0, [150]), (0, iLo, iHi, [])], []), [(150, 0, 0), (150, 11, 11)], [(some (0, (-1), (-1), []), [], [(150, 11, (0, 1, 1, []))])])
set_option maxRecDepth 20000 in
theorem vc1787 {l : Launch} {X : Nat × (Nat → Int32)} {e : Int} (d : Nat) : Vc l X U0 Pt6 e (d + 2) Kc1787 :=
  ck (d := (d + 1)) (Ks := [Kc1778, Kc1049, Kc1779]) (cy := 152) (cd := cdX7_dropsIn) (nl := 3) (fuel := 1000) (Hs := []) (by decide) rfl (fun na b => by rw [← ceX7_dropsIn]; exact tkX7_dropsIn) (List.forall_mem_cons.mpr ⟨vc1778 (d + 1), List.forall_mem_cons.mpr ⟨vc1049 d, List.forall_mem_cons.mpr ⟨vc1779 (d + 1), fun _ h => absurd h List.not_mem_nil⟩⟩⟩) (cpyX (d + 1)) (by decide +kernel)
def Kc1788 : Con := ((211, [(2, 0, 0, [150]), (0, iLo, iHi, [])], []), [(150, 0, 0), (150, 11, 11)], [(some (0, (-1), (-1), []), [], [(150, 11, (0, 1, 1, []))])])
set_option maxRecDepth 20000 in
theorem vc1788 {l : Launch} {X : Nat × (Nat → Int32)} {e : Int} (d : Nat) : Vc l X U0 Pt6 e (d + 2) Kc1788 :=
  ck (d := (d + 1)) (Ks := [Kc1778, Kc1049, Kc1779]) (cy := 152) (cd := cdX7_fallsIn) (nl := 3) (fuel := 1000) (Hs := []) (by decide) rfl (fun na b => by rw [← ceX7_fallsIn]; exact tkX7_fallsIn) (List.forall_mem_cons.mpr ⟨vc1778 (d + 1), List.forall_mem_cons.mpr ⟨vc1049 d, List.forall_mem_cons.mpr ⟨vc1779 (d + 1), fun _ h => absurd h List.not_mem_nil⟩⟩⟩) (cpyX (d + 1)) (by decide +kernel)
def Kc1789 : Con := ((212, [(2, 0, 0, [150]), (0, iLo, iHi, [])], []), [(150, 0, 0), (150, 11, 11)], [(some (0, (-1), (-1), []), [], [(150, 11, (0, 1, 1, []))])])
set_option maxRecDepth 20000 in
theorem vc1789 {l : Launch} {X : Nat × (Nat → Int32)} {e : Int} (d : Nat) : Vc l X U0 Pt6 e (d + 2) Kc1789 :=
  ck (d := (d + 1)) (Ks := [Kc1778, Kc1067, Kc1779]) (cy := 152) (cd := cdX7_wet) (nl := 3) (fuel := 1000) (Hs := []) (by decide) rfl (fun na b => by rw [← ceX7_wet]; exact tkX7_wet) (List.forall_mem_cons.mpr ⟨vc1778 (d + 1), List.forall_mem_cons.mpr ⟨vc1067 d, List.forall_mem_cons.mpr ⟨vc1779 (d + 1), fun _ h => absurd h List.not_mem_nil⟩⟩⟩) (cpyX (d + 1)) (by decide +kernel)
def Kc1790 : Con := ((214, [(2, 0, 0, [150]), (0, iLo, iHi, []), (0, iLo, iHi, [])], []), [(150, 0, 0), (150, 11, 11)], [(some (0, (-1), (-1), []), [], [(150, 11, (0, 1, 1, []))])])
set_option maxRecDepth 20000 in
theorem vc1790 {l : Launch} {X : Nat × (Nat → Int32)} {e : Int} (d : Nat) : Vc l X U0 Pt6 e (d + 2) Kc1790 :=
  ck (d := (d + 1)) (Ks := [Kc1778, Kc1054, Kc1060, Kc1779]) (cy := 152) (cd := cdX7_wetDays) (nl := 4) (fuel := 1000) (Hs := []) (by decide) rfl (fun na b => by rw [← ceX7_wetDays]; exact tkX7_wetDays) (List.forall_mem_cons.mpr ⟨vc1778 (d + 1), List.forall_mem_cons.mpr ⟨vc1054 d, List.forall_mem_cons.mpr ⟨vc1060 d, List.forall_mem_cons.mpr ⟨vc1779 (d + 1), fun _ h => absurd h List.not_mem_nil⟩⟩⟩⟩) (cpyX (d + 1)) (by decide +kernel)
def Kc1791 : Con := ((215, [(2, 0, 0, [150])], []), [(150, 0, 0), (150, 11, 11)], [(some (0, (-1), (-1), []), [], [(150, 11, (0, 1, 1, []))])])
set_option maxRecDepth 20000 in
theorem vc1791 {l : Launch} {X : Nat × (Nat → Int32)} {e : Int} (d : Nat) : Vc l X U0 Pt6 e (d + 1) Kc1791 :=
  ck (d := d) (Ks := [Kc1778, Kc1779]) (cy := 152) (cd := cdX7_wettest) (nl := 5) (fuel := 1000) (Hs := []) (by decide) rfl (fun na b => by rw [← ceX7_wettest]; exact tkX7_wettest) (List.forall_mem_cons.mpr ⟨vc1778 d, List.forall_mem_cons.mpr ⟨vc1779 d, fun _ h => absurd h List.not_mem_nil⟩⟩) (cpyX d) (by decide +kernel)
def Kc1792 : Con := ((216, [(2, 0, 0, [150])], []), [(150, 0, 0), (150, 11, 11)], [(some (0, (-1), (-1), []), [], [(150, 11, (0, 1, 1, []))])])
set_option maxRecDepth 20000 in
theorem vc1792 {l : Launch} {X : Nat × (Nat → Int32)} {e : Int} (d : Nat) : Vc l X U0 Pt6 e (d + 1) Kc1792 :=
  ck (d := d) (Ks := [Kc1778, Kc1779]) (cy := 152) (cd := cdX7_sunny) (nl := 2) (fuel := 1000) (Hs := []) (by decide) rfl (fun na b => by rw [← ceX7_sunny]; exact tkX7_sunny) (List.forall_mem_cons.mpr ⟨vc1778 d, List.forall_mem_cons.mpr ⟨vc1779 d, fun _ h => absurd h List.not_mem_nil⟩⟩) (cpyX d) (by decide +kernel)
def Kc1793 : Con := ((217, [(2, 0, 0, [150])], []), [(150, 0, 0), (150, 11, 11)], [(some (0, (-1), (-1), []), [], [(150, 11, (0, 1, 1, []))])])
set_option maxRecDepth 20000 in
theorem vc1793 {l : Launch} {X : Nat × (Nat → Int32)} {e : Int} (d : Nat) : Vc l X U0 Pt6 e (d + 1) Kc1793 :=
  ck (d := d) (Ks := [Kc1778, Kc1779]) (cy := 152) (cd := cdX7_heaviest) (nl := 4) (fuel := 1000) (Hs := []) (by decide) rfl (fun na b => by rw [← ceX7_heaviest]; exact tkX7_heaviest) (List.forall_mem_cons.mpr ⟨vc1778 d, List.forall_mem_cons.mpr ⟨vc1779 d, fun _ h => absurd h List.not_mem_nil⟩⟩) (cpyX d) (by decide +kernel)
def Kc1794 : Con := ((218, [(2, 0, 0, [150]), (0, iLo, iHi, [])], []), [(150, 0, 0), (150, 11, 11)], [(some (0, (-1), (-1), []), [], [(150, 11, (0, 1, 1, []))])])
set_option maxRecDepth 20000 in
theorem vc1794 {l : Launch} {X : Nat × (Nat → Int32)} {e : Int} (d : Nat) : Vc l X U0 Pt6 e (d + 2) Kc1794 :=
  ck (d := (d + 1)) (Ks := [Kc1778, Kc1060, Kc1779]) (cy := 152) (cd := cdX7_fallen) (nl := 3) (fuel := 1000) (Hs := []) (by decide) rfl (fun na b => by rw [← ceX7_fallen]; exact tkX7_fallen) (List.forall_mem_cons.mpr ⟨vc1778 (d + 1), List.forall_mem_cons.mpr ⟨vc1060 d, List.forall_mem_cons.mpr ⟨vc1779 (d + 1), fun _ h => absurd h List.not_mem_nil⟩⟩⟩) (cpyX (d + 1)) (by decide +kernel)
def Kc1795 : Con := ((223, [(2, 0, 0, [150]), (0, iLo, iHi, []), (0, iLo, iHi, []), (0, iLo, iHi, [])], []), [(150, 0, 0), (150, 11, 11)], [(some (0, (-1), (-1), []), [], [(150, 11, (0, 1, 1, []))])])
set_option maxRecDepth 20000 in
theorem vc1795 {l : Launch} {X : Nat × (Nat → Int32)} {e : Int} (d : Nat) : Vc l X U0 Pt6 e (d + 2) Kc1795 :=
  ck (d := (d + 1)) (Ks := [Kc1778, Kc1052, Kc1075, Kc1779]) (cy := 152) (cd := cdX7_dropsIf) (nl := 5) (fuel := 1000) (Hs := []) (by decide) rfl (fun na b => by rw [← ceX7_dropsIf]; exact tkX7_dropsIf) (List.forall_mem_cons.mpr ⟨vc1778 (d + 1), List.forall_mem_cons.mpr ⟨vc1052 d, List.forall_mem_cons.mpr ⟨vc1075 d, List.forall_mem_cons.mpr ⟨vc1779 (d + 1), fun _ h => absurd h List.not_mem_nil⟩⟩⟩⟩) (cpyX (d + 1)) (by decide +kernel)
def Kc1796 : Con := ((225, [(2, 0, 0, [150]), (0, iLo, iHi, []), (0, iLo, iHi, [])], []), [(150, 0, 0), (150, 11, 11)], [(some (0, (-1), (-1), []), [], [(150, 11, (0, 1, 1, []))])])
set_option maxRecDepth 20000 in
theorem vc1796 {l : Launch} {X : Nat × (Nat → Int32)} {e : Int} (d : Nat) : Vc l X U0 Pt6 e (d + 2) Kc1796 :=
  ck (d := (d + 1)) (Ks := [Kc1778, Kc1052, Kc1075, Kc1779]) (cy := 152) (cd := cdX7_faceFor) (nl := 6) (fuel := 1000) (Hs := []) (by decide) rfl (fun na b => by rw [← ceX7_faceFor]; exact tkX7_faceFor) (List.forall_mem_cons.mpr ⟨vc1778 (d + 1), List.forall_mem_cons.mpr ⟨vc1052 d, List.forall_mem_cons.mpr ⟨vc1075 d, List.forall_mem_cons.mpr ⟨vc1779 (d + 1), fun _ h => absurd h List.not_mem_nil⟩⟩⟩⟩) (cpyX (d + 1)) (by decide +kernel)
def Kc1797 : Con := ((228, [(2, 0, 0, [150]), (0, iLo, iHi, [])], []), [(150, 0, 0), (150, 11, 11)], [(some (0, (-1), (-1), []), [], [(150, 11, (0, 1, 1, []))])])
set_option maxRecDepth 20000 in
theorem vc1797 {l : Launch} {X : Nat × (Nat → Int32)} {e : Int} (d : Nat) : Vc l X U0 Pt6 e (d + 2) Kc1797 :=
  ck (d := (d + 1)) (Ks := [Kc1778, Kc1075, Kc1779]) (cy := 152) (cd := cdX7_match) (nl := 3) (fuel := 1000) (Hs := []) (by decide) rfl (fun na b => by rw [← ceX7_match]; exact tkX7_match) (List.forall_mem_cons.mpr ⟨vc1778 (d + 1), List.forall_mem_cons.mpr ⟨vc1075 d, List.forall_mem_cons.mpr ⟨vc1779 (d + 1), fun _ h => absurd h List.not_mem_nil⟩⟩⟩) (cpyX (d + 1)) (by decide +kernel)
def Kc1798 : Con := ((229, [(2, 0, 0, [150]), (0, iLo, iHi, [])], []), [(150, 0, 0), (150, 11, 11)], [(some (0, (-1), (-1), []), [], [(150, 11, (0, 1, 1, []))])])
set_option maxRecDepth 20000 in
theorem vc1798 {l : Launch} {X : Nat × (Nat → Int32)} {e : Int} (d : Nat) : Vc l X U0 Pt6 e (d + 2) Kc1798 :=
  ck (d := (d + 1)) (Ks := [Kc1778, Kc1075, Kc1779]) (cy := 152) (cd := cdX7_matchDrops) (nl := 3) (fuel := 1000) (Hs := []) (by decide) rfl (fun na b => by rw [← ceX7_matchDrops]; exact tkX7_matchDrops) (List.forall_mem_cons.mpr ⟨vc1778 (d + 1), List.forall_mem_cons.mpr ⟨vc1075 d, List.forall_mem_cons.mpr ⟨vc1779 (d + 1), fun _ h => absurd h List.not_mem_nil⟩⟩⟩) (cpyX (d + 1)) (by decide +kernel)
def Kc1799 : Con := ((230, [(2, 0, 0, [150]), (0, iLo, iHi, []), (0, iLo, iHi, [])], []), [(150, 0, 0), (150, 11, 11)], [(some (0, (-1), (-1), []), [], [(150, 11, (0, 1, 1, []))])])
set_option maxRecDepth 20000 in
theorem vc1799 {l : Launch} {X : Nat × (Nat → Int32)} {e : Int} (d : Nat) : Vc l X U0 Pt6 e (d + 2) Kc1799 :=
  ck (d := (d + 1)) (Ks := [Kc1778, Kc1052, Kc1075, Kc1779]) (cy := 152) (cd := cdX7_matchAt) (nl := 4) (fuel := 1000) (Hs := []) (by decide) rfl (fun na b => by rw [← ceX7_matchAt]; exact tkX7_matchAt) (List.forall_mem_cons.mpr ⟨vc1778 (d + 1), List.forall_mem_cons.mpr ⟨vc1052 d, List.forall_mem_cons.mpr ⟨vc1075 d, List.forall_mem_cons.mpr ⟨vc1779 (d + 1), fun _ h => absurd h List.not_mem_nil⟩⟩⟩⟩) (cpyX (d + 1)) (by decide +kernel)
def Kc1800 : Con := ((234, [(2, 0, 0, [150]), (0, iLo, iHi, []), (0, iLo, iHi, [])], []), [(150, 0, 0), (150, 11, 11), (150, 26, 26)], [(some (0, (-1), (-1), []), [], [(150, 11, (0, 1, 1, []))])])
set_option maxRecDepth 20000 in
theorem vc1800 {l : Launch} {X : Nat × (Nat → Int32)} {e : Int} (d : Nat) : Vc l X U0 Pt6 e (d + 2) Kc1800 :=
  ck (d := (d + 1)) (Ks := [Kc1778, Kc1054, Kc1779]) (cy := 152) (cd := cdX7_steps) (nl := 3) (fuel := 1000) (Hs := []) (by decide) rfl (fun na b => by rw [← ceX7_steps]; exact tkX7_steps) (List.forall_mem_cons.mpr ⟨vc1778 (d + 1), List.forall_mem_cons.mpr ⟨vc1054 d, List.forall_mem_cons.mpr ⟨vc1779 (d + 1), fun _ h => absurd h List.not_mem_nil⟩⟩⟩) (cpyX (d + 1)) (by decide +kernel)
def Kc1801 : Con := ((236, [(2, 0, 0, [150]), (0, iLo, iHi, []), (0, iLo, iHi, [])], []), [(150, 0, 0), (150, 11, 11)], [(some (0, (-1), (-1), []), [], [(150, 11, (0, 1, 1, []))])])
set_option maxRecDepth 20000 in
theorem vc1801 {l : Launch} {X : Nat × (Nat → Int32)} {e : Int} (d : Nat) : Vc l X U0 Pt6 e (d + 2) Kc1801 :=
  ck (d := (d + 1)) (Ks := [Kc1778, Kc1082, Kc1067, Kc1779]) (cy := 152) (cd := cdX7_wets) (nl := 5) (fuel := 1000) (Hs := []) (by decide) rfl (fun na b => by rw [← ceX7_wets]; exact tkX7_wets) (List.forall_mem_cons.mpr ⟨vc1778 (d + 1), List.forall_mem_cons.mpr ⟨vc1082 d, List.forall_mem_cons.mpr ⟨vc1067 d, List.forall_mem_cons.mpr ⟨vc1779 (d + 1), fun _ h => absurd h List.not_mem_nil⟩⟩⟩⟩) (cpyX (d + 1)) (by decide +kernel)
def Kc1802 : Con := ((237, [(2, 0, 0, [150]), (0, iLo, iHi, []), (0, iLo, iHi, [])], []), [(150, 0, 0), (150, 11, 11)], [(some (0, (-1), (-1), []), [], [(150, 11, (0, 1, 1, []))])])
set_option maxRecDepth 20000 in
theorem vc1802 {l : Launch} {X : Nat × (Nat → Int32)} {e : Int} (d : Nat) : Vc l X U0 Pt6 e (d + 2) Kc1802 :=
  ck (d := (d + 1)) (Ks := [Kc1778, Kc1082, Kc1067, Kc1779]) (cy := 152) (cd := cdX7_way) (nl := 5) (fuel := 1000) (Hs := []) (by decide) rfl (fun na b => by rw [← ceX7_way]; exact tkX7_way) (List.forall_mem_cons.mpr ⟨vc1778 (d + 1), List.forall_mem_cons.mpr ⟨vc1082 d, List.forall_mem_cons.mpr ⟨vc1067 d, List.forall_mem_cons.mpr ⟨vc1779 (d + 1), fun _ h => absurd h List.not_mem_nil⟩⟩⟩⟩) (cpyX (d + 1)) (by decide +kernel)
def Kc1803 : Con := ((238, [(2, 0, 0, [150]), (0, iLo, iHi, []), (0, iLo, iHi, []), (0, iLo, iHi, [])], []), [(150, 0, 0), (150, 11, 11)], [(some (0, (-1), (-1), []), [], [(150, 11, (0, 1, 1, []))])])
set_option maxRecDepth 20000 in
theorem vc1803 {l : Launch} {X : Nat × (Nat → Int32)} {e : Int} (d : Nat) : Vc l X U0 Pt6 e (d + 2) Kc1803 :=
  ck (d := (d + 1)) (Ks := [Kc1778, Kc1082, Kc1779]) (cy := 152) (cd := cdX7_wayAt) (nl := 8) (fuel := 1000) (Hs := []) (by decide) rfl (fun na b => by rw [← ceX7_wayAt]; exact tkX7_wayAt) (List.forall_mem_cons.mpr ⟨vc1778 (d + 1), List.forall_mem_cons.mpr ⟨vc1082 d, List.forall_mem_cons.mpr ⟨vc1779 (d + 1), fun _ h => absurd h List.not_mem_nil⟩⟩⟩) (cpyX (d + 1)) (by decide +kernel)
def Kc1804 : Con := ((239, [(2, 0, 0, [150]), (0, iLo, iHi, [])], []), [(150, 0, 0), (150, 11, 11)], [(some (0, (-1), (-1), []), [], [(150, 11, (0, 1, 1, []))])])
set_option maxRecDepth 20000 in
theorem vc1804 {l : Launch} {X : Nat × (Nat → Int32)} {e : Int} (d : Nat) : Vc l X U0 Pt6 e (d + 2) Kc1804 :=
  ck (d := (d + 1)) (Ks := [Kc1778, Kc1082, Kc1779]) (cy := 152) (cd := cdX7_dryDay) (nl := 4) (fuel := 1000) (Hs := []) (by decide) rfl (fun na b => by rw [← ceX7_dryDay]; exact tkX7_dryDay) (List.forall_mem_cons.mpr ⟨vc1778 (d + 1), List.forall_mem_cons.mpr ⟨vc1082 d, List.forall_mem_cons.mpr ⟨vc1779 (d + 1), fun _ h => absurd h List.not_mem_nil⟩⟩⟩) (cpyX (d + 1)) (by decide +kernel)
def Kc1805 : Con := ((241, [(2, 0, 0, [150])], []), [(150, 0, 0), (150, 11, 11)], [(some (0, (-1), (-1), []), [], [(150, 11, (0, 1, 1, []))])])
set_option maxRecDepth 20000 in
theorem vc1805 {l : Launch} {X : Nat × (Nat → Int32)} {e : Int} (d : Nat) : Vc l X U0 Pt6 e (d + 1) Kc1805 :=
  ck (d := d) (Ks := [Kc1778, Kc1779]) (cy := 152) (cd := cdX7_gate) (nl := 5) (fuel := 1000) (Hs := []) (by decide) rfl (fun na b => by rw [← ceX7_gate]; exact tkX7_gate) (List.forall_mem_cons.mpr ⟨vc1778 d, List.forall_mem_cons.mpr ⟨vc1779 d, fun _ h => absurd h List.not_mem_nil⟩⟩) (cpyX d) (by decide +kernel)
def Kc1806 : Con := ((244, [(2, 0, 0, [150])], []), [(150, 0, 0), (150, 11, 11)], [(some (0, (-1), (-1), []), [], [(150, 11, (0, 1, 1, []))])])
set_option maxRecDepth 20000 in
theorem vc1806 {l : Launch} {X : Nat × (Nat → Int32)} {e : Int} (d : Nat) : Vc l X U0 Pt6 e (d + 1) Kc1806 :=
  ck (d := d) (Ks := [Kc1778, Kc1779]) (cy := 152) (cd := cdX7_fits) (nl := 1) (fuel := 1000) (Hs := []) (by decide) rfl (fun na b => by rw [← ceX7_fits]; exact tkX7_fits) (List.forall_mem_cons.mpr ⟨vc1778 d, List.forall_mem_cons.mpr ⟨vc1779 d, fun _ h => absurd h List.not_mem_nil⟩⟩) (cpyX d) (by decide +kernel)
def Kc1807 : Con := ((245, [(2, 0, 0, [150]), (0, iLo, iHi, [])], []), [(150, 0, 0), (150, 11, 11)], [(some (0, (-1), (-1), []), [], [(150, 11, (0, 1, 1, []))])])
set_option maxRecDepth 20000 in
theorem vc1807 {l : Launch} {X : Nat × (Nat → Int32)} {e : Int} (d : Nat) : Vc l X U0 Pt6 e (d + 1) Kc1807 :=
  ck (d := d) (Ks := [Kc1778, Kc1779]) (cy := 152) (cd := cdX7_fitAt) (nl := 3) (fuel := 1000) (Hs := []) (by decide) rfl (fun na b => by rw [← ceX7_fitAt]; exact tkX7_fitAt) (List.forall_mem_cons.mpr ⟨vc1778 d, List.forall_mem_cons.mpr ⟨vc1779 d, fun _ h => absurd h List.not_mem_nil⟩⟩) (cpyX d) (by decide +kernel)
def Kc1808 : Con := ((246, [(2, 0, 0, [150])], []), [(150, 0, 0), (150, 11, 11)], [(some (0, (-1), (-1), []), [], [(150, 11, (0, 1, 1, []))])])
set_option maxRecDepth 20000 in
theorem vc1808 {l : Launch} {X : Nat × (Nat → Int32)} {e : Int} (d : Nat) : Vc l X U0 Pt6 e (d + 1) Kc1808 :=
  ck (d := d) (Ks := [Kc1778, Kc1779]) (cy := 152) (cd := cdX7_could) (nl := 1) (fuel := 1000) (Hs := []) (by decide) rfl (fun na b => by rw [← ceX7_could]; exact tkX7_could) (List.forall_mem_cons.mpr ⟨vc1778 d, List.forall_mem_cons.mpr ⟨vc1779 d, fun _ h => absurd h List.not_mem_nil⟩⟩) (cpyX d) (by decide +kernel)
def Kc1809 : Con := ((247, [(2, 0, 0, [150])], []), [(150, 0, 0), (150, 11, 11)], [(some (0, (-1), (-1), []), [], [(150, 11, (0, 1, 1, []))])])
set_option maxRecDepth 20000 in
theorem vc1809 {l : Launch} {X : Nat × (Nat → Int32)} {e : Int} (d : Nat) : Vc l X U0 Pt6 e (d + 1) Kc1809 :=
  ck (d := d) (Ks := [Kc1778, Kc1779]) (cy := 152) (cd := cdX7_surely) (nl := 1) (fuel := 1000) (Hs := []) (by decide) rfl (fun na b => by rw [← ceX7_surely]; exact tkX7_surely) (List.forall_mem_cons.mpr ⟨vc1778 d, List.forall_mem_cons.mpr ⟨vc1779 d, fun _ h => absurd h List.not_mem_nil⟩⟩) (cpyX d) (by decide +kernel)
def Kc1810 : Con := ((250, [(2, 0, 0, [150])], []), [(150, 0, 0), (150, 11, 11)], [(some (0, (-1), (-1), []), [], [(150, 11, (0, 1, 1, []))])])
set_option maxRecDepth 20000 in
theorem vc1810 {l : Launch} {X : Nat × (Nat → Int32)} {e : Int} (d : Nat) : Vc l X U0 Pt6 e (d + 1) Kc1810 :=
  ck (d := d) (Ks := [Kc1778, Kc1779]) (cy := 152) (cd := cdX7_ask) (nl := 1) (fuel := 1000) (Hs := []) (by decide) rfl (fun na b => by rw [← ceX7_ask]; exact tkX7_ask) (List.forall_mem_cons.mpr ⟨vc1778 d, List.forall_mem_cons.mpr ⟨vc1779 d, fun _ h => absurd h List.not_mem_nil⟩⟩) (cpyX d) (by decide +kernel)
def Kc1811 : Con := ((251, [(2, 0, 0, [150])], []), [(150, 0, 0), (150, 11, 11)], [(some (0, (-1), (-1), []), [], [(150, 11, (0, 1, 1, []))])])
set_option maxRecDepth 20000 in
theorem vc1811 {l : Launch} {X : Nat × (Nat → Int32)} {e : Int} (d : Nat) : Vc l X U0 Pt6 e (d + 1) Kc1811 :=
  ck (d := d) (Ks := [Kc1778, Kc1779]) (cy := 152) (cd := cdX7_askLeaves) (nl := 2) (fuel := 1000) (Hs := []) (by decide) rfl (fun na b => by rw [← ceX7_askLeaves]; exact tkX7_askLeaves) (List.forall_mem_cons.mpr ⟨vc1778 d, List.forall_mem_cons.mpr ⟨vc1779 d, fun _ h => absurd h List.not_mem_nil⟩⟩) (cpyX d) (by decide +kernel)
def Kc1812 : Con := ((252, [(2, 0, 0, [150])], []), [(150, 0, 0), (150, 11, 11)], [(some (0, (-1), (-1), []), [], [(150, 11, (0, 1, 1, []))])])
set_option maxRecDepth 20000 in
theorem vc1812 {l : Launch} {X : Nat × (Nat → Int32)} {e : Int} (d : Nat) : Vc l X U0 Pt6 e (d + 1) Kc1812 :=
  ck (d := d) (Ks := [Kc1778, Kc1779]) (cy := 152) (cd := cdX7_judge) (nl := 1) (fuel := 1000) (Hs := []) (by decide) rfl (fun na b => by rw [← ceX7_judge]; exact tkX7_judge) (List.forall_mem_cons.mpr ⟨vc1778 d, List.forall_mem_cons.mpr ⟨vc1779 d, fun _ h => absurd h List.not_mem_nil⟩⟩) (cpyX d) (by decide +kernel)
def Kc1813 : Con := ((255, [(2, 0, 0, [150]), (0, iLo, iHi, []), (0, iLo, iHi, []), (0, iLo, iHi, []), (0, iLo, iHi, [])], []), [(150, 0, 0), (150, 11, 11)], [(some (0, (-100), (-100), []), [], [(150, 11, (0, 1, 1, []))])])
set_option maxRecDepth 20000 in
theorem vc1813 {l : Launch} {X : Nat × (Nat → Int32)} {e : Int} (d : Nat) : Vc l X U0 Pt6 e (d + 1) Kc1813 :=
  ck (d := d) (Ks := [Kc1778, Kc1094, Kc1058, Kc1059]) (cy := 152) (cd := cdX7_sulks) (nl := 6) (fuel := 1000) (Hs := []) (by decide) rfl (fun na b => by rw [← ceX7_sulks]; exact tkX7_sulks) (List.forall_mem_cons.mpr ⟨vc1778 d, List.forall_mem_cons.mpr ⟨vc1094 d, List.forall_mem_cons.mpr ⟨vc1058 d, List.forall_mem_cons.mpr ⟨vc1059 d, fun _ h => absurd h List.not_mem_nil⟩⟩⟩⟩) (cpyX d) (by decide +kernel)
def Kc1814 : Con := ((257, [(2, 0, 0, [150]), (0, iLo, iHi, [])], []), [(150, 0, 0), (150, 11, 11)], [(some (0, (-1), (-1), []), [], [(150, 11, (0, 1, 1, []))])])
set_option maxRecDepth 20000 in
theorem vc1814 {l : Launch} {X : Nat × (Nat → Int32)} {e : Int} (d : Nat) : Vc l X U0 Pt6 e (d + 1) Kc1814 :=
  ck (d := d) (Ks := [Kc1778, Kc1094, Kc1058, Kc1779, Kc1059]) (cy := 152) (cd := cdX7_rests) (nl := 3) (fuel := 1000) (Hs := []) (by decide) rfl (fun na b => by rw [← ceX7_rests]; exact tkX7_rests) (List.forall_mem_cons.mpr ⟨vc1778 d, List.forall_mem_cons.mpr ⟨vc1094 d, List.forall_mem_cons.mpr ⟨vc1058 d, List.forall_mem_cons.mpr ⟨vc1779 d, List.forall_mem_cons.mpr ⟨vc1059 d, fun _ h => absurd h List.not_mem_nil⟩⟩⟩⟩⟩) (cpyX d) (by decide +kernel)
def Kc1815 : Con := ((258, [(2, 0, 0, [150]), (0, iLo, iHi, [])], []), [(150, 0, 0), (150, 11, 11)], [(some (0, (-1), (-1), []), [], [(150, 11, (0, 1, 1, []))])])
set_option maxRecDepth 20000 in
theorem vc1815 {l : Launch} {X : Nat × (Nat → Int32)} {e : Int} (d : Nat) : Vc l X U0 Pt6 e (d + 1) Kc1815 :=
  ck (d := d) (Ks := [Kc1778, Kc1094, Kc1058, Kc1779, Kc1059]) (cy := 152) (cd := cdX7_rest) (nl := 3) (fuel := 1000) (Hs := []) (by decide) rfl (fun na b => by rw [← ceX7_rest]; exact tkX7_rest) (List.forall_mem_cons.mpr ⟨vc1778 d, List.forall_mem_cons.mpr ⟨vc1094 d, List.forall_mem_cons.mpr ⟨vc1058 d, List.forall_mem_cons.mpr ⟨vc1779 d, List.forall_mem_cons.mpr ⟨vc1059 d, fun _ h => absurd h List.not_mem_nil⟩⟩⟩⟩⟩) (cpyX d) (by decide +kernel)
def Kc1816 : Con := ((260, [(2, 0, 0, [150]), (0, iLo, iHi, []), (0, iLo, iHi, []), (0, iLo, iHi, [])], []), [(150, 0, 0), (150, 11, 11)], [(some (1, (-1), (-1), []), [], [(150, 11, (0, 1, 1, []))])])
set_option maxRecDepth 20000 in
theorem vc1816 {l : Launch} {X : Nat × (Nat → Int32)} {e : Int} (d : Nat) : Vc l X U0 Pt6 e (d + 2) Kc1816 :=
  ck (d := (d + 1)) (Ks := [Kc1778, Kc1049, Kc1098, Kc1058, Kc1779, Kc1059]) (cy := 152) (cd := cdX7_odds) (nl := 5) (fuel := 1000) (Hs := []) (by decide) rfl (fun na b => by rw [← ceX7_odds]; exact tkX7_odds) (List.forall_mem_cons.mpr ⟨vc1778 (d + 1), List.forall_mem_cons.mpr ⟨vc1049 d, List.forall_mem_cons.mpr ⟨vc1098 (d + 1), List.forall_mem_cons.mpr ⟨vc1058 (d + 1), List.forall_mem_cons.mpr ⟨vc1779 (d + 1), List.forall_mem_cons.mpr ⟨vc1059 (d + 1), fun _ h => absurd h List.not_mem_nil⟩⟩⟩⟩⟩⟩) (cpyX (d + 1)) (by decide +kernel)
def Kc1817 : Con := ((261, [(2, 0, 0, [150]), (0, iLo, iHi, []), (0, iLo, iHi, []), (0, iLo, iHi, [])], []), [(150, 0, 0), (150, 11, 11)], [(some (1, (-1), (-1), []), [], [(150, 11, (0, 1, 1, []))])])
set_option maxRecDepth 20000 in
theorem vc1817 {l : Launch} {X : Nat × (Nat → Int32)} {e : Int} (d : Nat) : Vc l X U0 Pt6 e (d + 2) Kc1817 :=
  ck (d := (d + 1)) (Ks := [Kc1778, Kc1049, Kc1098, Kc1058, Kc1779, Kc1059]) (cy := 152) (cd := cdX7_mean) (nl := 5) (fuel := 1000) (Hs := []) (by decide) rfl (fun na b => by rw [← ceX7_mean]; exact tkX7_mean) (List.forall_mem_cons.mpr ⟨vc1778 (d + 1), List.forall_mem_cons.mpr ⟨vc1049 d, List.forall_mem_cons.mpr ⟨vc1098 (d + 1), List.forall_mem_cons.mpr ⟨vc1058 (d + 1), List.forall_mem_cons.mpr ⟨vc1779 (d + 1), List.forall_mem_cons.mpr ⟨vc1059 (d + 1), fun _ h => absurd h List.not_mem_nil⟩⟩⟩⟩⟩⟩) (cpyX (d + 1)) (by decide +kernel)
def Kc1818 : Con := ((263, [(2, 0, 0, [150]), (0, iLo, iHi, []), (0, iLo, iHi, []), (0, iLo, iHi, [])], []), [(150, 0, 0), (150, 11, 11)], [(some (0, (-1), (-1), []), [], [(150, 11, (0, 1, 1, []))])])
set_option maxRecDepth 20000 in
theorem vc1818 {l : Launch} {X : Nat × (Nat → Int32)} {e : Int} (d : Nat) : Vc l X U0 Pt6 e (d + 2) Kc1818 :=
  ck (d := (d + 1)) (Ks := [Kc1778, Kc1049, Kc1102, Kc1779]) (cy := 152) (cd := cdX7_borne) (nl := 5) (fuel := 1000) (Hs := []) (by decide) rfl (fun na b => by rw [← ceX7_borne]; exact tkX7_borne) (List.forall_mem_cons.mpr ⟨vc1778 (d + 1), List.forall_mem_cons.mpr ⟨vc1049 d, List.forall_mem_cons.mpr ⟨vc1102 d, List.forall_mem_cons.mpr ⟨vc1779 (d + 1), fun _ h => absurd h List.not_mem_nil⟩⟩⟩⟩) (cpyX (d + 1)) (by decide +kernel)
def Kc1819 : Con := ((264, [(2, 0, 0, [150]), (0, iLo, iHi, []), (0, iLo, iHi, [])], []), [(150, 0, 0), (150, 11, 11)], [(some (0, (-1), (-1), []), [], [(150, 11, (0, 1, 1, []))])])
set_option maxRecDepth 20000 in
theorem vc1819 {l : Launch} {X : Nat × (Nat → Int32)} {e : Int} (d : Nat) : Vc l X U0 Pt6 e (d + 2) Kc1819 :=
  ck (d := (d + 1)) (Ks := [Kc1778, Kc1102, Kc1779]) (cy := 152) (cd := cdX7_firstWet) (nl := 4) (fuel := 1000) (Hs := []) (by decide) rfl (fun na b => by rw [← ceX7_firstWet]; exact tkX7_firstWet) (List.forall_mem_cons.mpr ⟨vc1778 (d + 1), List.forall_mem_cons.mpr ⟨vc1102 d, List.forall_mem_cons.mpr ⟨vc1779 (d + 1), fun _ h => absurd h List.not_mem_nil⟩⟩⟩) (cpyX (d + 1)) (by decide +kernel)
def Kc1820 : Con := ((266, [(2, 0, 0, [150])], []), [(150, 0, 0), (150, 11, 11)], [(some (0, (-1), (-1), []), [], [(150, 11, (0, 1, 1, []))])])
set_option maxRecDepth 20000 in
theorem vc1820 {l : Launch} {X : Nat × (Nat → Int32)} {e : Int} (d : Nat) : Vc l X U0 Pt6 e (d + 1) Kc1820 :=
  ck (d := d) (Ks := [Kc1778, Kc1779]) (cy := 152) (cd := cdX7_day) (nl := 1) (fuel := 1000) (Hs := []) (by decide) rfl (fun na b => by rw [← ceX7_day]; exact tkX7_day) (List.forall_mem_cons.mpr ⟨vc1778 d, List.forall_mem_cons.mpr ⟨vc1779 d, fun _ h => absurd h List.not_mem_nil⟩⟩) (cpyX d) (by decide +kernel)
def Kc1821 : Con := ((267, [(2, 0, 0, [150]), (0, iLo, iHi, []), (0, iLo, iHi, [])], []), [(150, 0, 0), (150, 11, 11)], [(some (0, (-1), (-1), []), [], [(150, 11, (0, 1, 1, []))])])
set_option maxRecDepth 20000 in
theorem vc1821 {l : Launch} {X : Nat × (Nat → Int32)} {e : Int} (d : Nat) : Vc l X U0 Pt6 e (d + 2) Kc1821 :=
  ck (d := (d + 1)) (Ks := [Kc1778, Kc1052, Kc1779]) (cy := 152) (cd := cdX7_give) (nl := 4) (fuel := 1000) (Hs := []) (by decide) rfl (fun na b => by rw [← ceX7_give]; exact tkX7_give) (List.forall_mem_cons.mpr ⟨vc1778 (d + 1), List.forall_mem_cons.mpr ⟨vc1052 d, List.forall_mem_cons.mpr ⟨vc1779 (d + 1), fun _ h => absurd h List.not_mem_nil⟩⟩⟩) (cpyX (d + 1)) (by decide +kernel)
def Kc1822 : Con := ((148, [(2, 0, 0, [150]), (0, 1, 1, [])], []), [(150, 11, 11)], [(some (0, 0, 0, []), [], [(150, 11, (0, 1, 1, []))])])
set_option maxRecDepth 20000 in
theorem vc1822 {l : Launch} {X : Nat × (Nat → Int32)} {e : Int} (d : Nat) : Vc l X U0 Pt6 e d Kc1822 :=
  ck (d := d) (Ks := []) (cy := 152) (cd := cdX7_isNot) (nl := 2) (fuel := 1000) (Hs := []) (by decide) rfl (fun na b => by rw [← ceX7_isNot]; exact tkX7_isNot) (fun _ h => absurd h List.not_mem_nil) (cpyX d) (by decide +kernel)
def Kc1823 : Con := ((268, [(2, 0, 0, [150]), (0, iLo, iHi, [])], []), [(150, 0, 0), (150, 11, 11)], [(some (0, 0, 0, []), [], [(150, 11, (0, 1, 1, []))])])
set_option maxRecDepth 20000 in
theorem vc1823 {l : Launch} {X : Nat × (Nat → Int32)} {e : Int} (d : Nat) : Vc l X U0 Pt6 e (d + 2) Kc1823 :=
  ck (d := (d + 1)) (Ks := [Kc1778, Kc1049, Kc1822]) (cy := 152) (cd := cdX7_mend) (nl := 3) (fuel := 1000) (Hs := []) (by decide) rfl (fun na b => by rw [← ceX7_mend]; exact tkX7_mend) (List.forall_mem_cons.mpr ⟨vc1778 (d + 1), List.forall_mem_cons.mpr ⟨vc1049 d, List.forall_mem_cons.mpr ⟨vc1822 (d + 1), fun _ h => absurd h List.not_mem_nil⟩⟩⟩) (cpyX (d + 1)) (by decide +kernel)
def Kc1824 : Con := ((269, [(2, 0, 0, [150]), (0, iLo, iHi, []), (0, iLo, iHi, [])], []), [(150, 0, 0), (150, 11, 11)], [(some (0, (-1), (-1), []), [], [(150, 11, (0, 1, 1, []))])])
set_option maxRecDepth 20000 in
theorem vc1824 {l : Launch} {X : Nat × (Nat → Int32)} {e : Int} (d : Nat) : Vc l X U0 Pt6 e (d + 2) Kc1824 :=
  ck (d := (d + 1)) (Ks := [Kc1778, Kc1049, Kc1109, Kc1058, Kc1779, Kc1059]) (cy := 152) (cd := cdX7_vex) (nl := 4) (fuel := 1000) (Hs := []) (by decide) rfl (fun na b => by rw [← ceX7_vex]; exact tkX7_vex) (List.forall_mem_cons.mpr ⟨vc1778 (d + 1), List.forall_mem_cons.mpr ⟨vc1049 d, List.forall_mem_cons.mpr ⟨vc1109 (d + 1), List.forall_mem_cons.mpr ⟨vc1058 (d + 1), List.forall_mem_cons.mpr ⟨vc1779 (d + 1), List.forall_mem_cons.mpr ⟨vc1059 (d + 1), fun _ h => absurd h List.not_mem_nil⟩⟩⟩⟩⟩⟩) (cpyX (d + 1)) (by decide +kernel)
def Kc1825 : Con := ((148, [(2, 0, 0, [150]), (0, 6, 6, [])], []), [(150, 11, 11)], [(some (0, 0, 0, []), [], [(150, 11, (0, 6, 6, []))])])
set_option maxRecDepth 20000 in
theorem vc1825 {l : Launch} {X : Nat × (Nat → Int32)} {e : Int} (d : Nat) : Vc l X U0 Pt6 e d Kc1825 :=
  ck (d := d) (Ks := []) (cy := 152) (cd := cdX7_isNot) (nl := 2) (fuel := 1000) (Hs := []) (by decide) rfl (fun na b => by rw [← ceX7_isNot]; exact tkX7_isNot) (fun _ h => absurd h List.not_mem_nil) (cpyX d) (by decide +kernel)
def Kc1826 : Con := ((270, [(2, 0, 0, [150])], []), [(150, 0, 0), (150, 11, 11), (150, 22, 22), (157, 0, 24)], [(some (0, 0, 0, []), [], [(150, 11, (0, 6, 6, []))]), (some (0, 1, 1, []), [], [(150, 11, (0, 0, 0, []))])])
set_option maxRecDepth 20000 in
theorem vc1826 {l : Launch} {X : Nat × (Nat → Int32)} {e : Int} (d : Nat) : Vc l X U0 Pt6 e (d + 1) Kc1826 :=
  ck (d := d) (Ks := [Kc1778, Kc1825]) (cy := 152) (cd := cdX7_undo) (nl := 1) (fuel := 1000) (Hs := [((28, 2), ([(0, (2, 0, 0, [150]))], [], [(0, 0), (0, 0), (0, 15)], [(150, 11, (0, 1, 0, [])), (150, 22, (0, 2, 0, []))]), [(2, 150, 11), (2, 150, 22)], (0, []), [])]) (by decide) rfl (fun na b => by rw [← ceX7_undo]; exact tkX7_undo) (List.forall_mem_cons.mpr ⟨vc1778 d, List.forall_mem_cons.mpr ⟨vc1825 d, fun _ h => absurd h List.not_mem_nil⟩⟩) (cpyX d) (by decide +kernel)
def Kc1827 : Con := ((271, [(2, 0, 0, [150])], []), [(150, 0, 0), (150, 11, 11)], [(some (0, (-1), (-1), []), [], [(150, 11, (0, 1, 1, []))])])
set_option maxRecDepth 20000 in
theorem vc1827 {l : Launch} {X : Nat × (Nat → Int32)} {e : Int} (d : Nat) : Vc l X U0 Pt6 e (d + 1) Kc1827 :=
  ck (d := d) (Ks := [Kc1778, Kc1779]) (cy := 152) (cd := cdX7_image) (nl := 1) (fuel := 1000) (Hs := []) (by decide) rfl (fun na b => by rw [← ceX7_image]; exact tkX7_image) (List.forall_mem_cons.mpr ⟨vc1778 d, List.forall_mem_cons.mpr ⟨vc1779 d, fun _ h => absurd h List.not_mem_nil⟩⟩) (cpyX d) (by decide +kernel)
def Kc1828 : Con := ((272, [(2, 0, 0, [150]), (0, iLo, iHi, [])], []), [(150, 0, 0), (150, 11, 11), (150, 22, 22), (157, 0, 24)], [(some (0, 0, 0, []), [], [(150, 11, (0, 1, 1, []))]), (some (0, 1, 1, []), [], [(150, 11, (0, 0, 0, []))])])
set_option maxRecDepth 20000 in
theorem vc1828 {l : Launch} {X : Nat × (Nat → Int32)} {e : Int} (d : Nat) : Vc l X U0 Pt6 e (d + 1) Kc1828 :=
  ck (d := d) (Ks := [Kc1778, Kc1113, Kc1822]) (cy := 152) (cd := cdX7_back) (nl := 2) (fuel := 1000) (Hs := [((24, 1), ([(0, (2, 0, 0, [150])), (1, (0, 1, 0, []))], [], [(0, 0), (0, 2), (0, 0)], [(150, 11, (0, 2, 0, []))]), [(0, 1, 0), (2, 150, 11)], (0, []), [])]) (by decide) rfl (fun na b => by rw [← ceX7_back]; exact tkX7_back) (List.forall_mem_cons.mpr ⟨vc1778 d, List.forall_mem_cons.mpr ⟨vc1113 d, List.forall_mem_cons.mpr ⟨vc1822 d, fun _ h => absurd h List.not_mem_nil⟩⟩⟩) (cpyX d) (by decide +kernel)
