section PUB
variable {l : Launch} {X : Nat × (Nat → Int32)} {M : Mm} {kr : KR}
def m7_day : Md3 := [(150, 0, 0), (150, 11, 11), (150, 22, 22), (157, 0, 17), (157, 23, 24), (158, 0, 399), (160, 0, 4)]
theorem p7_day (d : Nat) (hL : LI M) (h : ∀ (x : Int32) (M' : Mm), LI M' → M'.1 = M.1 → kp m7_day M M' → kr (some (.int x)) M') : Ev l X uX7_day (d + 12) true 0 0 [.ref 150] M kr := by
  obtain ⟨h8, ⟨p, hp, hI⟩, ht⟩ := hL
  rcases lt2 hp.1 with rfl | rfl
  · exact r7_of1 (K := Kc415) (t := 0) hp (vc415 (d + 10)) (by decide +kernel) h8 hI ht ⟨⟨rfl, List.mem_singleton.mpr rfl⟩, trivial⟩ (fun v M' hv hL' h1 h2 => iV hv (fun x e => e ▸ h x M' hL' h1 (kpw h2 (by decide +kernel))))
  · exact r7_of1 (K := Kc488) (t := 0) hp (vc488 (d + 11)) (by decide +kernel) h8 hI ht ⟨⟨rfl, List.mem_singleton.mpr rfl⟩, trivial⟩ (fun v M' hv hL' h1 h2 => iV hv (fun x e => e ▸ h x M' hL' h1 (kpw h2 (by decide +kernel))))
def m7_give : Md3 := [(150, 0, 0), (150, 11, 11), (150, 22, 22), (157, 18, 22), (158, 0, 399)]
theorem p7_give (d : Nat) {x1 x2 : Int32} (hL : LI M) (h : ∀ (x : Int32) (M' : Mm), LI M' → M'.1 = M.1 → kp m7_give M M' → kr (some (.int x)) M') : Ev l X uX7_give (d + 12) true 0 0 [.ref 150, .int x1, .int x2] M kr := by
  obtain ⟨h8, ⟨p, hp, hI⟩, ht⟩ := hL
  rcases lt2 hp.1 with rfl | rfl
  · exact r7_of1 (K := Kc416) (t := 0) hp (vc416 (d + 10)) (by decide +kernel) h8 hI ht ⟨⟨rfl, List.mem_singleton.mpr rfl⟩, ⟨⟨rfl, i32_lo _, i32_hi _⟩, ⟨⟨rfl, i32_lo _, i32_hi _⟩, trivial⟩⟩⟩ (fun v M' hv hL' h1 h2 => iV hv (fun x e => e ▸ h x M' hL' h1 (kpw h2 (by decide +kernel))))
  · exact r7_of1 (K := Kc489) (t := 0) hp (vc489 (d + 10)) (by decide +kernel) h8 hI ht ⟨⟨rfl, List.mem_singleton.mpr rfl⟩, ⟨⟨rfl, i32_lo _, i32_hi _⟩, ⟨⟨rfl, i32_lo _, i32_hi _⟩, trivial⟩⟩⟩ (fun v M' hv hL' h1 h2 => iV hv (fun x e => e ▸ h x M' hL' h1 (kpw h2 (by decide +kernel))))
def m7_mend : Md3 := [(150, 0, 0), (150, 11, 11), (150, 22, 22), (157, 0, 11), (158, 0, 399)]
theorem p7_mend (d : Nat) {x1 : Int32} (hL : LI M) (h : ∀ (x : Int32) (M' : Mm), LI M' → M'.1 = M.1 → kp m7_mend M M' → kr (some (.int x)) M') : Ev l X uX7_mend (d + 12) true 0 0 [.ref 150, .int x1] M kr := by
  obtain ⟨h8, ⟨p, hp, hI⟩, ht⟩ := hL
  rcases lt2 hp.1 with rfl | rfl
  · exact r7_of1 (K := Kc418) (t := 0) hp (vc418 (d + 10)) (by decide +kernel) h8 hI ht ⟨⟨rfl, List.mem_singleton.mpr rfl⟩, ⟨⟨rfl, i32_lo _, i32_hi _⟩, trivial⟩⟩ (fun v M' hv hL' h1 h2 => iV hv (fun x e => e ▸ h x M' hL' h1 (kpw h2 (by decide +kernel))))
  · exact r7_of1 (K := Kc491) (t := 0) hp (vc491 (d + 10)) (by decide +kernel) h8 hI ht ⟨⟨rfl, List.mem_singleton.mpr rfl⟩, ⟨⟨rfl, i32_lo _, i32_hi _⟩, trivial⟩⟩ (fun v M' hv hL' h1 h2 => iV hv (fun x e => e ▸ h x M' hL' h1 (kpw h2 (by decide +kernel))))
def m7_vex : Md3 := [(150, 0, 0), (150, 11, 11), (150, 22, 22), (157, 6, 11), (158, 0, 399)]
theorem p7_vex (d : Nat) {x1 x2 : Int32} (hL : LI M) (h : ∀ (x : Int32) (M' : Mm), LI M' → M'.1 = M.1 → kp m7_vex M M' → kr (some (.int x)) M') : Ev l X uX7_vex (d + 12) true 0 0 [.ref 150, .int x1, .int x2] M kr := by
  obtain ⟨h8, ⟨p, hp, hI⟩, ht⟩ := hL
  rcases lt2 hp.1 with rfl | rfl
  · exact r7_of1 (K := Kc420) (t := 0) hp (vc420 (d + 10)) (by decide +kernel) h8 hI ht ⟨⟨rfl, List.mem_singleton.mpr rfl⟩, ⟨⟨rfl, i32_lo _, i32_hi _⟩, ⟨⟨rfl, i32_lo _, i32_hi _⟩, trivial⟩⟩⟩ (fun v M' hv hL' h1 h2 => iV hv (fun x e => e ▸ h x M' hL' h1 (kpw h2 (by decide +kernel))))
  · exact r7_of1 (K := Kc493) (t := 0) hp (vc493 (d + 10)) (by decide +kernel) h8 hI ht ⟨⟨rfl, List.mem_singleton.mpr rfl⟩, ⟨⟨rfl, i32_lo _, i32_hi _⟩, ⟨⟨rfl, i32_lo _, i32_hi _⟩, trivial⟩⟩⟩ (fun v M' hv hL' h1 h2 => iV hv (fun x e => e ▸ h x M' hL' h1 (kpw h2 (by decide +kernel))))
def m7_undo : Md3 := [(150, 0, 0), (150, 11, 11), (150, 22, 22), (157, 0, 24)]
theorem p7_undo (d : Nat) (hL : LI M) (h : ∀ (x : Int32) (M' : Mm), LI M' → M'.1 = M.1 → kp m7_undo M M' → kr (some (.int x)) M') : Ev l X uX7_undo (d + 12) true 0 0 [.ref 150] M kr := by
  obtain ⟨h8, ⟨p, hp, hI⟩, ht⟩ := hL
  rcases lt2 hp.1 with rfl | rfl
  · exact r7_of1 (K := Kc421) (t := 0) hp (vc421 (d + 11)) (by decide +kernel) h8 hI ht ⟨⟨rfl, List.mem_singleton.mpr rfl⟩, trivial⟩ (fun v M' hv hL' h1 h2 => iV hv (fun x e => e ▸ h x M' hL' h1 (kpw h2 (by decide +kernel))))
  · exact r7_of1 (K := Kc494) (t := 0) hp (vc494 (d + 11)) (by decide +kernel) h8 hI ht ⟨⟨rfl, List.mem_singleton.mpr rfl⟩, trivial⟩ (fun v M' hv hL' h1 h2 => iV hv (fun x e => e ▸ h x M' hL' h1 (kpw h2 (by decide +kernel))))
def m7_image : Md3 := [(150, 0, 0), (150, 11, 11), (150, 23, 23), (159, 0, 74)]
theorem p7_image (d : Nat) (hL : LI M) (h : ∀ (x : Int32) (M' : Mm), LI M' → M'.1 = M.1 → kp m7_image M M' → kr (some (.int x)) M') : Ev l X uX7_image (d + 12) true 0 0 [.ref 150] M kr := by
  obtain ⟨h8, ⟨p, hp, hI⟩, ht⟩ := hL
  rcases lt2 hp.1 with rfl | rfl
  · exact r7_of1 (K := Kc422) (t := 0) hp (vc422 (d + 11)) (by decide +kernel) h8 hI ht ⟨⟨rfl, List.mem_singleton.mpr rfl⟩, trivial⟩ (fun v M' hv hL' h1 h2 => iV hv (fun x e => e ▸ h x M' hL' h1 (kpw h2 (by decide +kernel))))
  · exact r7_of1 (K := Kc495) (t := 0) hp (vc495 (d + 11)) (by decide +kernel) h8 hI ht ⟨⟨rfl, List.mem_singleton.mpr rfl⟩, trivial⟩ (fun v M' hv hL' h1 h2 => iV hv (fun x e => e ▸ h x M' hL' h1 (kpw h2 (by decide +kernel))))
def m7_back : Md3 := [(150, 0, 0), (150, 11, 11), (150, 22, 22), (157, 0, 24)]
theorem p7_back (d : Nat) {x1 : Int32} (hL : LI M) (h : ∀ (x : Int32) (M' : Mm), LI M' → M'.1 = M.1 → kp m7_back M M' → kr (some (.int x)) M') : Ev l X uX7_back (d + 12) true 0 0 [.ref 150, .int x1] M kr := by
  obtain ⟨h8, ⟨p, hp, hI⟩, ht⟩ := hL
  rcases lt2 hp.1 with rfl | rfl
  · exact r7_of1 (K := Kc424) (t := 0) hp (vc424 (d + 11)) (by decide +kernel) h8 hI ht ⟨⟨rfl, List.mem_singleton.mpr rfl⟩, ⟨⟨rfl, i32_lo _, i32_hi _⟩, trivial⟩⟩ (fun v M' hv hL' h1 h2 => iV hv (fun x e => e ▸ h x M' hL' h1 (kpw h2 (by decide +kernel))))
  · exact r7_of1 (K := Kc497) (t := 0) hp (vc497 (d + 11)) (by decide +kernel) h8 hI ht ⟨⟨rfl, List.mem_singleton.mpr rfl⟩, ⟨⟨rfl, i32_lo _, i32_hi _⟩, trivial⟩⟩ (fun v M' hv hL' h1 h2 => iV hv (fun x e => e ▸ h x M' hL' h1 (kpw h2 (by decide +kernel))))
def m7_led : Md3 := [(150, 0, 0)]
theorem p7_led (d : Nat) {x1 : Int32} (hL : LI M) (h : ∀ (x : Int32) (M' : Mm), LI M' → M'.1 = M.1 → kp m7_led M M' → kr (some (.int x)) M') : Ev l X uX7_led (d + 12) true 0 0 [.ref 150, .int x1] M kr := by
  obtain ⟨h8, ⟨p, hp, hI⟩, ht⟩ := hL
  rcases lt2 hp.1 with rfl | rfl
  · exact r7_of1 (K := Kc425) (t := 0) hp (vc425 (d + 11)) (by decide +kernel) h8 hI ht ⟨⟨rfl, List.mem_singleton.mpr rfl⟩, ⟨⟨rfl, i32_lo _, i32_hi _⟩, trivial⟩⟩ (fun v M' hv hL' h1 h2 => iV hv (fun x e => e ▸ h x M' hL' h1 (kpw h2 (by decide +kernel))))
  · exact r7_of1 (K := Kc498) (t := 0) hp (vc498 (d + 11)) (by decide +kernel) h8 hI ht ⟨⟨rfl, List.mem_singleton.mpr rfl⟩, ⟨⟨rfl, i32_lo _, i32_hi _⟩, trivial⟩⟩ (fun v M' hv hL' h1 h2 => iV hv (fun x e => e ▸ h x M' hL' h1 (kpw h2 (by decide +kernel))))
end PUB
