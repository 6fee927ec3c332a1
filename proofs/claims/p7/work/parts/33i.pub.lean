section PUB
variable {l : Launch} {X : Nat × (Nat → Int32)} {M : Mm} {kr : KR}
def m7_size : Md3 := [(150, 0, 0)]
theorem p7_size (d : Nat) {x1 : Int32} (hL : LI M) (h : ∀ (x : Int32) (M' : Mm), LI M' → M'.1 = M.1 → kp m7_size M M' → kr (some (.int x)) M') : Ev l X uX7_size (d + 12) true 0 0 [.ref 150, .int x1] M kr := by
  obtain ⟨h8, ⟨p, hp, hI⟩, ht⟩ := hL
  rcases lt2 hp.1 with rfl | rfl
  · exact r7_of1 (K := Kc427) (t := 0) hp (vc427 (d + 11)) (by decide +kernel) h8 hI ht ⟨⟨rfl, List.mem_singleton.mpr rfl⟩, ⟨⟨rfl, i32_lo _, i32_hi _⟩, trivial⟩⟩ (fun v M' hv hL' h1 h2 => iV hv (fun x e => e ▸ h x M' hL' h1 (kpw h2 (by decide +kernel))))
  · exact r7_of1 (K := Kc500) (t := 0) hp (vc500 (d + 11)) (by decide +kernel) h8 hI ht ⟨⟨rfl, List.mem_singleton.mpr rfl⟩, ⟨⟨rfl, i32_lo _, i32_hi _⟩, trivial⟩⟩ (fun v M' hv hL' h1 h2 => iV hv (fun x e => e ▸ h x M' hL' h1 (kpw h2 (by decide +kernel))))
def m7_trouble : Md3 := [(150, 0, 0)]
theorem p7_trouble (d : Nat) (hL : LI M) (h : ∀ (x : Int32) (M' : Mm), LI M' → M'.1 = M.1 → kp m7_trouble M M' → kr (some (.int x)) M') : Ev l X uX7_trouble (d + 12) true 0 0 [.ref 150] M kr := by
  obtain ⟨h8, ⟨p, hp, hI⟩, ht⟩ := hL
  rcases lt2 hp.1 with rfl | rfl
  · exact r7_of1 (K := Kc428) (t := 0) hp (vc428 (d + 12)) (by decide +kernel) h8 hI ht ⟨⟨rfl, List.mem_singleton.mpr rfl⟩, trivial⟩ (fun v M' hv hL' h1 h2 => iV hv (fun x e => e ▸ h x M' hL' h1 (kpw h2 (by decide +kernel))))
  · exact r7_of1 (K := Kc501) (t := 0) hp (vc501 (d + 12)) (by decide +kernel) h8 hI ht ⟨⟨rfl, List.mem_singleton.mpr rfl⟩, trivial⟩ (fun v M' hv hL' h1 h2 => iV hv (fun x e => e ▸ h x M' hL' h1 (kpw h2 (by decide +kernel))))
def m7_fault : Md3 := [(150, 0, 0)]
theorem p7_fault (d : Nat) (hL : LI M) (h : ∀ (x : Int32) (M' : Mm), LI M' → M'.1 = M.1 → kp m7_fault M M' → kr (some (.int x)) M') : Ev l X uX7_fault (d + 12) true 0 0 [.ref 150] M kr := by
  obtain ⟨h8, ⟨p, hp, hI⟩, ht⟩ := hL
  rcases lt2 hp.1 with rfl | rfl
  · exact r7_of1 (K := Kc429) (t := 0) hp (vc429 (d + 12)) (by decide +kernel) h8 hI ht ⟨⟨rfl, List.mem_singleton.mpr rfl⟩, trivial⟩ (fun v M' hv hL' h1 h2 => iV hv (fun x e => e ▸ h x M' hL' h1 (kpw h2 (by decide +kernel))))
  · exact r7_of1 (K := Kc502) (t := 0) hp (vc502 (d + 12)) (by decide +kernel) h8 hI ht ⟨⟨rfl, List.mem_singleton.mpr rfl⟩, trivial⟩ (fun v M' hv hL' h1 h2 => iV hv (fun x e => e ▸ h x M' hL' h1 (kpw h2 (by decide +kernel))))
def m7_where : Md3 := [(150, 0, 0)]
theorem p7_where (d : Nat) (hL : LI M) (h : ∀ (x : Int32) (M' : Mm), LI M' → M'.1 = M.1 → kp m7_where M M' → kr (some (.int x)) M') : Ev l X uX7_where (d + 12) true 0 0 [.ref 150] M kr := by
  obtain ⟨h8, ⟨p, hp, hI⟩, ht⟩ := hL
  rcases lt2 hp.1 with rfl | rfl
  · exact r7_of1 (K := Kc430) (t := 0) hp (vc430 (d + 12)) (by decide +kernel) h8 hI ht ⟨⟨rfl, List.mem_singleton.mpr rfl⟩, trivial⟩ (fun v M' hv hL' h1 h2 => iV hv (fun x e => e ▸ h x M' hL' h1 (kpw h2 (by decide +kernel))))
  · exact r7_of1 (K := Kc503) (t := 0) hp (vc503 (d + 12)) (by decide +kernel) h8 hI ht ⟨⟨rfl, List.mem_singleton.mpr rfl⟩, trivial⟩ (fun v M' hv hL' h1 h2 => iV hv (fun x e => e ▸ h x M' hL' h1 (kpw h2 (by decide +kernel))))
end PUB
