section PUB
variable {l : Launch} {X : Nat × (Nat → Int32)} {M : Mm} {kr : KR}
def m7_dryDay : Md3 := [(150, 0, 0), (150, 11, 11), (150, 26, 26), (160, 0, 4), (161, 0, 24), (164, 0, 19)]
theorem p7_dryDay (d : Nat) {x1 : Int32} (hL : LI M) (h : ∀ (x : Int32) (M' : Mm), LI M' → M'.1 = M.1 → kp m7_dryDay M M' → kr (some (.int x)) M') : Ev l X uX7_dryDay (d + 12) true 0 0 [.ref 150, .int x1] M kr := by
  obtain ⟨h8, ⟨p, hp, hI⟩, ht⟩ := hL
  rcases lt2 hp.1 with rfl | rfl
  · exact r7_of1 (K := Kc375) (t := 0) hp (vc375 (d + 6)) (by decide +kernel) h8 hI ht ⟨⟨rfl, List.mem_singleton.mpr rfl⟩, ⟨⟨rfl, i32_lo _, i32_hi _⟩, trivial⟩⟩ (fun v M' hv hL' h1 h2 => iV hv (fun x e => e ▸ h x M' hL' h1 (kpw h2 (by decide +kernel))))
  · exact r7_of1 (K := Kc468) (t := 0) hp (vc468 (d + 10)) (by decide +kernel) h8 hI ht ⟨⟨rfl, List.mem_singleton.mpr rfl⟩, ⟨⟨rfl, i32_lo _, i32_hi _⟩, trivial⟩⟩ (fun v M' hv hL' h1 h2 => iV hv (fun x e => e ▸ h x M' hL' h1 (kpw h2 (by decide +kernel))))
def m7_gate : Md3 := [(150, 0, 0), (150, 11, 11), (150, 26, 26), (164, 0, 19)]
theorem p7_gate (d : Nat) (hL : LI M) (h : ∀ (x : Int32) (M' : Mm), LI M' → M'.1 = M.1 → kp m7_gate M M' → kr (some (.int x)) M') : Ev l X uX7_gate (d + 12) true 0 0 [.ref 150] M kr := by
  obtain ⟨h8, ⟨p, hp, hI⟩, ht⟩ := hL
  rcases lt2 hp.1 with rfl | rfl
  · exact r7_of1 (K := Kc377) (t := 0) hp (vc377 (d + 5)) (by decide +kernel) h8 hI ht ⟨⟨rfl, List.mem_singleton.mpr rfl⟩, trivial⟩ (fun v M' hv hL' h1 h2 => iV hv (fun x e => e ▸ h x M' hL' h1 (kpw h2 (by decide +kernel))))
  · exact r7_of1 (K := Kc469) (t := 0) hp (vc469 (d + 11)) (by decide +kernel) h8 hI ht ⟨⟨rfl, List.mem_singleton.mpr rfl⟩, trivial⟩ (fun v M' hv hL' h1 h2 => iV hv (fun x e => e ▸ h x M' hL' h1 (kpw h2 (by decide +kernel))))
def m7_fits : Md3 := [(150, 0, 0), (150, 11, 11), (150, 36, 38), (160, 0, 4), (161, 0, 24), (165, 0, 5), (166, 0, 3)]
theorem p7_fits (d : Nat) (hL : LI M) (h : ∀ (x : Int32) (M' : Mm), LI M' → M'.1 = M.1 → kp m7_fits M M' → kr (some (.int x)) M') : Ev l X uX7_fits (d + 12) true 0 0 [.ref 150] M kr := by
  obtain ⟨h8, ⟨p, hp, hI⟩, ht⟩ := hL
  rcases lt2 hp.1 with rfl | rfl
  · exact r7_of1 (K := Kc380) (t := 0) hp (vc380 (d + 8)) (by decide +kernel) h8 hI ht ⟨⟨rfl, List.mem_singleton.mpr rfl⟩, trivial⟩ (fun v M' hv hL' h1 h2 => iV hv (fun x e => e ▸ h x M' hL' h1 (kpw h2 (by decide +kernel))))
  · exact r7_of1 (K := Kc470) (t := 0) hp (vc470 (d + 11)) (by decide +kernel) h8 hI ht ⟨⟨rfl, List.mem_singleton.mpr rfl⟩, trivial⟩ (fun v M' hv hL' h1 h2 => iV hv (fun x e => e ▸ h x M' hL' h1 (kpw h2 (by decide +kernel))))
def m7_fitAt : Md3 := [(150, 0, 0), (150, 11, 11), (150, 36, 38), (160, 0, 4), (161, 0, 24), (165, 0, 5), (166, 0, 3)]
theorem p7_fitAt (d : Nat) {x1 : Int32} (hL : LI M) (h : ∀ (x : Int32) (M' : Mm), LI M' → M'.1 = M.1 → kp m7_fitAt M M' → kr (some (.int x)) M') : Ev l X uX7_fitAt (d + 12) true 0 0 [.ref 150, .int x1] M kr := by
  obtain ⟨h8, ⟨p, hp, hI⟩, ht⟩ := hL
  rcases lt2 hp.1 with rfl | rfl
  · exact r7_of1 (K := Kc381) (t := 0) hp (vc381 (d + 8)) (by decide +kernel) h8 hI ht ⟨⟨rfl, List.mem_singleton.mpr rfl⟩, ⟨⟨rfl, i32_lo _, i32_hi _⟩, trivial⟩⟩ (fun v M' hv hL' h1 h2 => iV hv (fun x e => e ▸ h x M' hL' h1 (kpw h2 (by decide +kernel))))
  · exact r7_of1 (K := Kc471) (t := 0) hp (vc471 (d + 11)) (by decide +kernel) h8 hI ht ⟨⟨rfl, List.mem_singleton.mpr rfl⟩, ⟨⟨rfl, i32_lo _, i32_hi _⟩, trivial⟩⟩ (fun v M' hv hL' h1 h2 => iV hv (fun x e => e ▸ h x M' hL' h1 (kpw h2 (by decide +kernel))))
def m7_could : Md3 := [(150, 0, 0), (150, 11, 11), (150, 36, 38), (160, 0, 4), (161, 0, 24), (165, 0, 5), (166, 0, 3)]
theorem p7_could (d : Nat) (hL : LI M) (h : ∀ (x : Int32) (M' : Mm), LI M' → M'.1 = M.1 → kp m7_could M M' → kr (some (.int x)) M') : Ev l X uX7_could (d + 12) true 0 0 [.ref 150] M kr := by
  obtain ⟨h8, ⟨p, hp, hI⟩, ht⟩ := hL
  rcases lt2 hp.1 with rfl | rfl
  · exact r7_of1 (K := Kc382) (t := 0) hp (vc382 (d + 8)) (by decide +kernel) h8 hI ht ⟨⟨rfl, List.mem_singleton.mpr rfl⟩, trivial⟩ (fun v M' hv hL' h1 h2 => iV hv (fun x e => e ▸ h x M' hL' h1 (kpw h2 (by decide +kernel))))
  · exact r7_of1 (K := Kc472) (t := 0) hp (vc472 (d + 11)) (by decide +kernel) h8 hI ht ⟨⟨rfl, List.mem_singleton.mpr rfl⟩, trivial⟩ (fun v M' hv hL' h1 h2 => iV hv (fun x e => e ▸ h x M' hL' h1 (kpw h2 (by decide +kernel))))
def m7_surely : Md3 := [(150, 0, 0), (150, 11, 11), (150, 36, 38), (160, 0, 4), (161, 0, 24), (165, 0, 5), (166, 0, 3)]
theorem p7_surely (d : Nat) (hL : LI M) (h : ∀ (x : Int32) (M' : Mm), LI M' → M'.1 = M.1 → kp m7_surely M M' → kr (some (.int x)) M') : Ev l X uX7_surely (d + 12) true 0 0 [.ref 150] M kr := by
  obtain ⟨h8, ⟨p, hp, hI⟩, ht⟩ := hL
  rcases lt2 hp.1 with rfl | rfl
  · exact r7_of1 (K := Kc383) (t := 0) hp (vc383 (d + 8)) (by decide +kernel) h8 hI ht ⟨⟨rfl, List.mem_singleton.mpr rfl⟩, trivial⟩ (fun v M' hv hL' h1 h2 => iV hv (fun x e => e ▸ h x M' hL' h1 (kpw h2 (by decide +kernel))))
  · exact r7_of1 (K := Kc473) (t := 0) hp (vc473 (d + 11)) (by decide +kernel) h8 hI ht ⟨⟨rfl, List.mem_singleton.mpr rfl⟩, trivial⟩ (fun v M' hv hL' h1 h2 => iV hv (fun x e => e ▸ h x M' hL' h1 (kpw h2 (by decide +kernel))))
def m7_ask : Md3 := [(150, 0, 0), (150, 11, 11), (150, 36, 38), (160, 0, 4), (161, 0, 24), (165, 0, 5), (166, 0, 3)]
theorem p7_ask (d : Nat) (hL : LI M) (h : ∀ (x : Int32) (M' : Mm), LI M' → M'.1 = M.1 → kp m7_ask M M' → kr (some (.int x)) M') : Ev l X uX7_ask (d + 12) true 0 0 [.ref 150] M kr := by
  obtain ⟨h8, ⟨p, hp, hI⟩, ht⟩ := hL
  rcases lt2 hp.1 with rfl | rfl
  · exact r7_of1 (K := Kc386) (t := 0) hp (vc386 (d + 7)) (by decide +kernel) h8 hI ht ⟨⟨rfl, List.mem_singleton.mpr rfl⟩, trivial⟩ (fun v M' hv hL' h1 h2 => iV hv (fun x e => e ▸ h x M' hL' h1 (kpw h2 (by decide +kernel))))
  · exact r7_of1 (K := Kc474) (t := 0) hp (vc474 (d + 11)) (by decide +kernel) h8 hI ht ⟨⟨rfl, List.mem_singleton.mpr rfl⟩, trivial⟩ (fun v M' hv hL' h1 h2 => iV hv (fun x e => e ▸ h x M' hL' h1 (kpw h2 (by decide +kernel))))
def m7_askLeaves : Md3 := [(150, 0, 0), (150, 11, 11), (150, 36, 38), (160, 0, 4), (161, 0, 24), (165, 0, 5), (166, 0, 3)]
theorem p7_askLeaves (d : Nat) (hL : LI M) (h : ∀ (x : Int32) (M' : Mm), LI M' → M'.1 = M.1 → kp m7_askLeaves M M' → kr (some (.int x)) M') : Ev l X uX7_askLeaves (d + 12) true 0 0 [.ref 150] M kr := by
  obtain ⟨h8, ⟨p, hp, hI⟩, ht⟩ := hL
  rcases lt2 hp.1 with rfl | rfl
  · exact r7_of1 (K := Kc387) (t := 0) hp (vc387 (d + 7)) (by decide +kernel) h8 hI ht ⟨⟨rfl, List.mem_singleton.mpr rfl⟩, trivial⟩ (fun v M' hv hL' h1 h2 => iV hv (fun x e => e ▸ h x M' hL' h1 (kpw h2 (by decide +kernel))))
  · exact r7_of1 (K := Kc475) (t := 0) hp (vc475 (d + 11)) (by decide +kernel) h8 hI ht ⟨⟨rfl, List.mem_singleton.mpr rfl⟩, trivial⟩ (fun v M' hv hL' h1 h2 => iV hv (fun x e => e ▸ h x M' hL' h1 (kpw h2 (by decide +kernel))))
end PUB
