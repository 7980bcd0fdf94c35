section LAW5
theorem ClsI.log0 {M M' : AH} {ax : Nat} {A : Nat → Nat → Nat} {S : Nat → Nat} (h : ClsI M ax A S) (hL : Lg0 M' (ax + 16)) (hFr : Fr (ax + 16) (ax + 23) M M') : ClsI M' ax A S := by
  obtain ⟨h1, h2, h3, ⟨nd, B, P, T, h4, h5⟩, ⟨C, Q, h8, h10⟩⟩ := h
  obtain ⟨B1, T1, hL⟩ := hL
  exact ⟨h1.fr hFr (by simp), h2, h3.put (d := 0) hFr hL, ⟨nd, B, P, T, h4.fr hFr (by simp), h5⟩, ⟨C, Q, h8.fr hFr (by simp), h10⟩⟩
theorem ClsI.lg0 {M : AH} {ax : Nat} {A : Nat → Nat → Nat} {S : Nat → Nat} (h : ClsI M ax A S) : Lg0 M (ax + 16) := h.2.2.1 0 (by decide)
end LAW5
