section LAW6
theorem ClsI.sums {M M' : AH} {ax : Nat} {A B : Nat → Nat → Nat} {S T : Nat → Nat} {P : Nat → Int} {nd : List Nd} (h : ClsI M ax A S) (hnd : TreeIs B P T nd) (hgo : nd = [] ∨ Grown nd) (h9 : S 9 = 1 → nd = trOf A S) (hf : ∃ f, Cl M' (ax + 7) (treeC (ax + 7) (upAN B 6 f) P T)) (hFr : Fr (ax + 7) (ax + 14) M M') : ClsI M' ax A S := by
  obtain ⟨h1, h2, h3, -, ⟨C, Q, h8, h10⟩⟩ := h
  obtain ⟨f, hf⟩ := hf
  exact ⟨h1.fr hFr (by simp), h2, h3.keep (fun q a1 a2 => hFr q (by omega)), ⟨nd, _, P, T, hf, hnd.sums f, hgo, h9⟩, ⟨C, Q, h8.fr hFr (by omega), h10⟩⟩
end LAW6
