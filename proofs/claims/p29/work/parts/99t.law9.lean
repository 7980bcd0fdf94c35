section LAW9
theorem ClsI.mined {M M' : AH} {ax : Nat} {A : Nat → Nat → Nat} {S : Nat → Nat} (h : ClsI M ax A S) (hX : Cl M' ax (minC ax A (upN S 9 1))) (hT : ∃ B' P' T', Cl M' (ax + 7) (treeC (ax + 7) B' P' T') ∧ TreeIs B' P' T' (trOf A S)) (hL : LogsAt M' (ax + 16)) (hm : ∀ q, (q = ax + 6 ∨ ax + 14 ≤ q) → q < ax + 16 → M' q = M q) : ClsI M' ax A (upN S 9 1) := by
  obtain ⟨h1, h2, h3, -, ⟨C, Q, h8, h10⟩⟩ := h
  obtain ⟨B, P, T, t1, t2⟩ := hT
  exact ⟨hX, h2.mi, hL, ⟨_, B, P, T, t1, t2, Or.inr (trOf_grown h2), fun _ => rfl⟩, ⟨C, Q, ⟨(hm _ (Or.inl rfl) (by omega)).trans h8.1, (hm _ (Or.inr (by omega)) (by omega)).trans h8.2.1, (hm _ (Or.inr (by omega)) (by omega)).trans h8.2.2⟩, h10⟩⟩
end LAW9
