section LAW7
theorem ClsI.mt {M : AH} {ax : Nat} {A : Nat → Nat → Nat} {S : Nat → Nat} (h : ClsI M ax A S) : ∃ C Q, S 9 = 1 → Mt M (ax + 6) (ax + 7) C Q (trOf A S) := by
  obtain ⟨h1, h2, h3, ⟨nd, B, P, T, h4, h5, h6, h7⟩, ⟨C, Q, h8, h10, h11, h12⟩⟩ := h
  refine ⟨C, Q, fun h9 => ?_⟩
  have e := h7 h9
  subst e
  have hG := trOf_grown h2
  exact ⟨h8, ⟨B, P, T, h4, h5⟩, h10, h11, hG.ndq.2.2.2, h12, fun i hi c => (hG.sh i hi).2.2 (by omega)⟩
theorem ClsI.mtl {M M' : AH} {ax : Nat} {A : Nat → Nat → Nat} {S : Nat → Nat} (h : ClsI M ax A S) (hm : MtL M M' ax (trOf A S)) (h9 : S 9 = 1) : ClsI M' ax A S := by
  obtain ⟨h1, h2, h3, -, -⟩ := h
  obtain ⟨⟨C, Q, ⟨m1, ⟨B, P, T, m2, m3⟩, m4, m5, -, m7, -⟩⟩, hFr⟩ := hm
  exact ⟨h1.fq hFr (by simp), h2, h3.keep (fun q a1 a2 => hFr q (by omega) (by omega)), ⟨_, B, P, T, m2, m3, Or.inr (trOf_grown h2), fun _ => rfl⟩, ⟨C, Q, m1, m4, m5, m7⟩⟩
end LAW7
