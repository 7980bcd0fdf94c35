section BND1
theorem dp_lt {u i : Nat} {ps : List Nat} (h : DP u ps) (hu : u < 256) (h2 : 2 ≤ ps.length) (hi : i < ps.length) : popc (gd ps i) + 1 ≤ popc u := by
  obtain ⟨p1, p2, -⟩ := h
  obtain ⟨j, hj, hij⟩ : ∃ j, j < ps.length ∧ j ≠ i := by
    by_cases e : i = 0
    · exact ⟨1, by omega, by omega⟩
    · exact ⟨0, by omega, by omega⟩
  refine popc_lt (p1 i hi).2 (fun e => ?_) (by omega)
  obtain ⟨y, hy⟩ := Nat.exists_testBit_of_ne_zero (show gd ps j ≠ 0 by have := (p1 j hj).1; omega)
  have a1 := (p1 j hj).2 y hy
  have a2 := p2 j i hj hi hij y hy
  rw [e, a1] at a2
  cases a2
theorem child_moL {tr : List (List Nat)} {kd i : Nat} {ps : List Nat} (h : DP (moL tr) ps) (hi : i < ps.length) : moL (takeF tr (gd ps i) kd) = gd ps i := takeF_moL (h.1 i hi).2
theorem dp_ok : ∀ (f : Nat) (tr : List (List Nat)), GoodM tr → 1 ≤ f → (moL tr ≠ 0 → emB tr tr.length = true → 2 * popc (moL tr) ≤ f) → (moL tr ≠ 0 → 2 * popc (moL tr) ≤ f + 1) → dpOk f tr
  | 0, _, _, h, _, _ => absurd h (by decide)
  | f + 1, tr, hg, _, h1, h2 => by
    have hu : moL tr < 256 := lbL_lt hg.1.1
    have hD := cutD hg
    show ∀ i, i < (cutT tr).2.length → dpOk f (takeF tr (gd (cutT tr).2 i) (cutT tr).1)
    generalize (cutT tr).1 = kd at hD
    generalize (cutT tr).2 = ps at hD
    intro i hi
    rcases hD with ⟨-, -, e⟩ | ⟨h0, hem, e1, e⟩ | ⟨-, -, -, -, e⟩ | ⟨-, -, -, -, e⟩ | ⟨h0, hem, hk, hkd, hl2, hl8, hd⟩
    · rw [e] at hi; exact absurd hi (Nat.not_lt_zero i)
    · subst e1
      subst e
      have hi0 : i = 0 := by
        have : [moL tr].length = 1 := rfl
        omega
      subst hi0
      have hm : moL (takeF tr (moL tr) 2) = moL tr := takeF_moL Sb.rf
      have hne : emB (takeF tr (moL tr) 2) (takeF tr (moL tr) 2).length = false := em_noE.mpr (takeF_noE (by decide))
      have hp := popc_pos1 hu (by omega)
      have hq := h1 h0 hem
      refine dp_ok f (takeF tr (moL tr) 2) (takeF_goodM hg) (by omega) (fun _ h => ?_) (fun _ => ?_)
      · rw [hne] at h; cases h
      · rw [hm]; omega
    · rw [e] at hi; exact absurd hi (Nat.not_lt_zero i)
    · rw [e] at hi; exact absurd hi (Nat.not_lt_zero i)
    · have hm := child_moL (kd := kd) hd hi
      have hlt := dp_lt hd hu hl2 hi
      have hq := h2 h0
      have hp : 1 ≤ popc (gd ps i) := popc_pos1 (by
        have := hd.1 i hi
        exact lt_of_bits (k := 8) (fun y hy => by
          cases q : (gd ps i).testBit y
          · rfl
          · have := bit8 hu (this.2 y q); omega)) (hd.1 i hi).1
      refine dp_ok f (takeF tr (gd ps i) kd) (takeF_goodM hg) (by omega) (fun _ _ => ?_) (fun _ => ?_)
      · rw [hm]; omega
      · rw [hm]; omega
theorem dp_root {tr : List (List Nat)} (hg : GoodM tr) : dpOk 16 tr := by
  have hp := popc_le8 (show moL tr < 256 from lbL_lt hg.1.1)
  exact dp_ok 16 tr hg (by decide) (fun _ _ => by omega) (fun _ => by omega)
end BND1
