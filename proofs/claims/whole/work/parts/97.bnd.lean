section BND1
theorem dp_lt {u i : Nat} {ps : List Nat} (h : DP u ps) (hu : u < 256) (h2 : 2 ≤ ps.length) (hi : i < ps.length) : popc (gd ps i) + 1 ≤ popc u := by
  obtain ⟨p1, p2, -⟩ := h
  obtain ⟨j, hj, hij⟩ : ∃ j, j < ps.length ∧ j ≠ i := by
    by_cases e : i = 0
    · exact ⟨1, by omega, by omega⟩
    · exact ⟨0, by omega, by omega⟩
  refine popc_lt (p1 i hi).2 (fun e => ?_) (by omega)
  obtain ⟨y, hy⟩ := Nat.exists_testBit_of_ne_zero (show gd ps j ≠ 0 by have := (p1 j hj).1; omega)
  have a1 := (p1 j hj).2 y hy
  have a2 := p2 j i hj hi hij y hy
  rw [e, a1] at a2
  cases a2
theorem child_moL {tr : List (List Nat)} {kd i : Nat} {ps : List Nat} (h : DP (moL tr) ps) (hi : i < ps.length) : moL (takeF tr (gd ps i) kd) = gd ps i := takeF_moL (h.1 i hi).2
theorem dp_ok : ∀ (f : Nat) (tr : List (List Nat)), GoodM tr → 1 ≤ f → (moL tr ≠ 0 → emB tr tr.length = true → 2 * popc (moL tr) ≤ f) → (moL tr ≠ 0 → 2 * popc (moL tr) ≤ f + 1) → dpOk f tr
  | 0, _, _, h, _, _ => absurd h (by decide)
  | f + 1, tr, hg, _, h1, h2 => by
    have hu : moL tr < 256 := lbL_lt hg.1.1
    have hD := cutD hg
    show ∀ i, i < (cutT tr).2.length → dpOk f (takeF tr (gd (cutT tr).2 i) (cutT tr).1)
    generalize (cutT tr).1 = kd at hD
    generalize (cutT tr).2 = ps at hD
    intro i hi
    rcases hD with ⟨-, -, e⟩ | ⟨h0, hem, e1, e⟩ | ⟨-, -, -, -, e⟩ | ⟨-, -, -, -, e⟩ | ⟨h0, hem, hk, hkd, hl2, hl8, hd⟩
    · rw [e] at hi; exact absurd hi (Nat.not_lt_zero i)
    · subst e1
      subst e
      have hi0 : i = 0 := by
        have : [moL tr].length = 1 := rfl
        omega
      subst hi0
      have hm : moL (takeF tr (moL tr) 2) = moL tr := takeF_moL Sb.rf
      have hne : emB (takeF tr (moL tr) 2) (takeF tr (moL tr) 2).length = false := em_noE.mpr (takeF_noE (by decide))
      have hp := popc_pos1 hu (by omega)
      have hq := h1 h0 hem
      refine dp_ok f (takeF tr (moL tr) 2) (takeF_goodM hg) (by omega) (fun _ h => ?_) (fun _ => ?_)
      · rw [hne] at h; cases h
      · rw [hm]; omega
    · rw [e] at hi; exact absurd hi (Nat.not_lt_zero i)
    · rw [e] at hi; exact absurd hi (Nat.not_lt_zero i)
    · have hm := child_moL (kd := kd) hd hi
      have hlt := dp_lt hd hu hl2 hi
      have hq := h2 h0
      have hp : 1 ≤ popc (gd ps i) := popc_pos1 (by
        have := hd.1 i hi
        exact lt_of_bits (k := 8) (fun y hy => by
          cases q : (gd ps i).testBit y
          · rfl
          · have := bit8 hu (this.2 y q); omega)) (hd.1 i hi).1
      refine dp_ok f (takeF tr (gd ps i) kd) (takeF_goodM hg) (by omega) (fun _ _ => ?_) (fun _ => ?_)
      · rw [hm]; omega
      · rw [hm]; omega
theorem dp_root {tr : List (List Nat)} (hg : GoodM tr) : dpOk 16 tr := by
  have hp := popc_le8 (show moL tr < 256 from lbL_lt hg.1.1)
  exact dp_ok 16 tr hg (by decide) (fun _ _ => by omega) (fun _ => by omega)
theorem noE65 {tr : List (List Nat)} (hg : GoodN tr) (h : NoE tr) : tr.length ≤ 65 := by
  have h1 := noE_len h
  have h2 := hg.2
  omega
theorem child65 {tr : List (List Nat)} {kd part : Nat} (hg : GoodN tr) (h : tr.length ≤ 65) : (takeF tr part kd).length ≤ 65 := by
  by_cases h5 : kd = 5
  · exact noE65 (takeF_goodN hg) (takeF_noE (by omega))
  · exact Nat.le_trans (takeF_len h5) h
theorem opC_le {tr : List (List Nat)} {kd part : Nat} (hg : GoodN tr) (h : tr.length ≤ 65) : opC tr kd part ≤ 67 := by
  have := child65 (kd := 5) (part := part) hg h
  unfold opC
  split <;> omega
theorem opS_le {tr : List (List Nat)} {kd part : Nat} (hg : GoodN tr) (h : tr.length ≤ 65) : opS tr kd part ≤ 977 := by
  have h1 := child65 (kd := 5) (part := part) hg h
  have h2 := takeF_totle (tr := tr) (part := part) (kind := 5)
  have h3 := takeF_totle (tr := tr) (part := part) (kind := kd)
  have h4 := hg.1.1.2.2
  unfold opS
  split <;> omega
theorem opS2_le {tr : List (List Nat)} {part : Nat} (hg : GoodN tr) (h : tr.length ≤ 65) : opS tr 2 part ≤ 250 := by
  have h3 := takeF_totle (tr := tr) (part := part) (kind := 2)
  have h4 := hg.1.1.2.2
  unfold opS
  rw [if_neg (by decide)]
  omega
theorem small_of {u i : Nat} {ps : List Nat} (h : DP u ps) (hu : u < 256) (hi : i < ps.length) : 1 ≤ popc (gd ps i) :=
  popc_pos1 (lt_of_bits (k := 8) (fun y hy => by
    cases q : (gd ps i).testBit y
    · rfl
    · have := bit8 hu ((h.1 i hi).2 y q); omega)) (h.1 i hi).1
theorem cost_C : ∀ (f : Nat) (tr : List (List Nat)), GoodN tr → tr.length ≤ 65 → moL tr ≠ 0 → (emB tr tr.length = false → cC f tr + 304 ≤ 316 * popc (moL tr)) ∧ cC f tr + 225 ≤ 316 * popc (moL tr)
  | 0, tr, hg, _, h0 => by
    have hu : moL tr < 256 := lbL_lt hg.1.1.1
    have hp := popc_pos1 hu (by omega)
    have e : cC 0 tr = 0 := rfl
    omega
  | f + 1, tr, hg, h65, h0 => by
    have hu : moL tr < 256 := lbL_lt hg.1.1.1
    have hp := popc_pos1 hu (by omega)
    have hD := cutD hg.1
    have e : cC (f + 1) tr = 12 + csC (cC f) tr (cutT tr).1 (cutT tr).2 (cutT tr).2.length := rfl
    rw [e]
    generalize (cutT tr).1 = kd at hD
    generalize (cutT tr).2 = ps at hD
    rcases hD with ⟨h, -, -⟩ | ⟨-, hem, e1, e⟩ | ⟨-, -, -, -, e⟩ | ⟨-, -, -, -, e⟩ | ⟨-, hem, hk, hkd, hl2, hl8, hd⟩
    · exact absurd h h0
    · subst e1
      subst e
      have hm : moL (takeF tr (moL tr) 2) = moL tr := takeF_moL Sb.rf
      have hne : emB (takeF tr (moL tr) 2) (takeF tr (moL tr) 2).length = false := em_noE.mpr (takeF_noE (by decide))
      have ih := (cost_C f (takeF tr (moL tr) 2) (takeF_goodN hg) (child65 hg h65) (by rw [hm]; exact h0)).1 hne
      rw [hm] at ih
      have ho := opC_le (kd := 2) (part := moL tr) hg h65
      have e2 : csC (cC f) tr 2 [moL tr] [moL tr].length = 0 + (opC tr 2 (moL tr) + cC f (takeF tr (moL tr) 2)) := rfl
      rw [e2, hem]
      exact ⟨fun h => (by cases h), by omega⟩
    · rw [e]
      have e2 : csC (cC f) tr kd [] ([] : List Nat).length = 0 := rfl
      omega
    · rw [e]
      have e2 : csC (cC f) tr kd [] ([] : List Nat).length = 0 := rfl
      omega
    · have hs : ∀ k, k ≤ ps.length → csC (cC f) tr kd ps k + 158 * k ≤ 316 * smP ps k := by
        intro k
        induction k with
        | zero => exact fun _ => Nat.le_refl _
        | succ k ih =>
          intro hk
          have i1 := ih (by omega)
          have hm := child_moL (kd := kd) hd (show k < ps.length by omega)
          have hpos := (hd.1 k (by omega)).1
          have i2 := (cost_C f (takeF tr (gd ps k) kd) (takeF_goodN hg) (child65 hg h65) (by rw [hm]; omega)).2
          rw [hm] at i2
          have ho := opC_le (kd := kd) (part := gd ps k) hg h65
          have e1 : csC (cC f) tr kd ps (k + 1) = csC (cC f) tr kd ps k + (opC tr kd (gd ps k) + cC f (takeF tr (gd ps k) kd)) := rfl
          have e2 : smP ps (k + 1) = smP ps k + popc (gd ps k) := rfl
          rw [e1, e2]
          omega
      have h9 := hs ps.length (Nat.le_refl _)
      rw [dp_sum hd hu] at h9
      omega
set_option maxRecDepth 100000 in
theorem cost_S : ∀ (f : Nat) (tr : List (List Nat)), GoodN tr → tr.length ≤ 65 → moL tr ≠ 0 → (emB tr tr.length = false → cS f tr + 2742 ≤ 2838 * popc (moL tr)) ∧ cS f tr + 2396 ≤ 2838 * popc (moL tr)
  | 0, tr, hg, _, h0 => by
    have hu : moL tr < 256 := lbL_lt hg.1.1.1
    have hp := popc_pos1 hu (by omega)
    have e : cS 0 tr = 0 := rfl
    omega
  | f + 1, tr, hg, h65, h0 => by
    have hu : moL tr < 256 := lbL_lt hg.1.1.1
    have hp := popc_pos1 hu (by omega)
    have hD := cutD hg.1
    have e : cS (f + 1) tr = 96 + csS (cS f) tr (cutT tr).1 (cutT tr).2 (cutT tr).2.length := rfl
    rw [e]
    generalize (cutT tr).1 = kd at hD
    generalize (cutT tr).2 = ps at hD
    rcases hD with ⟨h, -, -⟩ | ⟨-, hem, e1, e⟩ | ⟨-, -, -, -, e⟩ | ⟨-, -, -, -, e⟩ | ⟨-, hem, hk, hkd, hl2, hl8, hd⟩
    · exact absurd h h0
    · subst e1
      subst e
      have hm : moL (takeF tr (moL tr) 2) = moL tr := takeF_moL Sb.rf
      have hne : emB (takeF tr (moL tr) 2) (takeF tr (moL tr) 2).length = false := em_noE.mpr (takeF_noE (by decide))
      have ih := (cost_S f (takeF tr (moL tr) 2) (takeF_goodN hg) (child65 hg h65) (by rw [hm]; exact h0)).1 hne
      rw [hm] at ih
      have ho := opS2_le (part := moL tr) hg h65
      have e2 : csS (cS f) tr 2 [moL tr] [moL tr].length = 0 + (opS tr 2 (moL tr) + cS f (takeF tr (moL tr) 2)) := rfl
      rw [e2, hem]
      exact ⟨fun h => (by cases h), by omega⟩
    · rw [e]
      have e2 : csS (cS f) tr kd [] ([] : List Nat).length = 0 := rfl
      omega
    · rw [e]
      have e2 : csS (cS f) tr kd [] ([] : List Nat).length = 0 := rfl
      omega
    · have hs : ∀ k, k ≤ ps.length → csS (cS f) tr kd ps k + 1419 * k ≤ 2838 * smP ps k := by
        intro k
        induction k with
        | zero => exact fun _ => Nat.le_refl _
        | succ k ih =>
          intro hk
          have i1 := ih (by omega)
          have hm := child_moL (kd := kd) hd (show k < ps.length by omega)
          have hpos := (hd.1 k (by omega)).1
          have i2 := (cost_S f (takeF tr (gd ps k) kd) (takeF_goodN hg) (child65 hg h65) (by rw [hm]; omega)).2
          rw [hm] at i2
          have ho := opS_le (kd := kd) (part := gd ps k) hg h65
          have e1 : csS (cS f) tr kd ps (k + 1) = csS (cS f) tr kd ps k + (opS tr kd (gd ps k) + cS f (takeF tr (gd ps k) kd)) := rfl
          have e2 : smP ps (k + 1) = smP ps k + popc (gd ps k) := rfl
          rw [e1, e2]
          omega
      have h9 := hs ps.length (Nat.le_refl _)
      rw [dp_sum hd hu] at h9
      omega
set_option maxRecDepth 100000 in
theorem cost_root {f : Nat} {tr : List (List Nat)} (hg : GoodN tr) (h65 : tr.length ≤ 65) : cC (f + 1) tr ≤ 2303 ∧ cS (f + 1) tr ≤ 20308 := by
  by_cases h0 : moL tr = 0
  · have q := cutQ hg.1
    have hc : cutM tr = (0, []) := by unfold cutM; rw [if_pos h0]
    rw [cC_cut q hc, cS_cut q hc]
    have e1 : csC (cC f) tr 0 [] ([] : List Nat).length = 0 := rfl
    have e2 : csS (cS f) tr 0 [] ([] : List Nat).length = 0 := rfl
    omega
  · have hp := popc_le8 (show moL tr < 256 from lbL_lt hg.1.1.1)
    have h1 := (cost_C (f + 1) tr hg h65 h0).2
    have h2 := (cost_S (f + 1) tr hg h65 h0).2
    omega
theorem lgOf_goodN {A : Nat → Nat → Nat} {S : Nat → Nat} (hok : MnOk A S) : GoodN (lgOf A S) ∧ (lgOf A S).length ≤ 65 := by
  obtain ⟨-, g2, g3⟩ := lgN_ok hok hok.2.1
  have h5 := hok.2.1
  have e : lgN A (S 5) = lgOf A S := rfl
  rw [e] at g2 g3
  exact ⟨⟨lgOf_goodM hok, by omega⟩, by omega⟩
end BND1
