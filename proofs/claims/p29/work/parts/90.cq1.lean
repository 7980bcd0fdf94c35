section CQ1
theorem uT_lbI (u : Nat) (t : List Nat) (k : Nat) : uT u t k = lbI t u k := rfl
theorem mL0_lab {f0 : Nat → Nat} {tr : List (List Nat)} : ∀ k, (mL0 f0 tr k).1 = lbL tr k ∧ (mL0 f0 tr k).2.1 = egL tr false k ∧ (mL0 f0 tr k).2.2.1 = egL tr true k ∧ ((mL0 f0 tr k).2.2.2.1 = if emB tr k then 1 else 0) ∧ (mL0 f0 tr k).2.2.2.2 = it (fun t r => nxT r (tr.getD t []) ((tr.getD t []).length - 1)) f0 k
  | 0 => ⟨rfl, rfl, rfl, rfl, rfl⟩
  | k + 1 => by
    obtain ⟨h1, h2, h3, h4, h5⟩ := mL0_lab (f0 := f0) (tr := tr) k
    have e0 : mL0 f0 tr (k + 1) = mT (mL0 f0 tr k) (tr.getD k []) := rfl
    have e1 : lbL tr (k + 1) = lbI (tr.getD k []) (lbL tr k) (tr.getD k []).length := rfl
    have e2 : egL tr false (k + 1) = if 0 < (tr.getD k []).length then egL tr false k ||| 2 ^ gd (tr.getD k []) 0 else egL tr false k := rfl
    have e3 : egL tr true (k + 1) = if 0 < (tr.getD k []).length then egL tr true k ||| 2 ^ gd (tr.getD k []) ((tr.getD k []).length - 1) else egL tr true k := rfl
    have e4 : emB tr (k + 1) = (emB tr k || decide ((tr.getD k []).length = 0)) := rfl
    rw [e0, e1, e2, e3, e4, it_s, ← h5]
    unfold mT
    by_cases h : (tr.getD k []).length = 0
    · rw [if_pos h, if_neg (by omega), if_neg (by omega), decide_eq_true h, Bool.or_true, h]
      exact ⟨h1, h2, h3, rfl, rfl⟩
    · rw [if_neg h, if_pos (by omega), if_pos (by omega), decide_eq_false h, Bool.or_false]
      exact ⟨by rw [uT_lbI, h1], by dsimp only; rw [h2], by dsimp only; rw [h3], h4, rfl⟩
theorem mL_eq (tr : List (List Nat)) : (mL tr).1 = moL tr ∧ (mL tr).2.1 = moB tr ∧ (mL tr).2.2.1 = moE tr ∧ ((mL tr).2.2.2.1 = if emB tr tr.length then 1 else 0) ∧ (mL tr).2.2.2.2 = moF tr := mL0_lab tr.length
theorem em_iff (tr : List (List Nat)) : 0 < (mL tr).2.2.2.1 ↔ emB tr tr.length = true := by
  rw [(mL_eq tr).2.2.2.1]
  cases emB tr tr.length
  · exact ⟨fun h => absurd h (by decide), fun h => by cases h⟩
  · exact ⟨fun _ => rfl, fun _ => by decide⟩
/-! which label stands where: bits of the folds -/
theorem lbI_bit {w : List Nat} {s i : Nat} : ∀ k, ((lbI w s k).testBit i = true ↔ s.testBit i = true ∨ ∃ j, j < k ∧ gd w j = i)
  | 0 => ⟨fun h => Or.inl h, fun h => h.elim id (fun ⟨j, hj, _⟩ => absurd hj (Nat.not_lt_zero j))⟩
  | k + 1 => by
    have e : lbI w s (k + 1) = lbI w s k ||| 2 ^ gd w k := rfl
    rw [e, Nat.testBit_or, Bool.or_eq_true, lbI_bit k, pow_bit, decide_eq_true_iff]
    constructor
    · rintro ((h | ⟨j, h1, h2⟩) | h)
      · exact Or.inl h
      · exact Or.inr ⟨j, by omega, h2⟩
      · exact Or.inr ⟨k, by omega, h⟩
    · rintro (h | ⟨j, h1, h2⟩)
      · exact Or.inl (Or.inl h)
      · by_cases ej : j = k
        · subst ej; exact Or.inr h2
        · exact Or.inl (Or.inr ⟨j, by omega, h2⟩)
theorem lbL_bit {tr : List (List Nat)} {i : Nat} : ∀ k, ((lbL tr k).testBit i = true ↔ ∃ t j, t < k ∧ j < (tr.getD t []).length ∧ gd (tr.getD t []) j = i)
  | 0 => ⟨fun h => (by rw [show lbL tr 0 = 0 from rfl, Nat.zero_testBit] at h; cases h), fun ⟨t, _, h, _⟩ => absurd h (Nat.not_lt_zero t)⟩
  | k + 1 => by
    have e : lbL tr (k + 1) = lbI (tr.getD k []) (lbL tr k) (tr.getD k []).length := rfl
    rw [e, lbI_bit, lbL_bit k]
    constructor
    · rintro (⟨t, j, h1, h2, h3⟩ | ⟨j, h2, h3⟩)
      · exact ⟨t, j, by omega, h2, h3⟩
      · exact ⟨k, j, by omega, h2, h3⟩
    · rintro ⟨t, j, h1, h2, h3⟩
      by_cases et : t = k
      · subst et; exact Or.inr ⟨j, h2, h3⟩
      · exact Or.inl ⟨t, j, by omega, h2, h3⟩
theorem nxT_bit {f : Nat → Nat} {w : List Nat} {x i : Nat} : ∀ k, ((nxT f w k x).testBit i = true ↔ (f x).testBit i = true ∨ ∃ j, j < k ∧ gd w j = x ∧ gd w (j + 1) = i)
  | 0 => ⟨fun h => Or.inl h, fun h => h.elim id (fun ⟨j, hj, _⟩ => absurd hj (Nat.not_lt_zero j))⟩
  | k + 1 => by
    have e : nxT f w (k + 1) = upN (nxT f w k) (gd w k) (nxT f w k (gd w k) ||| 2 ^ gd w (k + 1)) := rfl
    rw [e]
    by_cases hx : x = gd w k
    · subst hx
      rw [upN_s, Nat.testBit_or, Bool.or_eq_true, nxT_bit k, pow_bit, decide_eq_true_iff]
      constructor
      · rintro ((h | ⟨j, h1, h2, h3⟩) | h)
        · exact Or.inl h
        · exact Or.inr ⟨j, by omega, h2, h3⟩
        · exact Or.inr ⟨k, by omega, rfl, h⟩
      · rintro (h | ⟨j, h1, h2, h3⟩)
        · exact Or.inl (Or.inl h)
        · by_cases ej : j = k
          · subst ej; exact Or.inr h3
          · exact Or.inl (Or.inr ⟨j, by omega, h2, h3⟩)
    · rw [upN_n hx, nxT_bit k]
      constructor
      · rintro (h | ⟨j, h1, h2, h3⟩)
        · exact Or.inl h
        · exact Or.inr ⟨j, by omega, h2, h3⟩
      · rintro (h | ⟨j, h1, h2, h3⟩)
        · exact Or.inl h
        · by_cases ej : j = k
          · subst ej; exact absurd h2.symm hx
          · exact Or.inr ⟨j, by omega, h2, h3⟩
theorem foL_bit {tr : List (List Nat)} {x i : Nat} : ∀ k, ((foL tr k x).testBit i = true ↔ ∃ t j, t < k ∧ j + 1 < (tr.getD t []).length ∧ gd (tr.getD t []) j = x ∧ gd (tr.getD t []) (j + 1) = i)
  | 0 => ⟨fun h => (by rw [show foL tr 0 x = 0 from rfl, Nat.zero_testBit] at h; cases h), fun ⟨t, _, h, _⟩ => absurd h (Nat.not_lt_zero t)⟩
  | k + 1 => by
    have e : foL tr (k + 1) = nxT (foL tr k) (tr.getD k []) ((tr.getD k []).length - 1) := rfl
    rw [e, nxT_bit, foL_bit k]
    constructor
    · rintro (⟨t, j, h1, h2, h3⟩ | ⟨j, h2, h3⟩)
      · exact ⟨t, j, by omega, h2, h3⟩
      · exact ⟨k, j, by omega, by omega, h3⟩
    · rintro ⟨t, j, h1, h2, h3⟩
      by_cases et : t = k
      · subst et; exact Or.inr ⟨j, by omega, h3⟩
      · exact Or.inl ⟨t, j, by omega, h2, h3⟩
theorem egL_bit {tr : List (List Nat)} {e : Bool} {i : Nat} : ∀ k, ((egL tr e k).testBit i = true ↔ ∃ t, t < k ∧ 0 < (tr.getD t []).length ∧ gd (tr.getD t []) (if e then (tr.getD t []).length - 1 else 0) = i)
  | 0 => ⟨fun h => (by rw [show egL tr e 0 = 0 from rfl, Nat.zero_testBit] at h; cases h), fun ⟨t, h, _⟩ => absurd h (Nat.not_lt_zero t)⟩
  | k + 1 => by
    have h0 : egL tr e (k + 1) = if 0 < (tr.getD k []).length then egL tr e k ||| 2 ^ gd (tr.getD k []) (if e then (tr.getD k []).length - 1 else 0) else egL tr e k := rfl
    rw [h0]
    have ih := egL_bit (tr := tr) (e := e) (i := i) k
    by_cases h : 0 < (tr.getD k []).length
    · rw [if_pos h, Nat.testBit_or, Bool.or_eq_true, ih, pow_bit, decide_eq_true_iff]
      constructor
      · rintro (⟨t, h1, h2, h3⟩ | h3)
        · exact ⟨t, by omega, h2, h3⟩
        · exact ⟨k, by omega, h, h3⟩
      · rintro ⟨t, h1, h2, h3⟩
        by_cases et : t = k
        · subst et; exact Or.inr h3
        · exact Or.inl ⟨t, by omega, h2, h3⟩
    · rw [if_neg h, ih]
      constructor
      · rintro ⟨t, h1, h2, h3⟩
        exact ⟨t, by omega, h2, h3⟩
      · rintro ⟨t, h1, h2, h3⟩
        by_cases et : t = k
        · subst et; exact absurd h2 h
        · exact ⟨t, by omega, h2, h3⟩
/-! a label alone -/
theorem si_iff {tr : List (List Nat)} (hl : LabL tr) (hem : emB tr tr.length = false) : siB tr tr.length = !anyU (fun x => decide (moF tr x ≠ 0)) 8 := by
  unfold siB
  congr 1
  rw [Bool.eq_iff_iff, anyU_iff, anyU_iff]
  constructor
  · rintro ⟨t, h1, h2⟩
    have h2 : (tr.getD t []).length ≠ 1 := by simpa using h2
    have h0 : (tr.getD t []).length ≠ 0 := fun h => by
      have : emB tr tr.length = true := anyU_hit h1 (decide_eq_true h)
      rw [hem] at this; cases this
    refine ⟨gd (tr.getD t []) 0, hl t h1 0 (by omega), decide_eq_true (fun h => ?_)⟩
    have := (foL_bit (tr := tr) (x := gd (tr.getD t []) 0) (i := gd (tr.getD t []) 1) tr.length).mpr ⟨t, 0, h1, by omega, rfl, rfl⟩
    rw [show foL tr tr.length (gd (tr.getD t []) 0) = 0 from h, Nat.zero_testBit] at this
    cases this
  · rintro ⟨x, h1, h2⟩
    have h2 : moF tr x ≠ 0 := of_decide_eq_true h2
    obtain ⟨i, hi⟩ := Nat.exists_testBit_of_ne_zero h2
    obtain ⟨t, j, g1, g2, -⟩ := (foL_bit tr.length).mp hi
    refine ⟨t, g1, ?_⟩
    rw [Bool.not_eq_true', decide_eq_false_iff_not]
    omega
end CQ1
