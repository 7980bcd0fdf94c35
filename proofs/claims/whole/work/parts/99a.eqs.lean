section EQS
theorem rowD_app {l : List (List Nat)} {w : List Nat} {t : Nat} : (l ++ [w]).getD t [] = if t = l.length then w else l.getD t [] := by
  simp only [List.getD_eq_getElem?_getD]
  by_cases e : t = l.length
  · subst e; simp
  · rw [if_neg e]
    by_cases h : t < l.length
    · rw [List.getElem?_append_left h]
    · rw [List.getElem?_eq_none (by simp; omega), List.getElem?_eq_none (by omega)]
/-- the rows of the log are those of the stored traces with a time or more -/
theorem lgN_row {A : Nat → Nat → Nat} {P : List Nat → Prop} : ∀ k, ((∃ t, t < (lgN A k).length ∧ P ((lgN A k).getD t [])) ↔ ∃ t, t < k ∧ 0 < A 4 t ∧ P (rwL A t (A 3 t)))
  | 0 => ⟨fun ⟨t, h, _⟩ => absurd h (Nat.not_lt_zero t), fun ⟨t, h, _⟩ => absurd h (Nat.not_lt_zero t)⟩
  | k + 1 => by
    have e : lgN A (k + 1) = if 0 < A 4 k then lgN A k ++ [rwL A k (A 3 k)] else lgN A k := rfl
    have ih := lgN_row (A := A) (P := P) k
    rw [e]
    by_cases h : 0 < A 4 k
    · rw [if_pos h]
      constructor
      · rintro ⟨t, h1, h2⟩
        rw [List.length_append, List.length_singleton] at h1
        rw [rowD_app] at h2
        by_cases et : t = (lgN A k).length
        · rw [if_pos et] at h2; exact ⟨k, by omega, h, h2⟩
        · rw [if_neg et] at h2
          obtain ⟨t', g1, g2⟩ := ih.mp ⟨t, by omega, h2⟩
          exact ⟨t', by omega, g2⟩
      · rintro ⟨t, h1, h2, h3⟩
        by_cases et : t = k
        · subst et
          exact ⟨(lgN A t).length, by rw [List.length_append, List.length_singleton]; omega, by rw [rowD_app, if_pos rfl]; exact h3⟩
        · obtain ⟨t', g1, g2⟩ := ih.mpr ⟨t, by omega, h2, h3⟩
          exact ⟨t', by rw [List.length_append, List.length_singleton]; omega, by rw [rowD_app, if_neg (by omega)]; exact g2⟩
    · rw [if_neg h, ih]
      constructor
      · rintro ⟨t, h1, h2⟩; exact ⟨t, by omega, h2⟩
      · rintro ⟨t, h1, h2, h3⟩
        by_cases et : t = k
        · subst et; exact absurd h2 h
        · exact ⟨t, by omega, h2, h3⟩
/-! what follows what -/
theorem coI_cp {A : Nat → Nat → Nat} {t u v s : Nat} : ∀ m, coI (A 4) (A 2) u v t s m = s + A 4 t * cpF A t u v m
  | 0 => rfl
  | m + 1 => by
    have e1 : coI (A 4) (A 2) u v t s (m + 1) = coI (A 4) (A 2) u v t s m + (if A 2 (12 * t + (1 + m) - 1) = u then (if A 2 (12 * t + (1 + m)) = v then A 4 t else 0) else 0) := rfl
    have e2 : cpF A t u v (m + 1) = if A 2 (t * 12 + (1 + m) - 1) = u then (if A 2 (t * 12 + (1 + m)) = v then cpF A t u v m + 1 else cpF A t u v m) else cpF A t u v m := rfl
    rw [e1, e2, coI_cp m, Nat.mul_comm t 12]
    by_cases h1 : A 2 (12 * t + (1 + m) - 1) = u
    · rw [if_pos h1, if_pos h1]
      by_cases h2 : A 2 (12 * t + (1 + m)) = v
      · rw [if_pos h2, if_pos h2, Nat.mul_add, Nat.mul_one, Nat.add_assoc]
      · rw [if_neg h2, if_neg h2]; rfl
    · rw [if_neg h1, if_neg h1]; rfl
theorem fl_co {A : Nat → Nat → Nat} {u v : Nat} : ∀ k, flF A u v k = coF (A 4) (A 3) (A 2) u v k
  | 0 => rfl
  | k + 1 => by
    have e1 : flF A u v (k + 1) = flF A u v k + A 4 k * cpF A k u v (A 3 k - 1) := rfl
    have e2 : coF (A 4) (A 3) (A 2) u v (k + 1) = coI (A 4) (A 2) u v k (coF (A 4) (A 3) (A 2) u v k) (A 3 k - 1) := rfl
    rw [e1, e2, coI_cp, fl_co k]
theorem cp_pos {A : Nat → Nat → Nat} {t u v : Nat} : ∀ m, (0 < cpF A t u v m ↔ ∃ j, j < m ∧ A 2 (t * 12 + j) = u ∧ A 2 (t * 12 + (j + 1)) = v)
  | 0 => ⟨fun h => absurd h (Nat.lt_irrefl 0), fun ⟨j, h, _⟩ => absurd h (Nat.not_lt_zero j)⟩
  | m + 1 => by
    have e2 : cpF A t u v (m + 1) = if A 2 (t * 12 + (1 + m) - 1) = u then (if A 2 (t * 12 + (1 + m)) = v then cpF A t u v m + 1 else cpF A t u v m) else cpF A t u v m := rfl
    have ih := cp_pos (A := A) (t := t) (u := u) (v := v) m
    rw [show t * 12 + (1 + m) - 1 = t * 12 + m by omega, show t * 12 + (1 + m) = t * 12 + (m + 1) by omega] at e2
    have back : (∃ j, j < m ∧ A 2 (t * 12 + j) = u ∧ A 2 (t * 12 + (j + 1)) = v) → ∃ j, j < m + 1 ∧ A 2 (t * 12 + j) = u ∧ A 2 (t * 12 + (j + 1)) = v := fun ⟨j, h, h'⟩ => ⟨j, by omega, h'⟩
    have fwd : (¬ (A 2 (t * 12 + m) = u ∧ A 2 (t * 12 + (m + 1)) = v)) → (∃ j, j < m + 1 ∧ A 2 (t * 12 + j) = u ∧ A 2 (t * 12 + (j + 1)) = v) → ∃ j, j < m ∧ A 2 (t * 12 + j) = u ∧ A 2 (t * 12 + (j + 1)) = v := by
      rintro hn ⟨j, h, h1⟩
      by_cases ej : j = m
      · subst ej; exact absurd h1 hn
      · exact ⟨j, by omega, h1⟩
    rw [e2]
    by_cases h1 : A 2 (t * 12 + m) = u
    · rw [if_pos h1]
      by_cases h2 : A 2 (t * 12 + (m + 1)) = v
      · rw [if_pos h2]
        exact ⟨fun _ => ⟨m, by omega, h1, h2⟩, fun _ => by omega⟩
      · rw [if_neg h2, ih]
        exact ⟨back, fwd (fun h => h2 h.2)⟩
    · rw [if_neg h1, ih]
      exact ⟨back, fwd (fun h => h1 h.1)⟩
theorem fl_pos {A : Nat → Nat → Nat} {u v : Nat} : ∀ k, (0 < flF A u v k ↔ ∃ t, t < k ∧ 0 < A 4 t ∧ 0 < cpF A t u v (A 3 t - 1))
  | 0 => ⟨fun h => absurd h (Nat.lt_irrefl 0), fun ⟨j, h, _⟩ => absurd h (Nat.not_lt_zero j)⟩
  | k + 1 => by
    have e1 : flF A u v (k + 1) = flF A u v k + A 4 k * cpF A k u v (A 3 k - 1) := rfl
    have ih := fl_pos (A := A) (u := u) (v := v) k
    rw [e1]
    constructor
    · intro h
      by_cases h1 : 0 < flF A u v k
      · obtain ⟨t, g1, g2⟩ := ih.mp h1
        exact ⟨t, by omega, g2⟩
      · have h2 : 0 < A 4 k * cpF A k u v (A 3 k - 1) := by omega
        exact ⟨k, by omega, Nat.pos_of_ne_zero (fun e => by rw [e, Nat.zero_mul] at h2; omega), Nat.pos_of_ne_zero (fun e => by rw [e, Nat.mul_zero] at h2; omega)⟩
    · rintro ⟨t, h1, h2, h3⟩
      by_cases et : t = k
      · subst et
        have := Nat.mul_pos h2 h3
        omega
      · have := ih.mpr ⟨t, by omega, h2, h3⟩
        omega
theorem mo_bit {A : Nat → Nat → Nat} {S : Nat → Nat} {u v : Nat} : (moF (lgOf A S) u).testBit v = true ↔ 0 < coF (A 4) (A 3) (A 2) u v (S 5) := by
  rw [← fl_co, fl_pos]
  unfold moF
  rw [foL_bit]
  have h := lgN_row (A := A) (P := fun w => ∃ j, j + 1 < w.length ∧ gd w j = u ∧ gd w (j + 1) = v) (S 5)
  constructor
  · rintro ⟨t, j, h1, h2⟩
    obtain ⟨t', g1, g2, j', g3, g4, g5⟩ := h.mp ⟨t, h1, j, h2⟩
    rw [rwL_len] at g3
    rw [rwL_gd (by omega)] at g4 g5
    exact ⟨t', g1, g2, (cp_pos _).mpr ⟨j', by omega, g4, g5⟩⟩
  · rintro ⟨t, h1, h2, h3⟩
    obtain ⟨j, g1, g2, g3⟩ := (cp_pos _).mp h3
    obtain ⟨t', k1, j', k2⟩ := h.mpr ⟨t, h1, h2, j, by rw [rwL_len]; omega, by rw [rwL_gd (by omega)]; exact g2, by rw [rwL_gd (by omega)]; exact g3⟩
    exact ⟨t', j', k1, k2⟩
theorem rel_eq {A R : Nat → Nat → Nat} {S Z : Nat → Nat} (h2 : R 2 = A 4) (h3 : R 3 = A 3) (h4 : R 4 = A 2) (hz : Z 3 = S 5) {u v : Nat} : relF (mL (lgOf A S)).2.2.2.2 u v = relM R Z u v := by
  rw [(mL_eq (lgOf A S)).2.2.2.2]
  unfold relF relM
  rw [h2, h3, h4, hz]
  congr 1
  · by_cases h : 0 < coF (A 4) (A 3) (A 2) u v (S 5)
    · rw [if_pos h, if_pos (mo_bit.mpr h)]
    · rw [if_neg h, if_neg (fun q => h (mo_bit.mp q))]
  · by_cases h : 0 < coF (A 4) (A 3) (A 2) v u (S 5)
    · rw [if_pos h, if_pos (mo_bit.mpr h)]
    · rw [if_neg h, if_neg (fun q => h (mo_bit.mp q))]
/-! labels and edges -/
theorem lbT_bit {tm tx : Nat → Nat} {t s i : Nat} : ∀ k, ((lbT tm tx t s k).testBit i = true ↔ s.testBit i = true ∨ (0 < tm t ∧ ∃ j, j < k ∧ tx (12 * t + j) = i))
  | 0 => ⟨fun h => Or.inl h, fun h => h.elim id (fun ⟨_, j, hj, _⟩ => absurd hj (Nat.not_lt_zero j))⟩
  | k + 1 => by
    have e : lbT tm tx t s (k + 1) = if 0 < tm t then lbT tm tx t s k ||| 2 ^ tx (12 * t + k) else lbT tm tx t s k := rfl
    have ih := lbT_bit (tm := tm) (tx := tx) (t := t) (s := s) (i := i) k
    rw [e]
    by_cases h : 0 < tm t
    · rw [if_pos h, Nat.testBit_or, Bool.or_eq_true, ih, pow_bit, decide_eq_true_iff]
      constructor
      · rintro ((g | ⟨-, j, h1, h2⟩) | g)
        · exact Or.inl g
        · exact Or.inr ⟨h, j, by omega, h2⟩
        · exact Or.inr ⟨h, k, by omega, g⟩
      · rintro (g | ⟨-, j, h1, h2⟩)
        · exact Or.inl (Or.inl g)
        · by_cases ej : j = k
          · subst ej; exact Or.inr h2
          · exact Or.inl (Or.inr ⟨h, j, by omega, h2⟩)
    · rw [if_neg h, ih]
      exact ⟨fun g => g.elim Or.inl (fun q => absurd q.1 h), fun g => g.elim Or.inl (fun q => absurd q.1 h)⟩
theorem lbM_bit {tm ln tx : Nat → Nat} {i : Nat} : ∀ k, ((lbM tm ln tx k).testBit i = true ↔ ∃ t, t < k ∧ 0 < tm t ∧ ∃ j, j < ln t ∧ tx (12 * t + j) = i)
  | 0 => ⟨fun h => (by rw [show lbM tm ln tx 0 = 0 from rfl, Nat.zero_testBit] at h; cases h), fun ⟨t, h, _⟩ => absurd h (Nat.not_lt_zero t)⟩
  | k + 1 => by
    have e : lbM tm ln tx (k + 1) = lbT tm tx k (lbM tm ln tx k) (ln k) := rfl
    rw [e, lbT_bit, lbM_bit k]
    constructor
    · rintro (⟨t, h1, h2⟩ | ⟨h1, h2⟩)
      · exact ⟨t, by omega, h2⟩
      · exact ⟨k, by omega, h1, h2⟩
    · rintro ⟨t, h1, h2, h3⟩
      by_cases et : t = k
      · subst et; exact Or.inr ⟨h2, h3⟩
      · exact Or.inl ⟨t, by omega, h2, h3⟩
theorem bits_eq {x y : Nat} (h : ∀ i, x.testBit i = true ↔ y.testBit i = true) : x = y := by
  apply Nat.eq_of_testBit_eq
  intro i
  rw [Bool.eq_iff_iff]
  exact h i
theorem lb_eq {A : Nat → Nat → Nat} {S : Nat → Nat} : (mL (lgOf A S)).1 = lbM (A 4) (A 3) (A 2) (S 5) := by
  rw [(mL_eq (lgOf A S)).1]
  refine bits_eq (fun i => ?_)
  unfold moL
  rw [lbL_bit, lbM_bit]
  have h := lgN_row (A := A) (P := fun w => ∃ j, j < w.length ∧ gd w j = i) (S 5)
  constructor
  · rintro ⟨t, j, h1, h2⟩
    obtain ⟨t', g1, g2, j', g3, g4⟩ := h.mp ⟨t, h1, j, h2⟩
    rw [rwL_len] at g3
    rw [rwL_gd g3, Nat.mul_comm] at g4
    exact ⟨t', g1, g2, j', g3, g4⟩
  · rintro ⟨t, h1, h2, j, h3, h4⟩
    obtain ⟨t', k1, j', k2⟩ := h.mpr ⟨t, h1, h2, j, by rw [rwL_len]; exact h3, by rw [rwL_gd h3, Nat.mul_comm]; exact h4⟩
    exact ⟨t', j', k1, k2⟩
theorem edM_bit {tm ln tx : Nat → Nat} {e : Bool} {i : Nat} : ∀ k, ((edM tm ln tx e k).testBit i = true ↔ ∃ t, t < k ∧ 0 < tm t ∧ 0 < ln t ∧ tx (12 * t + (if e then ln t - 1 else 0)) = i)
  | 0 => ⟨fun h => (by rw [show edM tm ln tx e 0 = 0 from rfl, Nat.zero_testBit] at h; cases h), fun ⟨t, h, _⟩ => absurd h (Nat.not_lt_zero t)⟩
  | k + 1 => by
    have e1 : edM tm ln tx e (k + 1) = if 0 < tm k then (if 0 < ln k then edM tm ln tx e k ||| 2 ^ tx (12 * k + (if e then ln k - 1 else 0)) else edM tm ln tx e k) else edM tm ln tx e k := rfl
    have ih := edM_bit (tm := tm) (ln := ln) (tx := tx) (e := e) (i := i) k
    have skip : ¬ (0 < tm k ∧ 0 < ln k) → ((∃ t, t < k ∧ 0 < tm t ∧ 0 < ln t ∧ tx (12 * t + (if e then ln t - 1 else 0)) = i) ↔ ∃ t, t < k + 1 ∧ 0 < tm t ∧ 0 < ln t ∧ tx (12 * t + (if e then ln t - 1 else 0)) = i) := by
      intro hn
      constructor
      · rintro ⟨t, h1, h2⟩; exact ⟨t, by omega, h2⟩
      · rintro ⟨t, h1, h2, h3, h4⟩
        by_cases et : t = k
        · subst et; exact absurd ⟨h2, h3⟩ hn
        · exact ⟨t, by omega, h2, h3, h4⟩
    rw [e1]
    by_cases h : 0 < tm k
    · rw [if_pos h]
      by_cases h2 : 0 < ln k
      · rw [if_pos h2, Nat.testBit_or, Bool.or_eq_true, ih, pow_bit, decide_eq_true_iff]
        constructor
        · rintro (⟨t, g1, g2⟩ | g)
          · exact ⟨t, by omega, g2⟩
          · exact ⟨k, by omega, h, h2, g⟩
        · rintro ⟨t, g1, g2, g3, g4⟩
          by_cases et : t = k
          · subst et; exact Or.inr g4
          · exact Or.inl ⟨t, by omega, g2, g3, g4⟩
      · rw [if_neg h2, ih]
        exact skip (fun q => h2 q.2)
    · rw [if_neg h, ih]
      exact skip (fun q => h q.1)
theorem ed_eq {A : Nat → Nat → Nat} {S : Nat → Nat} {e : Bool} : (if e then (mL (lgOf A S)).2.2.1 else (mL (lgOf A S)).2.1) = edM (A 4) (A 3) (A 2) e (S 5) := by
  have h0 : (if e then (mL (lgOf A S)).2.2.1 else (mL (lgOf A S)).2.1) = egL (lgOf A S) e (lgOf A S).length := by
    rw [(mL_eq (lgOf A S)).2.1, (mL_eq (lgOf A S)).2.2.1]
    cases e <;> rfl
  rw [h0]
  refine bits_eq (fun i => ?_)
  rw [egL_bit, edM_bit]
  have h := lgN_row (A := A) (P := fun w => 0 < w.length ∧ gd w (if e then w.length - 1 else 0) = i) (S 5)
  have hin : ∀ n : Nat, 0 < n → (if e then n - 1 else 0) < n := fun n hn => by split <;> omega
  constructor
  · rintro ⟨t, h1, h2⟩
    obtain ⟨t', g1, g2, g3, g4⟩ := h.mp ⟨t, h1, h2⟩
    rw [rwL_len] at g3 g4
    rw [rwL_gd (hin _ g3), Nat.mul_comm] at g4
    exact ⟨t', g1, g2, g3, g4⟩
  · rintro ⟨t, h1, h2, h3, h4⟩
    exact h.mpr ⟨t, h1, h2, by rw [rwL_len]; exact h3, by rw [rwL_len, rwL_gd (hin _ h3), Nat.mul_comm]; exact h4⟩
/-! variants and the digest -/
theorem rw_eq {A : Nat → Nat → Nat} {t : Nat} : rwM (A 3) (A 2) t = rwT A t := by
  unfold rwM rwT rwL
  rw [Nat.mul_comm]
theorem rep_eq {A : Nat → Nat → Nat} {t : Nat} : ∀ k, repF A t k = rpM (A 4) (A 3) (A 2) t k
  | 0 => rfl
  | k + 1 => by
    have e1 : repF A t (k + 1) = (repF A t k || (decide (0 < A 4 k) && decide (rwT A k = rwT A t))) := rfl
    have e2 : rpM (A 4) (A 3) (A 2) t (k + 1) = (rpM (A 4) (A 3) (A 2) t k || (decide (0 < A 4 k) && decide (rwM (A 3) (A 2) k = rwM (A 3) (A 2) t))) := rfl
    rw [e1, e2, rep_eq k, rw_eq, rw_eq]
theorem va_eq {A : Nat → Nat → Nat} : ∀ k, vaF A k = vaM (A 4) (A 3) (A 2) k
  | 0 => rfl
  | k + 1 => by
    have e1 : vaF A (k + 1) = if 0 < A 4 k then (if repF A k k then vaF A k else vaF A k + 1) else vaF A k := rfl
    have e2 : vaM (A 4) (A 3) (A 2) (k + 1) = vaM (A 4) (A 3) (A 2) k + (if (decide (0 < A 4 k) && !rpM (A 4) (A 3) (A 2) k k) then 1 else 0) := rfl
    rw [e1, e2, va_eq k, rep_eq]
    by_cases h : 0 < A 4 k
    · rw [if_pos h, decide_eq_true h]
      cases rpM (A 4) (A 3) (A 2) k k <;> rfl
    · rw [if_neg h, decide_eq_false h]
      rfl
theorem dg2_eq {A R : Nat → Nat → Nat} {S Z : Nat → Nat} (hv : Vw R Z A S) : ∀ k, dg2 A S k = mg2 R Z k
  | 0 => by
    obtain ⟨v1, v4, v3, v2, z1, z3, z7⟩ := hv
    show dg1 A S = mg1 R Z
    unfold dg1 mg1
    rw [v1, z1, z3]
  | k + 1 => by
    have ih := dg2_eq hv k
    obtain ⟨v1, v4, v3, v2, z1, z3, z7⟩ := hv
    have e1 : dg2 A S (k + 1) = dgS A k (dg2 A S k) := rfl
    have e2 : mg2 R Z (k + 1) = mgS R k (mg2 R Z k) := rfl
    rw [e1, e2, ih]
    unfold dgS mgS
    rw [v4, v2, v3, Nat.mul_comm]
theorem dg_eq {A R : Nat → Nat → Nat} {S Z : Nat → Nat} {nd : List Nd} (hv : Vw R Z A S) : dgF A S nd = mgF R Z nd := by
  have h2 := dg2_eq hv
  have z3 := hv.2.2.2.2.2.1
  have z7 := hv.2.2.2.2.2.2
  unfold dgF mgF dg3 mg3
  rw [h2, z3, z7]
end EQS
