section TF1
/-- some trace of a log has the label -/
def HasL (q : List (List Nat)) (x : Nat) : Prop := ∃ t j, t < q.length ∧ j < (q.getD t []).length ∧ gd (q.getD t []) j = x
def HasW (w : List Nat) (x : Nat) : Prop := ∃ j, j < w.length ∧ gd w j = x
theorem moL_iff {tr : List (List Nat)} {x : Nat} : (moL tr).testBit x = true ↔ HasL tr x := lbL_bit tr.length
theorem HasL_app {q : List (List Nat)} {w : List Nat} {x : Nat} : HasL (q ++ [w]) x ↔ HasL q x ∨ HasW w x := by
  constructor
  · rintro ⟨t, j, h1, h2, h3⟩
    rw [List.length_append, List.length_singleton] at h1
    rw [getD_app] at h2 h3
    by_cases e : t = q.length
    · rw [if_pos e] at h2 h3
      exact Or.inr ⟨j, h2, h3⟩
    · rw [if_neg e] at h2 h3
      exact Or.inl ⟨t, j, by omega, h2, h3⟩
  · rintro (⟨t, j, h1, h2, h3⟩ | ⟨j, h2, h3⟩)
    · refine ⟨t, j, by rw [List.length_append]; omega, ?_, ?_⟩
      · rw [getD_app, if_neg (by omega)]; exact h2
      · rw [getD_app, if_neg (by omega)]; exact h3
    · refine ⟨q.length, j, by rw [List.length_append]; show _ < _ + 1; omega, ?_, ?_⟩
      · rw [getD_app, if_pos rfl]; exact h2
      · rw [getD_app, if_pos rfl]; exact h3
theorem HasW_snoc {w : List Nat} {y x : Nat} : HasW (w ++ [y]) x ↔ HasW w x ∨ y = x := by
  constructor
  · rintro ⟨j, h1, h2⟩
    rw [List.length_append, List.length_singleton] at h1
    rw [gd_snoc] at h2
    by_cases e : j = w.length
    · rw [if_pos e] at h2
      exact Or.inr h2
    · rw [if_neg e] at h2
      exact Or.inl ⟨j, by omega, h2⟩
  · rintro (⟨j, h1, h2⟩ | h)
    · exact ⟨j, by rw [List.length_append]; omega, by rw [gd_snoc, if_neg (by omega)]; exact h2⟩
    · exact ⟨w.length, by rw [List.length_append]; show _ < _ + 1; omega, by rw [gd_snoc, if_pos rfl]; exact h⟩
theorem HasW_nil {x : Nat} : ¬ HasW [] x := fun ⟨_, h, _⟩ => absurd h (Nat.not_lt_zero _)
theorem tkT_has {part : Nat} {sp : Bool} {q : List (List Nat)} {w : List Nat} {x : Nat} : ∀ k, (HasL (tkT part sp (q, []) w k).1 x ∨ HasW (tkT part sp (q, []) w k).2 x) ↔ (HasL q x ∨ (part.testBit x = true ∧ ∃ j, j < k ∧ gd w j = x))
  | 0 => ⟨fun h => h.elim Or.inl (fun h => absurd h HasW_nil), fun h => h.elim Or.inl (fun h => absurd h.2 (fun ⟨_, h, _⟩ => absurd h (Nat.not_lt_zero _)))⟩
  | k + 1 => by
    have ih := tkT_has (part := part) (sp := sp) (q := q) (w := w) (x := x) k
    rw [tkT_s]
    generalize tkT part sp (q, []) w k = s at ih
    unfold tkS
    by_cases hb : part.testBit (gd w k) = true
    · rw [if_pos hb]
      dsimp only
      rw [HasW_snoc, ← or_assoc, ih]
      constructor
      · rintro ((h | ⟨h1, j, h2, h3⟩) | h)
        · exact Or.inl h
        · exact Or.inr ⟨h1, j, by omega, h3⟩
        · exact Or.inr ⟨by rw [← h]; exact hb, k, by omega, h⟩
      · rintro (h | ⟨h1, j, h2, h3⟩)
        · exact Or.inl (Or.inl h)
        · by_cases ej : j = k
          · subst ej; exact Or.inr h3
          · exact Or.inl (Or.inr ⟨h1, j, by omega, h3⟩)
    · rw [if_neg hb]
      have hrhs : (HasL q x ∨ (part.testBit x = true ∧ ∃ j, j < k + 1 ∧ gd w j = x)) ↔ (HasL q x ∨ (part.testBit x = true ∧ ∃ j, j < k ∧ gd w j = x)) := by
        constructor
        · rintro (h | ⟨h1, j, h2, h3⟩)
          · exact Or.inl h
          · by_cases ej : j = k
            · subst ej; rw [h3] at hb; exact absurd h1 hb
            · exact Or.inr ⟨h1, j, by omega, h3⟩
        · rintro (h | ⟨h1, j, h2, h3⟩)
          · exact Or.inl h
          · exact Or.inr ⟨h1, j, by omega, h3⟩
      rw [hrhs, ← ih]
      split
      · dsimp only
        rw [HasL_app]
        exact ⟨fun h => h.elim id (fun h => absurd h HasW_nil), fun h => Or.inl h⟩
      · exact Iff.rfl
theorem tkL_has {part : Nat} {sp keep : Bool} {q : List (List Nat)} {w : List Nat} {x : Nat} : HasL (tkL part sp keep q w) x ↔ (HasL q x ∨ (part.testBit x = true ∧ HasW w x)) := by
  have h := tkT_has (part := part) (sp := sp) (q := q) (w := w) (x := x) w.length
  unfold tkL
  split
  · rw [HasL_app]; exact h
  · rename_i hc
    have h0 : (tkT part sp (q, []) w w.length).2 = [] := by
      rw [Bool.or_eq_true, decide_eq_true_iff] at hc
      exact List.length_eq_zero_iff.mp (Decidable.not_not.mp (fun q => hc (Or.inr q)))
    rw [h0] at h
    exact ⟨fun q => h.mp (Or.inl q), fun q => (h.mpr q).elim id (fun q => absurd q HasW_nil)⟩
theorem takeF_has {tr : List (List Nat)} {part kind x : Nat} : HasL (takeF tr part kind) x ↔ (part.testBit x = true ∧ HasL tr x) := by
  have key : ∀ k, HasL (takeI part (decide (kind = 5)) (decide (kind = 3 ∨ kind = 4)) tr k) x ↔ (part.testBit x = true ∧ ∃ t, t < k ∧ HasW (tr.getD t []) x) := by
    intro k
    induction k with
    | zero => exact ⟨fun ⟨_, _, h, _⟩ => absurd h (Nat.not_lt_zero _), fun ⟨_, _, h, _⟩ => absurd h (Nat.not_lt_zero _)⟩
    | succ k ih =>
      have e : takeI part (decide (kind = 5)) (decide (kind = 3 ∨ kind = 4)) tr (k + 1) = tkL part (decide (kind = 5)) (decide (kind = 3 ∨ kind = 4)) (takeI part (decide (kind = 5)) (decide (kind = 3 ∨ kind = 4)) tr k) (tr.getD k []) := rfl
      rw [e, tkL_has, ih]
      constructor
      · rintro (⟨h1, t, h2, h3⟩ | ⟨h1, h3⟩)
        · exact ⟨h1, t, by omega, h3⟩
        · exact ⟨h1, k, by omega, h3⟩
      · rintro ⟨h1, t, h2, h3⟩
        by_cases et : t = k
        · subst et; exact Or.inr ⟨h1, h3⟩
        · exact Or.inl ⟨h1, t, by omega, h3⟩
  unfold takeF
  rw [key]
  exact ⟨fun ⟨h1, t, h2, j, h3, h4⟩ => ⟨h1, t, j, h2, h3, h4⟩, fun ⟨h1, t, j, h2, h3, h4⟩ => ⟨h1, t, h2, j, h3, h4⟩⟩
/-- the labels of a part's log are the part -/
theorem takeF_moL {tr : List (List Nat)} {part kind : Nat} (h : Sb part (moL tr)) : moL (takeF tr part kind) = part := by
  refine Sb.eq (fun x hx => ?_) (fun x hx => ?_)
  · exact (takeF_has.mp (moL_iff.mp hx)).1
  · exact moL_iff.mpr (takeF_has.mpr ⟨hx, moL_iff.mp (h x hx)⟩)
/-- no trace is empty -/
def NoE (q : List (List Nat)) : Prop := ∀ t, t < q.length → (q.getD t []).length ≠ 0
theorem em_noE {tr : List (List Nat)} : emB tr tr.length = false ↔ NoE tr := by
  constructor
  · intro h t ht h0
    have : emB tr tr.length = true := anyU_hit ht (decide_eq_true h0)
    rw [h] at this; cases this
  · intro h
    cases hq : emB tr tr.length
    · rfl
    · obtain ⟨t, h1, h2⟩ := anyU_iff.mp hq
      exact absurd (of_decide_eq_true h2) (h t h1)
theorem NoE.app {q : List (List Nat)} {w : List Nat} (h : NoE q) (hw : w.length ≠ 0) : NoE (q ++ [w]) := by
  intro t ht
  rw [List.length_append, List.length_singleton] at ht
  rw [getD_app]
  split
  · exact hw
  · exact h t (by omega)
theorem tkT_noE {part : Nat} {sp : Bool} {q : List (List Nat)} {w : List Nat} (h : NoE q) (k : Nat) : NoE (tkT part sp (q, []) w k).1 :=
  it_inv (f := fun i s => tkS part sp s (gd w i)) (s := (q, [])) (fun _ (s : List (List Nat) × List Nat) => NoE s.1) k h (fun i s _ hs => by
    unfold tkS
    split
    · exact hs
    · split
      · rename_i hc
        rw [Bool.and_eq_true, decide_eq_true_iff] at hc
        exact hs.app hc.2
      · exact hs)
theorem takeF_noE {tr : List (List Nat)} {part kind : Nat} (hk : kind ≠ 3 ∧ kind ≠ 4) : NoE (takeF tr part kind) :=
  it_inv (f := fun i q => tkL part (decide (kind = 5)) (decide (kind = 3 ∨ kind = 4)) q (tr.getD i [])) (s := []) (fun _ q => NoE q) tr.length (fun t ht => absurd ht (Nat.not_lt_zero t)) (fun i q _ hq => by
    have h1 := tkT_noE (part := part) (sp := decide (kind = 5)) (w := tr.getD i []) hq (tr.getD i []).length
    unfold tkL
    rw [decide_eq_false (show ¬ (kind = 3 ∨ kind = 4) by omega), Bool.false_or]
    split
    · rename_i hc
      exact h1.app (of_decide_eq_true hc)
    · exact h1)
end TF1
