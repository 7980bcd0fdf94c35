section PACC1
theorem mem_gd {t : List Nat} {x : Nat} (h : x ∈ t) : ∃ j, j < t.length ∧ gd t j = x := by
  obtain ⟨j, hj, e⟩ := List.mem_iff_getElem.mp h
  exact ⟨j, hj, by unfold gd; rw [List.getD_eq_getElem?_getD, List.getElem?_eq_getElem hj, Option.getD_some, e]⟩
theorem gd_at {a b : List Nat} {x : Nat} : gd (a ++ x :: b) a.length = x := by
  unfold gd
  rw [List.getD_eq_getElem?_getD, List.getElem?_append_right (Nat.le_refl _), Nat.sub_self]; rfl
theorem mem_lab {tr : List (List Nat)} {t : List Nat} {x : Nat} (h : t ∈ tr) (hx : x ∈ t) : (moL tr).testBit x = true := by
  obtain ⟨i, hi, e⟩ := mem_at h
  obtain ⟨j, hj, e2⟩ := mem_gd hx
  exact moL_iff.mpr ⟨i, j, hi, by rw [e]; exact hj, by rw [e]; exact e2⟩
theorem no_em {tr : List (List Nat)} {t : List Nat} (h : t ∈ tr) (hem : emB tr tr.length = false) : t ≠ [] := by
  obtain ⟨i, hi, e⟩ := mem_at h
  intro h0
  have := em_noE.mp hem i hi
  rw [e, h0] at this
  exact this rfl
theorem fol_of {tr : List (List Nat)} {t a b : List Nat} {x y : Nat} (h : t ∈ tr) (e : t = a ++ x :: y :: b) : (moF tr x).testBit y = true := by
  obtain ⟨i, hi, e1⟩ := mem_at h
  refine (foL_bit tr.length).mpr ⟨i, a.length, hi, ?_, ?_, ?_⟩
  · rw [e1, e, List.length_append, List.length_cons, List.length_cons]; omega
  · rw [e1, e]; exact gd_at
  · have : gd ((a ++ [x]) ++ y :: b) (a ++ [x]).length = y := gd_at
    rw [List.length_append, List.length_singleton, List.append_assoc] at this
    rw [e1, e]; exact this
theorem beg_of {tr : List (List Nat)} {t b : List Nat} {x : Nat} (h : t ∈ tr) (e : t = x :: b) : (moB tr).testBit x = true := by
  obtain ⟨i, hi, e1⟩ := mem_at h
  refine (egL_bit tr.length).mpr ⟨i, hi, ?_, ?_⟩
  · rw [e1, e, List.length_cons]; omega
  · rw [e1, e, if_neg Bool.false_ne_true]; rfl
theorem end_of {tr : List (List Nat)} {t a : List Nat} {x : Nat} (h : t ∈ tr) (e : t = a ++ [x]) : (moE tr).testBit x = true := by
  obtain ⟨i, hi, e1⟩ := mem_at h
  refine (egL_bit tr.length).mpr ⟨i, hi, ?_, ?_⟩
  · rw [e1, e, List.length_append, List.length_singleton]; omega
  · rw [e1, e, if_pos rfl, List.length_append, List.length_singleton, Nat.add_sub_cancel]; exact gd_at
theorem chain {t : List Nat} {P : Nat → Prop} (hs : ∀ a x y b, t = a ++ x :: y :: b → P x → P y) : ∀ (b a : List Nat) (x : Nat), t = a ++ x :: b → P x → ∀ y, y ∈ x :: b → P y
  | [], _, x, _, hx, y, hy => by rw [List.mem_singleton.mp hy]; exact hx
  | z :: b, a, x, e, hx, y, hy => by
    rcases List.mem_cons.mp hy with rfl | hy
    · exact hx
    · exact chain hs b (a ++ [x]) z (by rw [e, List.append_assoc]; rfl) (hs a x z b e hx) y hy
/-- a label leads to all behind it -/
theorem lead_of {tr : List (List Nat)} {t : List Nat} (hl : moL tr < 256) (h : t ∈ tr) : ∀ (b a : List Nat) (x : Nat), t = a ++ x :: b → ∀ y, y ∈ b → (rall (moF tr) x).testBit y = true
  | [], _, _, _, _, hy => absurd hy List.not_mem_nil
  | z :: b, a, x, e, y, hy => by
    have hx8 : x < 8 := bit8 hl (mem_lab h (by rw [e]; exact List.mem_append.mpr (Or.inr (List.mem_cons_self ..))))
    have hz8 : z < 8 := bit8 hl (mem_lab h (by rw [e]; exact List.mem_append.mpr (Or.inr (List.mem_cons_of_mem _ (List.mem_cons_self ..)))))
    have h1 : (rall (moF tr) x).testBit z = true := rall_sub hx8 (fol_of h e)
    rcases List.mem_cons.mp hy with rfl | hy
    · exact h1
    · exact rall_tr hx8 hz8 h1 (lead_of hl h b (a ++ [x]) z (by rw [e, List.append_assoc]; rfl) y hy)
theorem pair_of {tr : List (List Nat)} {t : List Nat} (hl : moL tr < 256) (h : t ∈ tr) : ∀ (b a : List Nat), t = a ++ b → b.Pairwise (fun x y => (rall (moF tr) x).testBit y = true)
  | [], _, _ => List.Pairwise.nil
  | x :: b, a, e => List.Pairwise.cons (fun y hy => lead_of hl h b a x e y hy) (pair_of hl h b (a ++ [x]) (by rw [e, List.append_assoc]; rfl))
theorem split_by {P : Nat → Bool} : ∀ (s : List Nat), s.Pairwise (fun x y => P y = true → P x = true) → s = s.filter P ++ s.filter (fun x => !P x)
  | [], _ => rfl
  | x :: s, h => by
    obtain ⟨h1, h2⟩ := List.pairwise_cons.mp h
    cases hx : P x
    · have hn : ∀ y, y ∈ x :: s → P y = false := by
        intro y hy
        rcases List.mem_cons.mp hy with rfl | hy
        · exact hx
        · cases c : P y
          · rfl
          · have := h1 y hy c; rw [hx] at this; cases this
      rw [List.filter_eq_nil_iff.mpr (fun y hy => by rw [hn y hy]; exact Bool.false_ne_true), List.nil_append, List.filter_eq_self.mpr (fun y hy => by rw [hn y hy]; rfl)]
    · rw [List.filter_cons_of_pos hx, List.filter_cons_of_neg (by rw [hx]; decide), List.cons_append, ← split_by s h2]
theorem span_of (P : Nat → Bool) : ∀ s : List Nat, ∃ a b, s = a ++ b ∧ (∀ y, y ∈ a → P y = true) ∧ (b = [] ∨ ∃ y b', b = y :: b' ∧ P y = false)
  | [] => ⟨[], [], rfl, fun _ h => absurd h List.not_mem_nil, Or.inl rfl⟩
  | x :: s => by
    cases hx : P x
    · exact ⟨[], x :: s, rfl, fun _ h => absurd h List.not_mem_nil, Or.inr ⟨x, s, rfl, hx⟩⟩
    · obtain ⟨a, b, e, h1, h2⟩ := span_of P s
      refine ⟨x :: a, b, by rw [e]; rfl, fun y hy => ?_, h2⟩
      rcases List.mem_cons.mp hy with rfl | hy
      · exact hx
      · exact h1 y hy
theorem snoc_of : ∀ s : List Nat, s ≠ [] → ∃ a y, s = a ++ [y]
  | [], h => absurd rfl h
  | [x], _ => ⟨[], x, rfl⟩
  | x :: y :: s, _ => by
    obtain ⟨a, z, e⟩ := snoc_of (y :: s) (List.cons_ne_nil _ _)
    exact ⟨x :: a, z, by rw [e]; rfl⟩
end PACC1
