section PSEL
/-- the labels at the first k places of a set of places -/
def selK (w : Nat → Nat) (p k : Nat) : List Nat := it (fun i l => if p.testBit i = true then l ++ [w i] else l) [] k
def sel (w : Nat → Nat) (p : Nat) : List Nat := selK w p 12
theorem selK_s {w : Nat → Nat} {p k : Nat} : selK w p (k + 1) = if p.testBit k = true then selK w p k ++ [w k] else selK w p k := rfl
theorem sel_len {w : Nat → Nat} {p : Nat} : ∀ k, (selK w p k).length = pcI p k
  | 0 => rfl
  | k + 1 => by
    rw [selK_s, pcI_s, ← sel_len (w := w) k]
    split
    · rw [List.length_append]; rfl
    · rfl
theorem sel_popc {w : Nat → Nat} {p : Nat} : (sel w p).length = popc p := by
  rw [popc_eq]; exact sel_len 12
theorem sel_pl {w : Nat → Nat} {p l : Nat} : ∀ k, k ≤ 12 → selK w (plF w p l 12) k = (selK w p k).filter (fun x => l.testBit x)
  | 0, _ => rfl
  | k + 1, hk => by
    have hb : (plF w p l 12).testBit k = (p.testBit k && l.testBit (w k)) := bool_iff (by
      rw [plF_bit 12, Bool.and_eq_true]
      constructor
      · rintro ⟨-, h1, h2⟩; exact ⟨h1, h2⟩
      · rintro ⟨h1, h2⟩; exact ⟨by omega, h1, h2⟩)
    rw [selK_s, selK_s, sel_pl k (by omega), hb]
    cases h1 : p.testBit k
    · rw [Bool.false_and, if_neg Bool.false_ne_true, if_neg Bool.false_ne_true]
    · rw [Bool.true_and, if_pos rfl, List.filter_append]
      cases h2 : l.testBit (w k)
      · rw [if_neg Bool.false_ne_true, List.filter_cons_of_neg (by rw [h2]; exact Bool.false_ne_true), List.filter_nil, List.append_nil]
      · rw [if_pos rfl, List.filter_cons_of_pos h2, List.filter_nil]
theorem sel_filter {w : Nat → Nat} {p l : Nat} : sel w (plF w p l 12) = (sel w p).filter (fun x => l.testBit x) := sel_pl 12 (Nat.le_refl 12)
theorem selK_ut {w : Nat → Nat} {p m : Nat} : ∀ k, selK w (utF p m) k = selK w p (min k m)
  | 0 => by rw [Nat.zero_min]; rfl
  | k + 1 => by
    rw [selK_s, utF_bit, selK_ut k]
    by_cases h : k < m
    · rw [decide_eq_true h, Bool.and_true, Nat.min_eq_left (by omega : k ≤ m), Nat.min_eq_left (by omega : k + 1 ≤ m), selK_s]
    · rw [decide_eq_false h, Bool.and_false, if_neg Bool.false_ne_true, Nat.min_eq_right (by omega : m ≤ k), Nat.min_eq_right (by omega : m ≤ k + 1)]
theorem sel_ut {w : Nat → Nat} {p m : Nat} (hm : m ≤ 12) : sel w (utF p m) = selK w p m := by
  show selK w (utF p m) 12 = _
  rw [selK_ut, Nat.min_eq_right hm]
theorem selK_nil {w : Nat → Nat} {p : Nat} : ∀ k, (∀ i, i < k → p.testBit i = false) → selK w p k = []
  | 0, _ => rfl
  | k + 1, h => by rw [selK_s, h k (by omega), if_neg Bool.false_ne_true, selK_nil k (fun i hi => h i (by omega))]
theorem rest_bit {p m i : Nat} : (andn p (utF p m)).testBit i = (p.testBit i && !decide (i < m)) := by
  rw [andn_bit, utF_bit]
  cases p.testBit i <;> cases decide (i < m) <;> rfl
theorem selK_cut {w : Nat → Nat} {p m : Nat} : ∀ d, selK w p m ++ selK w (andn p (utF p m)) (m + d) = selK w p (m + d)
  | 0 => by
    rw [Nat.add_zero, selK_nil (p := andn p (utF p m)) m (fun i hi => by rw [rest_bit, decide_eq_true hi]; cases p.testBit i <;> rfl), List.append_nil]
  | d + 1 => by
    have ih := selK_cut (w := w) (p := p) (m := m) d
    rw [show m + (d + 1) = m + d + 1 from rfl, selK_s, selK_s, rest_bit, decide_eq_false (by omega : ¬ m + d < m), Bool.not_false, Bool.and_true]
    cases p.testBit (m + d)
    · rw [if_neg Bool.false_ne_true, if_neg Bool.false_ne_true]; exact ih
    · rw [if_pos rfl, if_pos rfl, ← List.append_assoc, ih]
theorem sel_cut {w : Nat → Nat} {p m : Nat} (hm : m ≤ 12) : sel w (utF p m) ++ sel w (andn p (utF p m)) = sel w p := by
  rw [sel_ut hm]
  have := selK_cut (w := w) (p := p) (m := m) (12 - m)
  rw [show m + (12 - m) = 12 by omega] at this
  exact this
theorem selK_at {w : Nat → Nat} {p n : Nat} : ∀ k, n ≤ (selK w p k).length → ∃ m, m ≤ k ∧ (selK w p m).length = n
  | 0, h => ⟨0, Nat.le_refl 0, by have : (selK w p 0).length = 0 := rfl; omega⟩
  | k + 1, h => by
    by_cases e : (selK w p (k + 1)).length = n
    · exact ⟨k + 1, Nat.le_refl _, e⟩
    · have : n ≤ (selK w p k).length := by
        rw [selK_s] at h e
        by_cases c : p.testBit k = true
        · rw [if_pos c, List.length_append, List.length_singleton] at h e; omega
        · rw [if_neg c] at h; exact h
      obtain ⟨m, h1, h2⟩ := selK_at k this
      exact ⟨m, by omega, h2⟩
/-- wherever the labels of a set of places are cut, so can the set be -/
theorem sel_any {w : Nat → Nat} {p : Nat} {l1 l2 : List Nat} (h : sel w p = l1 ++ l2) : ∃ q, q < 13 ∧ cuB p q = true ∧ sel w (utF p q) = l1 ∧ sel w (andn p (utF p q)) = l2 := by
  obtain ⟨m, h1, h2⟩ := selK_at (w := w) (p := p) (n := l1.length) 12 (by show _ ≤ (sel w p).length; rw [h, List.length_append]; omega)
  obtain ⟨q, g1, g2, g3⟩ := cut_can (p := p) m
  have hc := sel_cut (w := w) (p := p) (m := m) h1
  rw [h] at hc
  obtain ⟨e1, e2⟩ := List.append_inj hc (by rw [sel_ut h1]; exact h2)
  exact ⟨q, by omega, g2, by rw [g3]; exact e1, by rw [g3]; exact e2⟩
theorem sel_none {w : Nat → Nat} {p : Nat} (hp : p < 4096) (h : sel w p = []) : p = 0 := by
  have h1 : popc p = 0 := by rw [← sel_popc (w := w), h]; rfl
  by_cases e : p = 0
  · exact e
  · have := popc_pos hp e; omega
theorem selK_mem {w : Nat → Nat} {p x : Nat} : ∀ k, x ∈ selK w p k ↔ ∃ i, i < k ∧ p.testBit i = true ∧ w i = x
  | 0 => ⟨fun h => absurd h List.not_mem_nil, fun ⟨_, h, _⟩ => absurd h (Nat.not_lt_zero _)⟩
  | k + 1 => by
    rw [selK_s]
    have ih := selK_mem (w := w) (p := p) (x := x) k
    constructor
    · intro h
      by_cases hb : p.testBit k = true
      · rw [if_pos hb] at h
        rcases List.mem_append.mp h with h | h
        · obtain ⟨i, a, b, c⟩ := ih.mp h; exact ⟨i, by omega, b, c⟩
        · exact ⟨k, by omega, hb, (List.mem_singleton.mp h).symm⟩
      · rw [if_neg hb] at h
        obtain ⟨i, a, b, c⟩ := ih.mp h; exact ⟨i, by omega, b, c⟩
    · rintro ⟨i, a, b, c⟩
      by_cases e : i = k
      · subst e; rw [if_pos b]; exact List.mem_append.mpr (Or.inr (List.mem_singleton.mpr c.symm))
      · have := ih.mpr ⟨i, by omega, b, c⟩
        split
        · exact List.mem_append.mpr (Or.inl this)
        · exact this
theorem pl_all {w : Nat → Nat} {p u : Nat} (hp : p < 4096) (h : ∀ x, x ∈ sel w p → u.testBit x = true) : plF w p u 12 = p := by
  refine Nat.eq_of_testBit_eq (fun y => bool_iff ?_)
  rw [plF_bit 12]
  constructor
  · rintro ⟨-, h1, -⟩; exact h1
  · intro h1
    have hy : y < 12 := by
      by_cases c : y < 12
      · exact c
      · have := bit_lt (k := 12) hp (by omega : 12 ≤ y); rw [h1] at this; cases this
    exact ⟨hy, h1, h _ ((selK_mem 12).mpr ⟨y, hy, h1, rfl⟩)⟩
/-- the labels at all of the first n places -/
theorem sel_full {w : Nat → Nat} {n : Nat} (hn : n ≤ 12) : sel w (2 ^ n - 1) = (List.range n).map w := by
  have h1 : ∀ k, k ≤ n → selK w (2 ^ n - 1) k = (List.range k).map w := by
    intro k
    induction k with
    | zero => exact fun _ => rfl
    | succ k ih =>
      intro hk
      rw [selK_s, Nat.testBit_two_pow_sub_one, decide_eq_true (by omega : k < n), if_pos rfl, ih (by omega), List.range_succ, List.map_append]
      rfl
  have h2 : ∀ d, n + d ≤ 12 → selK w (2 ^ n - 1) (n + d) = (List.range n).map w := by
    intro d
    induction d with
    | zero => exact fun _ => h1 n (Nat.le_refl n)
    | succ d ih =>
      intro hd
      rw [show n + (d + 1) = n + d + 1 from rfl, selK_s, Nat.testBit_two_pow_sub_one, decide_eq_false (by omega : ¬ n + d < n), if_neg Bool.false_ne_true]
      exact ih (by omega)
  have := h2 (12 - n) (by omega)
  rw [show n + (12 - n) = 12 by omega] at this
  exact this
end PSEL
