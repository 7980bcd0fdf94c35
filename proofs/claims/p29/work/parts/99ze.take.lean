section PTAKE
theorem it_sh {σ : Type} {F : Nat → σ → σ} {s : σ} : ∀ n, it F s (n + 1) = it (fun i s => F (i + 1) s) (F 0 s) n
  | 0 => rfl
  | n + 1 => by
    rw [it_s, it_sh n]; rfl
theorem it_fold {σ : Type} {f : σ → Nat → σ} : ∀ (t : List Nat) (s : σ), it (fun i s => f s (gd t i)) s t.length = t.foldl f s
  | [], _ => rfl
  | x :: t, s => by
    rw [List.length_cons, it_sh]
    exact it_fold t (f s x)
theorem tk_fold {part : Nat} {sp : Bool} {s : List (List Nat) × List Nat} {t : List Nat} : tkT part sp s t t.length = t.foldl (tkS part sp) s := it_fold t s
theorem tkS_in {part x : Nat} {sp : Bool} {s : List (List Nat) × List Nat} (h : part.testBit x = true) : tkS part sp s x = (s.1, s.2 ++ [x]) := by
  unfold tkS; rw [if_pos h]
theorem tkS_out {part x : Nat} {s : List (List Nat) × List Nat} (h : part.testBit x = false) : tkS part false s x = s := by
  unfold tkS; rw [if_neg (by rw [h]; exact Bool.false_ne_true), Bool.false_and, if_neg Bool.false_ne_true]
theorem tkS_cut {part x : Nat} {s : List (List Nat) × List Nat} (h : part.testBit x = false) : (tkS part true s x).2 = [] ∧ (tkS part true s x).1 = clS s := by
  unfold tkS clS
  rw [if_neg (by rw [h]; exact Bool.false_ne_true), Bool.true_and]
  by_cases c : s.2.length ≠ 0
  · rw [decide_eq_true c, if_pos rfl, if_pos c]; exact ⟨rfl, rfl⟩
  · rw [decide_eq_false c, if_neg Bool.false_ne_true, if_neg c]
    exact ⟨List.eq_nil_of_length_eq_zero (by omega), rfl⟩
theorem fold_ns {part : Nat} : ∀ (t : List Nat) (s : List (List Nat) × List Nat), t.foldl (tkS part false) s = (s.1, s.2 ++ t.filter (fun x => part.testBit x))
  | [], s => by rw [List.filter_nil, List.append_nil]; rfl
  | x :: t, s => by
    rw [List.foldl_cons]
    cases h : part.testBit x
    · rw [tkS_out h, fold_ns t s, List.filter_cons_of_neg (by rw [h]; exact Bool.false_ne_true)]
    · rw [tkS_in h, fold_ns t _, List.filter_cons_of_pos h, List.append_assoc]; rfl
theorem fold_in {part : Nat} {sp : Bool} : ∀ (t : List Nat) (s : List (List Nat) × List Nat), (∀ x, x ∈ t → part.testBit x = true) → t.foldl (tkS part sp) s = (s.1, s.2 ++ t)
  | [], s, _ => by rw [List.append_nil]; rfl
  | x :: t, s, h => by
    rw [List.foldl_cons, tkS_in (h x (List.mem_cons_self ..)), fold_in t _ (fun y hy => h y (List.mem_cons_of_mem _ hy)), List.append_assoc]; rfl
theorem cl_sub {s : List (List Nat) × List Nat} {z : List Nat} (h : z ∈ s.1) : z ∈ clS s := by
  unfold clS
  split
  · exact List.mem_append.mpr (Or.inl h)
  · exact h
theorem tkS_mono {part x : Nat} {sp : Bool} {s : List (List Nat) × List Nat} {z : List Nat} (h : z ∈ s.1) : z ∈ (tkS part sp s x).1 := by
  unfold tkS
  split
  · exact h
  · split
    · exact List.mem_append.mpr (Or.inl h)
    · exact h
theorem fold_mono {part : Nat} {sp : Bool} {z : List Nat} : ∀ (t : List Nat) (s : List (List Nat) × List Nat), z ∈ s.1 → z ∈ (t.foldl (tkS part sp) s).1
  | [], _, h => h
  | x :: t, s, h => by rw [List.foldl_cons]; exact fold_mono t _ (tkS_mono h)
theorem tkL_fold {part : Nat} {sp keep : Bool} {q : List (List Nat)} {t : List Nat} : tkL part sp keep q t = if keep = true ∨ (t.foldl (tkS part sp) (q, [])).2 ≠ [] then (t.foldl (tkS part sp) (q, [])).1 ++ [(t.foldl (tkS part sp) (q, [])).2] else (t.foldl (tkS part sp) (q, [])).1 := by
  unfold tkL
  rw [tk_fold]
  generalize t.foldl (tkS part sp) (q, []) = s
  cases keep
  · rw [Bool.false_or]
    by_cases c : s.2 = []
    · rw [if_neg (by rw [c]; decide), if_neg (fun h => h.elim (fun h => Bool.false_ne_true h) (fun h => h c))]
    · have c2 : s.2.length ≠ 0 := fun h => c (List.eq_nil_of_length_eq_zero h)
      rw [if_pos (decide_eq_true c2), if_pos (Or.inr c)]
  · rw [Bool.true_or, if_pos rfl, if_pos (Or.inl rfl)]
theorem tkL_mono {part : Nat} {sp keep : Bool} {q : List (List Nat)} {t z : List Nat} (h : z ∈ q) : z ∈ tkL part sp keep q t := by
  rw [tkL_fold]
  have := fold_mono (part := part) (sp := sp) (z := z) t (q, []) h
  split
  · exact List.mem_append.mpr (Or.inl this)
  · exact this
theorem takeI_mem {part : Nat} {sp keep : Bool} {tr : List (List Nat)} {z : List Nat} {i : Nat} (hz : ∀ q, z ∈ tkL part sp keep q (tr.getD i [])) : ∀ k, i < k → z ∈ takeI part sp keep tr k
  | 0, h => absurd h (Nat.not_lt_zero i)
  | k + 1, h => by
    have e : takeI part sp keep tr (k + 1) = tkL part sp keep (takeI part sp keep tr k) (tr.getD k []) := rfl
    rw [e]
    by_cases c : i = k
    · rw [← c]; exact hz _
    · exact tkL_mono (takeI_mem hz k (by omega))
theorem mem_at {tr : List (List Nat)} {t : List Nat} (h : t ∈ tr) : ∃ i, i < tr.length ∧ tr.getD i [] = t := by
  obtain ⟨i, hi, e⟩ := List.mem_iff_getElem.mp h
  exact ⟨i, hi, by rw [List.getD_eq_getElem?_getD, List.getElem?_eq_getElem hi, Option.getD_some, e]⟩
theorem takeF_mem {tr : List (List Nat)} {part kd : Nat} {t z : List Nat} (h : t ∈ tr) (hz : ∀ q, z ∈ tkL part (decide (kd = 5)) (decide (kd = 3 ∨ kd = 4)) q t) : z ∈ takeF tr part kd := by
  obtain ⟨i, hi, e⟩ := mem_at h
  exact takeI_mem (fun q => by rw [e]; exact hz q) tr.length hi
/-- a trace with the labels of a part alone -/
theorem take_keep {tr : List (List Nat)} {part kd : Nat} {t : List Nat} (h : t ∈ tr) (hk : kd = 3 ∨ kd = 4) : t.filter (fun x => part.testBit x) ∈ takeF tr part kd := by
  refine takeF_mem h (fun q => ?_)
  rw [decide_eq_false (by omega : ¬ kd = 5), decide_eq_true hk, tkL_fold, if_pos (Or.inl rfl), fold_ns]
  exact List.mem_append.mpr (Or.inr (List.mem_singleton.mpr (List.nil_append _).symm))
/-- a trace of the part's labels -/
theorem take_choice {tr : List (List Nat)} {part : Nat} {t : List Nat} (h : t ∈ tr) (h0 : t ≠ []) (hp : ∀ x, x ∈ t → part.testBit x = true) : t ∈ takeF tr part 2 := by
  refine takeF_mem h (fun q => ?_)
  rw [decide_eq_false (by decide : ¬ 2 = 5), decide_eq_false (by decide : ¬ (2 = 3 ∨ 2 = 4)), tkL_fold, fold_in t _ hp, List.nil_append, if_pos (Or.inr h0)]
  exact List.mem_append.mpr (Or.inr (List.mem_singleton.mpr rfl))
/-- a stretch of a trace as long as a part's labels go -/
def RunP (part : Nat) (t x : List Nat) : Prop := ∃ a b, t = a ++ (x ++ b) ∧ x ≠ [] ∧ (∀ y, y ∈ x → part.testBit y = true) ∧ (a = [] ∨ ∃ a' y, a = a' ++ [y] ∧ part.testBit y = false) ∧ (b = [] ∨ ∃ y b', b = y :: b' ∧ part.testBit y = false)
theorem take_run {tr : List (List Nat)} {part : Nat} {t x : List Nat} (h : t ∈ tr) (hx : RunP part t x) : x ∈ takeF tr part 5 := by
  obtain ⟨a, b, rfl, h0, hp, ha, hb⟩ := hx
  refine takeF_mem h (fun q => ?_)
  rw [decide_eq_true (rfl : 5 = 5), decide_eq_false (by decide : ¬ (5 = 3 ∨ 5 = 4)), tkL_fold]
  have h2 : (a.foldl (tkS part true) (q, [])).2 = [] := by
    rcases ha with rfl | ⟨a', y, rfl, hy⟩
    · rfl
    · rw [List.foldl_append]
      exact (tkS_cut hy).1
  rw [List.foldl_append, List.foldl_append, fold_in x _ hp]
  generalize a.foldl (tkS part true) (q, []) = s at h2
  rw [h2, List.nil_append]
  rcases hb with rfl | ⟨y, b', rfl, hy⟩
  · rw [List.foldl_nil, if_pos (Or.inr h0)]
    exact List.mem_append.mpr (Or.inr (List.mem_singleton.mpr rfl))
  · rw [List.foldl_cons]
    have h3 : x ∈ (tkS part true (s.1, x) y).1 := by
      rw [(tkS_cut hy).2]
      unfold clS
      rw [if_pos (show (s.1, x).2.length ≠ 0 from fun h => h0 (List.eq_nil_of_length_eq_zero h))]
      exact List.mem_append.mpr (Or.inr (List.mem_singleton.mpr rfl))
    have h4 := fold_mono (part := part) (sp := true) b' _ h3
    split
    · exact List.mem_append.mpr (Or.inl h4)
    · exact h4
end PTAKE
