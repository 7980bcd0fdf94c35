section CQ4
theorem beI_iff {part fi be en : Nat} {fo : Nat → Nat} {a : Nat} {x : Bool} : ∀ k, (beI part fi be en fo a x k = true ↔ x = true ∨ ∃ b, b < k ∧ (fo a).testBit b = true ∧ beC part fi be en a b = true)
  | 0 => ⟨fun h => Or.inl h, fun h => h.elim id (fun ⟨b, hb, _⟩ => absurd hb (Nat.not_lt_zero b))⟩
  | k + 1 => by
    have ih := beI_iff (part := part) (fi := fi) (be := be) (en := en) (fo := fo) (a := a) (x := x) k
    have e : beI part fi be en fo a x (k + 1) = if (fo a).testBit k then (beI part fi be en fo a x k || beC part fi be en a k) else beI part fi be en fo a x k := rfl
    rw [e]
    by_cases h : (fo a).testBit k = true
    · rw [if_pos h, Bool.or_eq_true, ih]
      constructor
      · rintro ((h1 | ⟨b, h1, h2⟩) | h1)
        · exact Or.inl h1
        · exact Or.inr ⟨b, by omega, h2⟩
        · exact Or.inr ⟨k, by omega, h, h1⟩
      · rintro (h1 | ⟨b, h1, h2, h3⟩)
        · exact Or.inl (Or.inl h1)
        · by_cases eb : b = k
          · subst eb; exact Or.inr h3
          · exact Or.inl (Or.inr ⟨b, by omega, h2, h3⟩)
    · rw [if_neg h, ih]
      constructor
      · rintro (h1 | ⟨b, h1, h2⟩)
        · exact Or.inl h1
        · exact Or.inr ⟨b, by omega, h2⟩
      · rintro (h1 | ⟨b, h1, h2, h3⟩)
        · exact Or.inl h1
        · by_cases eb : b = k
          · subst eb; exact absurd h2 h
          · exact Or.inr ⟨b, by omega, h2, h3⟩
theorem beF_iff {part fi be en : Nat} {fo : Nat → Nat} : ∀ k, (beF part fi be en fo k = true ↔ ∃ a b, a < k ∧ b < 8 ∧ (fo a).testBit b = true ∧ beC part fi be en a b = true)
  | 0 => ⟨fun h => (by cases h), fun ⟨a, _, h, _⟩ => absurd h (Nat.not_lt_zero a)⟩
  | k + 1 => by
    have e : beF part fi be en fo (k + 1) = beI part fi be en fo k (beF part fi be en fo k) 8 := rfl
    rw [e, beI_iff, beF_iff k]
    constructor
    · rintro (⟨a, b, h1, h2⟩ | ⟨b, h1, h2⟩)
      · exact ⟨a, b, by omega, h2⟩
      · exact ⟨k, b, by omega, h1, h2⟩
    · rintro ⟨a, b, h1, h2, h3⟩
      by_cases ea : a = k
      · subst ea; exact Or.inr ⟨b, h2, h3⟩
      · exact Or.inl ⟨a, b, by omega, h2, h3⟩
theorem btf_iff {nx : Nat → Nat} {be en part : Nat} : btf nx be en part = true ↔ ∃ x, x < 8 ∧ (((andn be en).testBit x = true ∧ ∃ y, (nx x).testBit y = true ∧ part.testBit y = true) ∨ (part.testBit x = true ∧ ∃ y, (nx x).testBit y = true ∧ (andn en be).testBit y = true)) := by
  have hz : ∀ a b : Nat, a &&& b ≠ 0 ↔ ∃ y, a.testBit y = true ∧ b.testBit y = true := by
    intro a b
    constructor
    · intro h
      obtain ⟨y, hy⟩ := Nat.exists_testBit_of_ne_zero h
      rw [Nat.testBit_and, Bool.and_eq_true] at hy
      exact ⟨y, hy⟩
    · rintro ⟨y, h1, h2⟩ h0
      have : (a &&& b).testBit y = true := by rw [Nat.testBit_and, h1, h2]; rfl
      rw [h0, Nat.zero_testBit] at this
      cases this
  unfold btf
  rw [anyU_iff]
  constructor
  · rintro ⟨x, hx, h⟩
    rw [Bool.or_eq_true, Bool.and_eq_true, Bool.and_eq_true, decide_eq_true_iff, decide_eq_true_iff, hz, hz] at h
    exact ⟨x, hx, h⟩
  · rintro ⟨x, hx, h⟩
    refine ⟨x, hx, ?_⟩
    rw [Bool.or_eq_true, Bool.and_eq_true, Bool.and_eq_true, decide_eq_true_iff, decide_eq_true_iff, hz, hz]
    exact h
theorem andn_t {a b i : Nat} : (andn a b).testBit i = true ↔ a.testBit i = true ∧ b.testBit i = false := by
  rw [andn_bit, Bool.and_eq_true, Bool.not_eq_true']
/-- the parts that come to the first one do so whatever came before -/
theorem beF_btf {nx : Nat → Nat} {be en S : Nat} {ps : List Nat} {k fi : Nat} (hb : ∀ j, j < 8 → nx j < 256) (hP : Prt (linkV nx) S ps) (hps : ∀ i, i < ps.length → gd ps i < 256) (hbe : be < 256) (hen : en < 256) (hk : k < ps.length) (h1 : Sb (be ||| en) fi) (h2 : ∀ a, fi.testBit a = true → (be ||| en).testBit a = true ∨ ∃ j, j < ps.length ∧ j ≠ k ∧ (gd ps j).testBit a = true) : beF (gd ps k) fi be en nx 8 = btf nx be en (gd ps k) := by
  obtain ⟨p1, p2, p3, p4⟩ := hP
  have hn := nj_link hb
  have hor : ∀ a, (be ||| en).testBit a = true ↔ be.testBit a = true ∨ en.testBit a = true := fun a => by rw [Nat.testBit_or, Bool.or_eq_true]
  -- no label of another part has to do with this one
  have apart : ∀ j a b, j < ps.length → j ≠ k → (gd ps j).testBit a = true → (gd ps k).testBit b = true → (nx a).testBit b = false ∧ (nx b).testBit a = false := by
    intro j a b hj hjk ha hb9
    have ha8 := bit8 (hps j hj) ha
    have hb8 := bit8 (hps k hk) hb9
    have : (linkV nx a).testBit b = false := by
      cases q : (linkV nx a).testBit b
      · rfl
      · have := p4 j hj a b ha8 ha ((p1 k hk).2 b hb9) q
        rw [p2 k j hk hj (Ne.symm hjk) b hb9] at this
        cases this
    rw [hn.2 a b ha8 hb8, Bool.or_eq_false_iff] at this
    exact this
  refine bool_iff ?_
  rw [beF_iff, btf_iff]
  unfold beC
  constructor
  · rintro ⟨a, b, ha, hb8, hab, h⟩
    rw [Bool.or_eq_true, Bool.and_eq_true, Bool.and_eq_true, andn_t, andn_t] at h
    rcases h with ⟨⟨g1, g2⟩, g3⟩ | ⟨g3, g1, g2⟩
    · rcases h2 a g1 with q | ⟨j, hj, hjk, q⟩
      · rcases (hor a).mp q with q | q
        · exact ⟨a, ha, Or.inl ⟨andn_t.mpr ⟨q, g2⟩, b, hab, g3⟩⟩
        · rw [g2] at q; cases q
      · rw [(apart j a b hj hjk q g3).1] at hab; cases hab
    · rcases h2 b g1 with q | ⟨j, hj, hjk, q⟩
      · rcases (hor b).mp q with q | q
        · rw [g2] at q; cases q
        · exact ⟨a, ha, Or.inr ⟨g3, b, hab, andn_t.mpr ⟨q, g2⟩⟩⟩
      · rw [(apart j b a hj hjk q g3).2] at hab; cases hab
  · rintro ⟨x, hx, h⟩
    rcases h with ⟨g1, y, g2, g3⟩ | ⟨g1, y, g2, g3⟩
    · rw [andn_t] at g1
      refine ⟨x, y, hx, bit8 (hps k hk) g3, g2, ?_⟩
      rw [Bool.or_eq_true, Bool.and_eq_true, Bool.and_eq_true, andn_t, andn_t]
      exact Or.inl ⟨⟨h1 x ((hor x).mpr (Or.inl g1.1)), g1.2⟩, g3⟩
    · rw [andn_t] at g3
      refine ⟨x, y, hx, bit8 (hb x hx) g2, g2, ?_⟩
      rw [Bool.or_eq_true, Bool.and_eq_true, Bool.and_eq_true, andn_t, andn_t]
      exact Or.inr ⟨g1, h1 y ((hor y).mpr (Or.inr g3.1)), g3.2⟩
/-- the first part as it grows in one pass -/
def agF (nx : Nat → Nat) (be en : Nat) (ps : List Nat) (k : Nat) : Nat := it (fun t s => if btf nx be en (gd ps t) = true then s ||| gd ps t else s) (be ||| en) k
def agK (nx : Nat → Nat) (be en : Nat) (ps : List Nat) (k : Nat) : List Nat := it (fun t l => if btf nx be en (gd ps t) = true then l else l ++ [gd ps t]) [] k
theorem agF_s {nx : Nat → Nat} {be en : Nat} {ps : List Nat} {k : Nat} : agF nx be en ps (k + 1) = if btf nx be en (gd ps k) = true then agF nx be en ps k ||| gd ps k else agF nx be en ps k := rfl
theorem agF_bit {nx : Nat → Nat} {be en : Nat} {ps : List Nat} {y : Nat} : ∀ k, ((agF nx be en ps k).testBit y = true ↔ (be ||| en).testBit y = true ∨ ∃ t, t < k ∧ btf nx be en (gd ps t) = true ∧ (gd ps t).testBit y = true)
  | 0 => ⟨fun h => Or.inl h, fun h => h.elim id (fun ⟨t, ht, _⟩ => absurd ht (Nat.not_lt_zero t))⟩
  | k + 1 => by
    have ih := agF_bit (nx := nx) (be := be) (en := en) (ps := ps) (y := y) k
    rw [agF_s]
    by_cases h : btf nx be en (gd ps k) = true
    · rw [if_pos h, Nat.testBit_or, Bool.or_eq_true, ih]
      constructor
      · rintro ((h1 | ⟨t, h1, h2⟩) | h1)
        · exact Or.inl h1
        · exact Or.inr ⟨t, by omega, h2⟩
        · exact Or.inr ⟨k, by omega, h, h1⟩
      · rintro (h1 | ⟨t, h1, h2, h3⟩)
        · exact Or.inl (Or.inl h1)
        · by_cases et : t = k
          · subst et; exact Or.inr h3
          · exact Or.inl (Or.inr ⟨t, by omega, h2, h3⟩)
    · rw [if_neg h, ih]
      constructor
      · rintro (h1 | ⟨t, h1, h2⟩)
        · exact Or.inl h1
        · exact Or.inr ⟨t, by omega, h2⟩
      · rintro (h1 | ⟨t, h1, h2, h3⟩)
        · exact Or.inl h1
        · by_cases et : t = k
          · subst et; exact absurd h2 h
          · exact Or.inr ⟨t, by omega, h2, h3⟩
theorem agI_eq {nx : Nat → Nat} {be en : Nat} {ps : List Nat} : ∀ k, agI nx be en ((be ||| en) :: ps) k = (agF nx be en ps k, agK nx be en ps k)
  | 0 => rfl
  | k + 1 => by
    have e : agI nx be en ((be ||| en) :: ps) (k + 1) = if btf nx be en (gd ((be ||| en) :: ps) (k + 1)) then ((agI nx be en ((be ||| en) :: ps) k).1 ||| gd ((be ||| en) :: ps) (k + 1), (agI nx be en ((be ||| en) :: ps) k).2) else ((agI nx be en ((be ||| en) :: ps) k).1, (agI nx be en ((be ||| en) :: ps) k).2 ++ [gd ((be ||| en) :: ps) (k + 1)]) := rfl
    have e2 : agK nx be en ps (k + 1) = if btf nx be en (gd ps k) = true then agK nx be en ps k else agK nx be en ps k ++ [gd ps k] := rfl
    have e3 : gd ((be ||| en) :: ps) (k + 1) = gd ps k := by rw [gd_cons, if_neg (by omega)]; rfl
    rw [e, e2, agF_s, agI_eq k, e3]
    by_cases h : btf nx be en (gd ps k) = true
    · rw [if_pos h, if_pos h, if_pos h]
    · rw [if_neg h, if_neg h, if_neg h]
/-- the model's passes over the parts: the first one does all -/
theorem mq5_eq {nx : Nat → Nat} {be en S : Nat} {ps : List Nat} (hb : ∀ j, j < 8 → nx j < 256) (hP : Prt (linkV nx) S ps) (hps : ∀ i, i < ps.length → 0 < gd ps i ∧ gd ps i < 256) (hbe : be < 256) (hen : en < 256) : (agN be en nx (be ||| en, ps) 9).1 = agF nx be en ps ps.length ∧ (agN be en nx (be ||| en, ps) 9).2.filter (fun x => decide (x ≠ 0)) = agK nx be en ps ps.length := by
  have hp9 : ∀ i, i < ps.length → gd ps i < 256 := fun i hi => (hps i hi).2
  have hdis := hP.2.1
  have step : ∀ k j, k < ps.length → beF (gd ps k) (agF nx be en ps j) be en nx 8 = btf nx be en (gd ps k) ∨ (∃ t, t < j ∧ t = k ∧ btf nx be en (gd ps k) = true) ∨ ps.length < j := by
    intro k j hk
    by_cases hj : ps.length < j
    · exact Or.inr (Or.inr hj)
    · by_cases hq : ∃ t, t < j ∧ t = k ∧ btf nx be en (gd ps k) = true
      · exact Or.inr (Or.inl hq)
      · refine Or.inl (beF_btf hb hP hp9 hbe hen hk (fun i hi => (agF_bit j).mpr (Or.inl hi)) (fun a ha => ?_))
        rcases (agF_bit j).mp ha with h | ⟨t, h1, h2, h3⟩
        · exact Or.inl h
        · refine Or.inr ⟨t, by omega, fun e => hq ⟨t, h1, e, by rw [← e]; exact h2⟩, h3⟩
  have pass : ∀ k, k ≤ ps.length → (agP be en nx (be ||| en, ps) k).1 = agF nx be en ps k ∧ (agP be en nx (be ||| en, ps) k).2.length = ps.length ∧ ∀ i, i < ps.length → gd (agP be en nx (be ||| en, ps) k).2 i = if i < k ∧ btf nx be en (gd ps i) = true then 0 else gd ps i := by
    intro k
    induction k with
    | zero => exact fun _ => ⟨rfl, rfl, fun i _ => by rw [if_neg (fun h => absurd h.1 (Nat.not_lt_zero i))]; rfl⟩
    | succ k ih =>
      intro hk
      obtain ⟨i1, i2, i3⟩ := ih (by omega)
      have e : agP be en nx (be ||| en, ps) (k + 1) = agS be en nx k (agP be en nx (be ||| en, ps) k) := rfl
      rw [e]
      generalize agP be en nx (be ||| en, ps) k = s at i1 i2 i3
      have hgk := i3 k (by omega)
      rw [if_neg (fun h => absurd h.1 (Nat.lt_irrefl k))] at hgk
      have hbe9 : beF (gd ps k) (agF nx be en ps k) be en nx 8 = btf nx be en (gd ps k) := by
        rcases step k k (by omega) with h | ⟨t, h1, h2, -⟩ | h
        · exact h
        · omega
        · omega
      unfold agS
      rw [hgk, i1, hbe9, agF_s]
      have hpos := (hps k (by omega)).1
      by_cases h : btf nx be en (gd ps k) = true
      · rw [if_pos ⟨by omega, h⟩, if_pos h]
        refine ⟨rfl, by dsimp only; rw [List.length_set]; exact i2, fun i hi => ?_⟩
        dsimp only
        rw [gd_set (by omega)]
        by_cases ei : i = k
        · subst ei
          rw [if_pos rfl, if_pos ⟨by omega, h⟩]
        · rw [if_neg ei, i3 i hi]
          by_cases h9 : i < k ∧ btf nx be en (gd ps i) = true
          · rw [if_pos h9, if_pos ⟨by omega, h9.2⟩]
          · rw [if_neg h9, if_neg (fun q => h9 ⟨by omega, q.2⟩)]
      · rw [if_neg (fun q => h q.2), if_neg h]
        refine ⟨i1, i2, fun i hi => ?_⟩
        rw [i3 i hi]
        by_cases h9 : i < k ∧ btf nx be en (gd ps i) = true
        · rw [if_pos h9, if_pos ⟨by omega, h9.2⟩]
        · rw [if_neg h9, if_neg (fun q => by
            by_cases ei : i = k
            · subst ei; exact h q.2
            · exact h9 ⟨by omega, q.2⟩)]
  obtain ⟨q1, q2, q3⟩ := pass ps.length (Nat.le_refl _)
  have e1 : agN be en nx (be ||| en, ps) 1 = agP be en nx (be ||| en, ps) ps.length := rfl
  -- the second pass changes nothing
  have again : ∀ k, k ≤ ps.length → agP be en nx (agP be en nx (be ||| en, ps) ps.length) k = agP be en nx (be ||| en, ps) ps.length := by
    intro k
    induction k with
    | zero => exact fun _ => rfl
    | succ k ih =>
      intro hk
      have e : agP be en nx (agP be en nx (be ||| en, ps) ps.length) (k + 1) = agS be en nx k (agP be en nx (agP be en nx (be ||| en, ps) ps.length) k) := rfl
      rw [e, ih (by omega)]
      have h3 := q3 k (by omega)
      generalize agP be en nx (be ||| en, ps) ps.length = s at q1 h3
      unfold agS
      by_cases h : btf nx be en (gd ps k) = true
      · rw [if_pos ⟨by omega, h⟩] at h3
        rw [if_neg (fun q => q.1 h3)]
      · rw [if_neg (fun q => h q.2)] at h3
        rw [h3, q1]
        rcases step k ps.length (by omega) with h9 | ⟨t, h1, h2, h9⟩ | h9
        · rw [h9, if_neg (fun q => h q.2)]
        · exact absurd h9 h
        · omega
  have h9 : agN be en nx (be ||| en, ps) 9 = agP be en nx (be ||| en, ps) ps.length := by
    have hf : agP be en nx (agN be en nx (be ||| en, ps) 1) (agN be en nx (be ||| en, ps) 1).2.length = agN be en nx (be ||| en, ps) 1 := by
      rw [e1, q2]
      exact again ps.length (Nat.le_refl _)
    have := agN_fix hf 8
    rw [e1] at this
    exact this
  rw [h9]
  refine ⟨q1, ?_⟩
  have hfl : ∀ k, k ≤ ps.length → flI (agP be en nx (be ||| en, ps) ps.length).2 k = agK nx be en ps k := by
    intro k
    induction k with
    | zero => exact fun _ => rfl
    | succ k ih =>
      intro hk
      have e2 : agK nx be en ps (k + 1) = if btf nx be en (gd ps k) = true then agK nx be en ps k else agK nx be en ps k ++ [gd ps k] := rfl
      have hpos := (hps k (by omega)).1
      have h3 := q3 k (by omega)
      rw [flI_s, ih (by omega), e2]
      by_cases h : btf nx be en (gd ps k) = true
      · rw [if_pos ⟨by omega, h⟩] at h3
        rw [if_pos h, if_neg (fun q => q h3)]
      · rw [if_neg (fun q => h q.2)] at h3
        rw [if_neg h, h3, if_pos (by omega)]
  have h0 := flI_eq (qs := (agP be en nx (be ||| en, ps) ps.length).2) _ (Nat.le_refl _)
  rw [List.take_length] at h0
  rw [← h0, q2]
  exact hfl _ (Nat.le_refl _)
theorem agK_len {nx : Nat → Nat} {be en : Nat} {ps : List Nat} : ∀ k, ((agK nx be en ps k).length = 0 ↔ ∀ t, t < k → btf nx be en (gd ps t) = true)
  | 0 => ⟨fun _ t ht => absurd ht (Nat.not_lt_zero t), fun _ => rfl⟩
  | k + 1 => by
    have ih := agK_len (nx := nx) (be := be) (en := en) (ps := ps) k
    have e2 : agK nx be en ps (k + 1) = if btf nx be en (gd ps k) = true then agK nx be en ps k else agK nx be en ps k ++ [gd ps k] := rfl
    rw [e2]
    by_cases h : btf nx be en (gd ps k) = true
    · rw [if_pos h, ih]
      constructor
      · intro h1 t ht
        by_cases et : t = k
        · rw [et]; exact h
        · exact h1 t (by omega)
      · exact fun h1 t ht => h1 t (by omega)
    · rw [if_neg h]
      constructor
      · intro h1
        rw [List.length_append, List.length_singleton] at h1
        omega
      · exact fun h1 => absurd (h1 k (by omega)) h
end CQ4
