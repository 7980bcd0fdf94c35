section CQ3
/-! reach: Warshall's way, and that it is transitive -/
def wrP (f : Nat → Nat) : Nat → Nat → Nat → Bool
  | 0, a, b => (f a).testBit b
  | w + 1, a, b => wrP f w a b || (wrP f w a w && wrP f w w b)
theorem rpass {w : Nat} {r : Nat → Nat} (hw : w < 8) : ∀ k, k ≤ 8 → (∀ j, it (fun a r => rstep w a r) r k j = if j < k ∧ (r j).testBit w = true then r j ||| r w else r j)
  | 0, _ => fun j => by rw [if_neg (fun h => absurd h.1 (Nat.not_lt_zero j))]; rfl
  | k + 1, hk => by
    have ih := rpass (r := r) hw k (by omega)
    have hself : it (fun a r => rstep w a r) r k w = r w := by
      rw [ih w]
      split
      · rw [Nat.or_self]
      · rfl
    intro j
    rw [it_s]
    have hk9 : it (fun a r => rstep w a r) r k k = r k := by rw [ih k, if_neg (by omega)]
    have hkj := ih j
    generalize it (fun a r => rstep w a r) r k = r1 at hself hk9 hkj
    unfold rstep
    rw [hk9]
    by_cases hb : (r k).testBit w = true
    · rw [if_pos hb]
      by_cases ej : j = k
      · subst ej
        rw [upN_s, hself, if_pos ⟨by omega, hb⟩]
      · rw [upN_n ej, hkj]
        by_cases h2 : j < k ∧ (r j).testBit w = true
        · rw [if_pos h2, if_pos ⟨by omega, h2.2⟩]
        · rw [if_neg h2, if_neg (fun h => h2 ⟨by omega, h.2⟩)]
    · rw [if_neg hb, hkj]
      by_cases h2 : j < k ∧ (r j).testBit w = true
      · rw [if_pos h2, if_pos ⟨by omega, h2.2⟩]
      · rw [if_neg h2, if_neg (fun h => by
          by_cases ej : j = k
          · subst ej; exact hb h.2
          · exact h2 ⟨by omega, h.2⟩)]
theorem rall_wr {f : Nat → Nat} : ∀ w, w ≤ 8 → ∀ a b, a < 8 → (it (fun w r => it (fun a r => rstep w a r) r 8) f w a).testBit b = wrP f w a b
  | 0, _, _, _, _ => rfl
  | w + 1, hw, a, b, ha => by
    have ih := rall_wr (f := f) w (by omega)
    rw [it_s, rpass (by omega) 8 (Nat.le_refl 8)]
    have i1 := ih a b ha
    have i2 := ih a w ha
    have i3 := ih w b (by omega)
    generalize it (fun w r => it (fun a r => rstep w a r) r 8) f w = r at i1 i2 i3
    show _ = (wrP f w a b || (wrP f w a w && wrP f w w b))
    rw [← i1, ← i2, ← i3]
    by_cases h : (r a).testBit w = true
    · rw [if_pos ⟨ha, h⟩, Nat.testBit_or, h, Bool.true_and]
    · rw [if_neg (fun q => h q.2), eq_false_of_ne_true h, Bool.false_and, Bool.or_false]
theorem rall_bit {f : Nat → Nat} {a b : Nat} (ha : a < 8) : (rall f a).testBit b = wrP f 8 a b := rall_wr 8 (Nat.le_refl 8) a b ha
theorem wr_tr {f : Nat → Nat} : ∀ (w a b c : Nat), b < w → wrP f w a b = true → wrP f w b c = true → wrP f w a c = true
  | 0, _, _, _, h, _, _ => absurd h (Nat.not_lt_zero _)
  | w + 1, a, b, c, hb, h1, h2 => by
    have T := fun a b c => wr_tr (f := f) w a b c
    have e1 : wrP f (w + 1) a b = (wrP f w a b || (wrP f w a w && wrP f w w b)) := rfl
    have e2 : wrP f (w + 1) b c = (wrP f w b c || (wrP f w b w && wrP f w w c)) := rfl
    have e3 : wrP f (w + 1) a c = (wrP f w a c || (wrP f w a w && wrP f w w c)) := rfl
    rw [e1, Bool.or_eq_true, Bool.and_eq_true] at h1
    rw [e2, Bool.or_eq_true, Bool.and_eq_true] at h2
    rw [e3, Bool.or_eq_true, Bool.and_eq_true]
    by_cases hbw : b = w
    · subst hbw
      have g1 : wrP f b a b = true := h1.elim id (fun h => h.1)
      have g2 : wrP f b b c = true := h2.elim id (fun h => h.2)
      exact Or.inr ⟨g1, g2⟩
    · have hb' : b < w := by omega
      rcases h1 with h1 | ⟨h1, h1'⟩
      · rcases h2 with h2 | ⟨h2, h2'⟩
        · exact Or.inl (T a b c hb' h1 h2)
        · exact Or.inr ⟨T a b w hb' h1 h2, h2'⟩
      · rcases h2 with h2 | ⟨h2, h2'⟩
        · exact Or.inr ⟨h1, T w b c hb' h1' h2⟩
        · exact Or.inr ⟨h1, h2'⟩
theorem rall_tr {f : Nat → Nat} {a b c : Nat} (ha : a < 8) (hb : b < 8) (h1 : (rall f a).testBit b = true) (h2 : (rall f b).testBit c = true) : (rall f a).testBit c = true := by
  rw [rall_bit ha] at h1 ⊢
  rw [rall_bit hb] at h2
  exact wr_tr 8 a b c hb h1 h2
theorem wr_up {f : Nat → Nat} {a b : Nat} (h : (f a).testBit b = true) : ∀ w, wrP f w a b = true
  | 0 => h
  | w + 1 => by
    show (wrP f w a b || _) = true
    rw [wr_up h w, Bool.true_or]
theorem rall_sub {f : Nat → Nat} {a b : Nat} (ha : a < 8) (h : (f a).testBit b = true) : (rall f a).testBit b = true := by
  rw [rall_bit ha]
  exact wr_up h 8
/-! the parts of an order -/
theorem paL_seed {nr jn : Nat → Nat} {set : Nat} (hn : Nj nr jn) (hset : set < 256) : ∀ i, i < (paL set jn).length → ∃ a, a < 8 ∧ set.testBit a = true ∧ gd (paL set jn) i = grp nr set a := by
  have key : ∀ (f left : Nat) (ps : List Nat), left < 256 → Lc nr set left → (∀ i, i < ps.length → ∃ a, a < 8 ∧ set.testBit a = true ∧ gd ps i = grp nr set a) → ∀ i, i < (paO jn f left ps).length → ∃ a, a < 8 ∧ set.testBit a = true ∧ gd (paO jn f left ps) i = grp nr set a := by
    intro f
    induction f with
    | zero => exact fun _ _ _ _ h => h
    | succ f ih =>
      intro left ps hl hc h
      rw [paO]
      split
      · exact h
      · rename_i h0
        have hpos : 0 < left := by omega
        obtain ⟨l8, lb, -⟩ := loF_spec hl hpos
        have hg := paF_grp hn hset hl hpos hc
        rw [hg]
        refine ih _ _ (andn_lt8 hl) (Lc.drop hn hset l8 hc) (fun i hi => ?_)
        rw [List.length_append, List.length_singleton] at hi
        rw [gd_snoc]
        split
        · exact ⟨loF left, l8, hc.1 _ lb, rfl⟩
        · exact h i (by omega)
  exact key 8 set [] hset ⟨Sb.rf, fun y z _ _ h _ => h⟩ (fun i hi => absurd hi (Nat.not_lt_zero i))
/-- one part leads into another one -/
def ltP (rc : Nat → Nat) (x y : Nat) : Bool := (rc (loF x)).testBit (loF y)
/-- a list of sets that are apart, in order of reach -/
def OrP (rc : Nat → Nat) (ps : List Nat) : Prop := (∀ i, i < ps.length → 0 < gd ps i ∧ gd ps i < 256) ∧ (∀ i j, i < ps.length → j < ps.length → i ≠ j → gd ps i ≠ gd ps j ∧ ltP rc (gd ps i) (gd ps j) = !ltP rc (gd ps j) (gd ps i) ∧ ldI rc (gd ps i) (gd ps j) = ltP rc (gd ps i) (gd ps j)) ∧ ∀ i j k, i < ps.length → j < ps.length → k < ps.length → ltP rc (gd ps i) (gd ps j) = true → ltP rc (gd ps j) (gd ps k) = true → ltP rc (gd ps i) (gd ps k) = true
theorem order_parts {nx : Nat → Nat} {set : Nat} (hset : set < 256) : OrP (rall nx) (paL set (fillN (nearO (rall nx)) (fun _ => 0) 8)) := by
  have hn := nj_order (rc := rall nx)
  have hP := paL_prt hn hset
  have hA := paL_all (jn := fillN (nearO (rall nx)) (fun _ => 0) 8) hset
  have hS := paL_seed hn hset
  generalize paL set (fillN (nearO (rall nx)) (fun _ => 0) 8) = ps at hP hA hS ⊢
  obtain ⟨p1, p2, p3, p4⟩ := hP
  have lo : ∀ i, i < ps.length → loF (gd ps i) < 8 ∧ (gd ps i).testBit (loF (gd ps i)) = true := fun i hi => by
    obtain ⟨a1, a2, -⟩ := loF_spec (hA i hi).2 (hA i hi).1
    exact ⟨a1, a2⟩
  -- labels of different parts: just one leads to the other
  have one : ∀ i j, i < ps.length → j < ps.length → i ≠ j → ∀ a b, (gd ps i).testBit a = true → (gd ps j).testBit b = true → (rall nx a).testBit b = !(rall nx b).testBit a := by
    intro i j hi hj hij a b ha hb
    have ha8 := bit8 (hA i hi).2 ha
    have hb8 := bit8 (hA j hj).2 hb
    cases h1 : (rall nx a).testBit b <;> cases h2 : (rall nx b).testBit a
    · have := p4 i hi a b ha8 ha ((p1 j hj).2 b hb) (nearO_bit.mpr ⟨hb8, by rw [h1, h2]⟩)
      rw [p2 j i hj hi (Ne.symm hij) b hb] at this
      cases this
    · rfl
    · rfl
    · have := p4 i hi a b ha8 ha ((p1 j hj).2 b hb) (nearO_bit.mpr ⟨hb8, by rw [h1, h2]⟩)
      rw [p2 j i hj hi (Ne.symm hij) b hb] at this
      cases this
  -- whichever label of the part is taken
  have left : ∀ i j, i < ps.length → j < ps.length → i ≠ j → ∀ a a' b, (gd ps i).testBit a = true → (gd ps i).testBit a' = true → (gd ps j).testBit b = true → (rall nx a).testBit b = (rall nx a').testBit b := by
    intro i j hi hj hij a a' b ha ha' hb
    have hb8 := bit8 (hA j hj).2 hb
    obtain ⟨s, hs8, hss, hsg⟩ := hS i hi
    have key : ∀ y, (gd ps i).testBit y = true → (rall nx y).testBit b = (rall nx s).testBit b := by
      have hX : ∀ y, (it (fun q v => if ((gd ps i).testBit q && decide ((rall nx q).testBit b = (rall nx s).testBit b)) = true then v ||| 2 ^ q else v) 0 8).testBit y = true ↔ y < 8 ∧ ((gd ps i).testBit y && decide ((rall nx y).testBit b = (rall nx s).testBit b)) = true := fun y => fold_bit 8 (Nat.le_refl 8)
      generalize it (fun q v => if ((gd ps i).testBit q && decide ((rall nx q).testBit b = (rall nx s).testBit b)) = true then v ||| 2 ^ q else v) 0 8 = X at hX
      have hsi : (gd ps i).testBit s = true := by rw [hsg]; exact grp_self
      have hmin : Sb (gd ps i) X := by
        rw [hsg]
        refine grp_min ((hX s).mpr ⟨hs8, by rw [hsi, decide_eq_true rfl]; rfl⟩) (fun y z hy h1 h2 h3 => ?_)
        obtain ⟨-, g1⟩ := (hX y).mp h1
        rw [Bool.and_eq_true, decide_eq_true_iff] at g1
        obtain ⟨g1, g2⟩ := g1
        have hz := p4 i hi y z hy g1 h3 h2
        have hz8 := bit8 hset h3
        obtain ⟨-, g3⟩ := nearO_bit.mp h2
        refine (hX z).mpr ⟨hz8, ?_⟩
        rw [Bool.and_eq_true, decide_eq_true_iff]
        refine ⟨hz, ?_⟩
        rw [← g2]
        have oz := one i j hi hj hij z b hz hb
        have oy := one i j hi hj hij y b g1 hb
        cases e1 : (rall nx z).testBit b <;> cases e2 : (rall nx y).testBit b
        · rfl
        · rw [e1] at oz
          have e3 : (rall nx b).testBit z = true := by
            cases q : (rall nx b).testBit z
            · rw [q] at oz; cases oz
            · rfl
          have e4 := rall_tr hy hb8 e2 e3
          rw [g3] at e4
          have e5 := rall_tr hz8 hy e4 e2
          rw [e1] at e5; cases e5
        · rw [e2] at oy
          have e3 : (rall nx b).testBit y = true := by
            cases q : (rall nx b).testBit y
            · rw [q] at oy; cases oy
            · rfl
          have e4 := rall_tr hz8 hb8 e1 e3
          rw [← g3] at e4
          have e5 := rall_tr hy hz8 e4 e1
          rw [e2] at e5; cases e5
        · rfl
      intro y hy
      have := ((hX y).mp (hmin y hy)).2
      rw [Bool.and_eq_true, decide_eq_true_iff] at this
      exact this.2
    rw [key a ha, key a' ha']
  have both : ∀ i j, i < ps.length → j < ps.length → i ≠ j → ∀ a a' b b', (gd ps i).testBit a = true → (gd ps i).testBit a' = true → (gd ps j).testBit b = true → (gd ps j).testBit b' = true → (rall nx a).testBit b = (rall nx a').testBit b' := by
    intro i j hi hj hij a a' b b' ha ha' hb hb'
    rw [left i j hi hj hij a a' b ha ha' hb, one i j hi hj hij a' b ha' hb, left j i hj hi (Ne.symm hij) b b' a' hb hb' ha', ← one i j hi hj hij a' b' ha' hb']
  refine ⟨hA, fun i j hi hj hij => ⟨fun e => ?_, one i j hi hj hij _ _ (lo i hi).2 (lo j hj).2, ?_⟩, fun i j k hi hj hk h1 h2 => rall_tr (lo i hi).1 (lo j hj).1 h1 h2⟩
  · have := p2 i j hi hj hij _ (lo i hi).2
    rw [← e, (lo i hi).2] at this
    cases this
  · unfold ltP ldI
    refine bool_iff ?_
    rw [anyU_iff]
    constructor
    · rintro ⟨x, hx, h⟩
      rw [Bool.and_eq_true, decide_eq_true_iff] at h
      obtain ⟨y, hy⟩ := Nat.exists_testBit_of_ne_zero h.2
      rw [Nat.testBit_and, Bool.and_eq_true] at hy
      rw [← both i j hi hj hij x _ y _ h.1 (lo i hi).2 hy.2 (lo j hj).2]
      exact hy.1
    · intro h
      refine ⟨loF (gd ps i), (lo i hi).1, ?_⟩
      rw [Bool.and_eq_true, decide_eq_true_iff]
      refine ⟨(lo i hi).2, fun h0 => ?_⟩
      have : (rall nx (loF (gd ps i)) &&& gd ps j).testBit (loF (gd ps j)) = true := by rw [Nat.testBit_and, h, (lo j hj).2]; rfl
      rw [h0, Nat.zero_testBit] at this
      cases this
/-! sorting -/
theorem swp_gd {ps : List Nat} {i j k : Nat} (hi : i < ps.length) (hj : j < ps.length) : gd (swp ps i j) k = if k = j then gd ps i else if k = i then gd ps j else gd ps k := by
  unfold swp
  rw [gd_set (by rw [List.length_set]; exact hj)]
  split
  · rfl
  · rw [gd_set hi]
/-- the same sets in another order -/
def SmP (ps qs : List Nat) : Prop := qs.length = ps.length ∧ (∀ i, i < ps.length → ∃ j, j < ps.length ∧ gd qs i = gd ps j) ∧ (∀ j, j < ps.length → ∃ i, i < ps.length ∧ gd qs i = gd ps j) ∧ ∀ i j, i < ps.length → j < ps.length → i ≠ j → gd qs i ≠ gd qs j
theorem SmP.swp {ps qs : List Nat} {i j : Nat} (h : SmP ps qs) (hi : i < ps.length) (hj : j < ps.length) : SmP ps (swp qs i j) := by
  obtain ⟨h1, h2, h3, h4⟩ := h
  have hg := fun k => swp_gd (ps := qs) (i := i) (j := j) (k := k) (by omega) (by omega)
  refine ⟨by rw [swp_len]; exact h1, fun k hk => ?_, fun k hk => ?_, fun k l hk hl hkl => ?_⟩
  · rw [hg]
    split
    · exact h2 i hi
    · split
      · exact h2 j hj
      · exact h2 k hk
  · obtain ⟨x, hx, e⟩ := h3 k hk
    by_cases e1 : x = i
    · refine ⟨j, hj, ?_⟩
      rw [hg, if_pos rfl, ← e1]; exact e
    · by_cases e2 : x = j
      · refine ⟨i, hi, ?_⟩
        rw [hg]
        split
        · rename_i e3; rw [e3, ← e2]; exact e
        · rw [if_pos rfl, ← e2]; exact e
      · refine ⟨x, hx, ?_⟩
        rw [hg, if_neg e2, if_neg e1]; exact e
  · rw [hg, hg]
    by_cases a1 : k = j
    · rw [if_pos a1]
      by_cases a2 : l = i
      · rw [if_neg (by omega), if_pos a2]
        exact h4 i j hi hj (by omega)
      · rw [if_neg (by omega), if_neg a2]
        exact h4 i l hi hl (by omega)
    · rw [if_neg a1]
      by_cases a3 : k = i
      · rw [if_pos a3]
        by_cases a2 : l = j
        · rw [if_pos a2]
          exact h4 j i hj hi (by omega)
        · rw [if_neg a2, if_neg (by omega)]
          exact h4 j l hj hl (by omega)
      · rw [if_neg a3]
        by_cases a2 : l = j
        · rw [if_pos a2]
          exact h4 k i hk hi (by omega)
        · rw [if_neg a2]
          by_cases a4 : l = i
          · rw [if_pos a4]
            exact h4 k j hk hj (by omega)
          · rw [if_neg a4]
            exact h4 k l hk hl hkl
theorem OrP.sm {rc : Nat → Nat} {ps qs : List Nat} (h : OrP rc ps) (hs : SmP ps qs) : OrP rc qs := by
  obtain ⟨h1, h2, h3⟩ := h
  obtain ⟨s1, s2, -, s4⟩ := hs
  rw [← s1] at s4
  refine ⟨fun i hi => ?_, fun i j hi hj hij => ?_, fun i j k hi hj hk => ?_⟩
  · obtain ⟨a, ha, e⟩ := s2 i (by omega)
    rw [e]; exact h1 a ha
  · have hne := s4 i j hi hj hij
    obtain ⟨a, ha, e⟩ := s2 i (by omega)
    obtain ⟨b, hb, e'⟩ := s2 j (by omega)
    rw [e, e'] at hne ⊢
    exact h2 a b ha hb (fun q => hne (by rw [q]))
  · obtain ⟨a, ha, e⟩ := s2 i (by omega)
    obtain ⟨b, hb, e'⟩ := s2 j (by omega)
    obtain ⟨c, hc, e''⟩ := s2 k (by omega)
    rw [e, e', e'']
    exact h3 a b c ha hb hc
theorem srt_sorted {rc : Nat → Nat} {ps : List Nat} (h : OrP rc ps) (hs0 : SmP ps ps) : SmP ps (srt rc ps ps.length) ∧ ∀ a b, a < b → b < ps.length → ltP rc (gd (srt rc ps ps.length) a) (gd (srt rc ps ps.length) b) = true := by
  have key : ∀ i, i ≤ ps.length → SmP ps (srt rc ps i) ∧ ∀ a b, a < i → a < b → b < ps.length → ltP rc (gd (srt rc ps i) a) (gd (srt rc ps i) b) = true := by
    intro i
    induction i with
    | zero => exact fun _ => ⟨hs0, fun a b ha => absurd ha (Nat.not_lt_zero a)⟩
    | succ i ih =>
      intro hi
      obtain ⟨i1, i2⟩ := ih (by omega)
      have e : srt rc ps (i + 1) = srtIn rc i (srt rc ps i) (ps.length - (i + 1)) := rfl
      rw [e]
      generalize srt rc ps i = qs at i1 i2
      have inn : ∀ t, i + 1 + t ≤ ps.length → SmP ps (srtIn rc i qs t) ∧ (∀ a b, a < i → a < b → b < ps.length → ltP rc (gd (srtIn rc i qs t) a) (gd (srtIn rc i qs t) b) = true) ∧ ∀ b, i < b → b < i + 1 + t → ltP rc (gd (srtIn rc i qs t) i) (gd (srtIn rc i qs t) b) = true := by
        intro t
        induction t with
        | zero => exact fun _ => ⟨i1, i2, fun b h1 h2 => absurd h1 (by omega)⟩
        | succ t iht =>
          intro ht
          obtain ⟨j1, j2, j3⟩ := iht (by omega)
          have e : srtIn rc i qs (t + 1) = srtS rc i (i + 1 + t) (srtIn rc i qs t) := rfl
          rw [e]
          generalize srtIn rc i qs t = rs at j1 j2 j3
          obtain ⟨o1, o2, o3⟩ := h.sm j1
          have hl := j1.1
          rw [hl] at o1 o2 o3
          unfold srtS
          obtain ⟨q1, q2, q3⟩ := o2 (i + 1 + t) i (by omega) (by omega) (by omega)
          rw [q3]
          by_cases hlt : ltP rc (gd rs (i + 1 + t)) (gd rs i) = true
          · rw [if_pos hlt]
            have hg := fun k => swp_gd (ps := rs) (i := i) (j := i + 1 + t) (k := k) (by omega) (by omega)
            refine ⟨j1.swp (by omega) (by omega), fun a b h1 h2 h3 => ?_, fun b h1 h2 => ?_⟩
            · rw [hg, hg, if_neg (by omega), if_neg (by omega)]
              split
              · exact j2 a i h1 h1 (by omega)
              · split
                · exact j2 a (i + 1 + t) h1 (by omega) (by omega)
                · exact j2 a b h1 h2 h3
            · rw [hg, hg, if_neg (by omega), if_pos rfl]
              by_cases hb : b = i + 1 + t
              · rw [if_pos hb]; exact hlt
              · rw [if_neg hb, if_neg (by omega)]
                exact o3 (i + 1 + t) i b (by omega) (by omega) (by omega) hlt (j3 b h1 (by omega))
          · rw [if_neg hlt]
            refine ⟨j1, j2, fun b h1 h2 => ?_⟩
            by_cases hb : b = i + 1 + t
            · rw [hb]
              have := (o2 i (i + 1 + t) (by omega) (by omega) (by omega)).2.1
              rw [this, eq_false_of_ne_true hlt]; rfl
            · exact j3 b h1 (by omega)
      obtain ⟨k1, k2, k3⟩ := inn (ps.length - (i + 1)) (by omega)
      refine ⟨k1, fun a b h1 h2 h3 => ?_⟩
      by_cases ha : a = i
      · rw [ha]; exact k3 b (by omega) (by omega)
      · exact k2 a b (by omega) h2 h3
  obtain ⟨k1, k2⟩ := key ps.length (Nat.le_refl _)
  exact ⟨k1, fun a b h1 h2 => k2 a b (by omega) h1 h2⟩
/-- how many of the first k numbers are so -/
def cnt (c : Nat → Bool) (k : Nat) : Nat := it (fun i s => if c i = true then s + 1 else s) 0 k
theorem cnt_s {c : Nat → Bool} {k : Nat} : cnt c (k + 1) = if c k = true then cnt c k + 1 else cnt c k := rfl
theorem cnt_le {c d : Nat → Bool} : ∀ k, (∀ i, i < k → c i = true → d i = true) → cnt c k ≤ cnt d k
  | 0, _ => Nat.le_refl _
  | k + 1, h => by
    have ih := cnt_le (c := c) (d := d) k (fun i hi => h i (by omega))
    rw [cnt_s, cnt_s]
    by_cases h1 : c k = true
    · rw [if_pos h1, if_pos (h k (by omega) h1)]; omega
    · rw [if_neg h1]
      split <;> omega
theorem cnt_lt {c d : Nat → Bool} {x : Nat} : ∀ k, (∀ i, i < k → c i = true → d i = true) → x < k → c x = false → d x = true → cnt c k + 1 ≤ cnt d k
  | 0, _, h, _, _ => absurd h (Nat.not_lt_zero _)
  | k + 1, h, hx, h1, h2 => by
    rw [cnt_s, cnt_s]
    by_cases e : x = k
    · subst e
      have := cnt_le (c := c) (d := d) x (fun i hi => h i (by omega))
      rw [if_neg (by rw [h1]; decide), if_pos h2]; omega
    · have ih := cnt_lt (c := c) (d := d) k (fun i hi => h i (by omega)) (by omega) h1 h2
      by_cases h3 : c k = true
      · rw [if_pos h3, if_pos (h k (by omega) h3)]; omega
      · rw [if_neg h3]
        split <;> omega
theorem cnt_miss {c : Nat → Bool} {x : Nat} : ∀ k, x < k → c x = false → cnt c k + 1 ≤ k
  | 0, h, _ => absurd h (Nat.not_lt_zero _)
  | k + 1, hx, h1 => by
    rw [cnt_s]
    by_cases e : x = k
    · subst e
      have : ∀ m, cnt c m ≤ m := fun m => by
        induction m with
        | zero => exact Nat.le_refl _
        | succ m ih => rw [cnt_s]; split <;> omega
      have := this x
      rw [if_neg (by rw [h1]; decide)]; omega
    · have ih := cnt_miss (c := c) k (by omega) h1
      split <;> omega
theorem ahF_cnt {rc : Nat → Nat} {ps : List Nat} {x k : Nat} : ahF rc ps x k = cnt (fun i => decide (gd ps i ≠ x) && ltP rc (gd ps i) x) k := by
  unfold ahF cnt ltP
  refine it_cong k (fun i s _ => ?_)
  by_cases h : gd ps i ≠ x ∧ (rc (loF (gd ps i))).testBit (loF x) = true
  · rw [if_pos h, if_pos (by rw [Bool.and_eq_true, decide_eq_true_iff]; exact h)]
  · rw [if_neg h, if_neg (by rw [Bool.and_eq_true, decide_eq_true_iff]; exact h)]
/-- whoever is behind has more ahead of it -/
theorem ahF_lt {rc : Nat → Nat} {ps : List Nat} (h : OrP rc ps) {i j : Nat} (hi : i < ps.length) (hj : j < ps.length) (hl : ltP rc (gd ps i) (gd ps j) = true) (hij : i ≠ j) : ahF rc ps (gd ps i) ps.length + 1 ≤ ahF rc ps (gd ps j) ps.length := by
  obtain ⟨h1, h2, h3⟩ := h
  rw [ahF_cnt, ahF_cnt]
  refine cnt_lt (x := i) ps.length (fun k hk hc => ?_) hi ?_ ?_
  · rw [Bool.and_eq_true, decide_eq_true_iff] at hc ⊢
    refine ⟨fun e => ?_, h3 k i j hk hi hj hc.2 hl⟩
    rw [e] at hc
    have := (h2 i j hi hj hij).2.1
    rw [hl, hc.2] at this
    cases this
  · rw [decide_eq_false (fun h => h rfl), Bool.false_and]
  · rw [decide_eq_true (h2 i j hi hj hij).1, hl]; rfl
theorem ahF_le {rc : Nat → Nat} {ps : List Nat} {i : Nat} (hi : i < ps.length) : ahF rc ps (gd ps i) ps.length + 1 ≤ ps.length := by
  rw [ahF_cnt]
  exact cnt_miss ps.length hi (by rw [decide_eq_false (fun h => h rfl), Bool.false_and])
theorem sq_id {g : Nat → Nat} {m : Nat} (h1 : ∀ a, a + 1 < m → g a + 1 ≤ g (a + 1)) (h2 : ∀ a, a < m → g a + 1 ≤ m) : ∀ a, a < m → g a = a := by
  have lo : ∀ a, a < m → a ≤ g a := by
    intro a
    induction a with
    | zero => exact fun _ => Nat.zero_le _
    | succ a ih => exact fun h => by have := ih (by omega); have := h1 a h; omega
  have up : ∀ e a, a + e + 1 = m → g a ≤ a := by
    intro e
    induction e with
    | zero => exact fun a h => by have := h2 a (by omega); omega
    | succ e ih => exact fun a h => by have := ih (a + 1) (by omega); have := h1 a (by omega); omega
  exact fun a ha => Nat.le_antisymm (up (m - a - 1) a (by omega)) (lo a ha)
theorem orI_none {rc : Nat → Nat} {ps : List Nat} {pl : Nat} {l : List Nat} : ∀ k, (∀ i, i < k → ahF rc ps (gd ps i) ps.length ≠ pl) → orI rc ps pl l k = l
  | 0, _ => rfl
  | k + 1, h => by
    have e : orI rc ps pl l (k + 1) = if ahF rc ps (gd ps k) ps.length = pl then orI rc ps pl l k ++ [gd ps k] else orI rc ps pl l k := rfl
    rw [e, if_neg (h k (by omega)), orI_none k (fun i hi => h i (by omega))]
theorem orI_one {rc : Nat → Nat} {ps : List Nat} {pl x : Nat} {l : List Nat} : ∀ k, (∀ i, i < k → i ≠ x → ahF rc ps (gd ps i) ps.length ≠ pl) → x < k → ahF rc ps (gd ps x) ps.length = pl → orI rc ps pl l k = l ++ [gd ps x]
  | 0, _, h, _ => absurd h (Nat.not_lt_zero _)
  | k + 1, h, hx, he => by
    have e : orI rc ps pl l (k + 1) = if ahF rc ps (gd ps k) ps.length = pl then orI rc ps pl l k ++ [gd ps k] else orI rc ps pl l k := rfl
    rw [e]
    by_cases ex : x = k
    · subst ex
      rw [if_pos he, orI_none x (fun i hi => h i (by omega) (by omega))]
    · rw [if_neg (h k (by omega) (fun q => ex q.symm)), orI_one k (fun i hi => h i (by omega)) (by omega) he]
theorem ext_gd {l1 l2 : List Nat} (hl : l1.length = l2.length) (h : ∀ i, i < l1.length → gd l1 i = gd l2 i) : l1 = l2 := by
  apply List.ext_getElem hl
  intro i h1 h2
  have := h i h1
  unfold gd at this
  rw [List.getD_eq_getElem?_getD, List.getD_eq_getElem?_getD, List.getElem?_eq_getElem h1, List.getElem?_eq_getElem h2] at this
  exact this
/-- the model puts parts into the same order as the miner -/
theorem order_eq {rc : Nat → Nat} {ps : List Nat} (h : OrP rc ps) : orM rc ps ps.length = srt rc ps ps.length := by
  have hs0 : SmP ps ps := ⟨rfl, fun i hi => ⟨i, hi, rfl⟩, fun i hi => ⟨i, hi, rfl⟩, fun i j hi hj hij => (h.2.1 i j hi hj hij).1⟩
  obtain ⟨hs, hsort⟩ := srt_sorted h hs0
  generalize srt rc ps ps.length = L at hs hsort
  obtain ⟨s1, s2, s3, s4⟩ := hs
  -- who stands at place k has k ahead of it
  have rank : ∀ k, k < ps.length → ahF rc ps (gd L k) ps.length = k := by
    refine sq_id (g := fun k => ahF rc ps (gd L k) ps.length) (fun k hk => ?_) (fun k hk => ?_)
    · obtain ⟨i, hi, e⟩ := s2 k (by omega)
      obtain ⟨j, hj, e'⟩ := s2 (k + 1) hk
      have hl := hsort k (k + 1) (by omega) hk
      have hne := s4 k (k + 1) (by omega) hk (by omega)
      rw [e, e'] at hl hne ⊢
      exact ahF_lt h hi hj hl (fun q => hne (by rw [q]))
    · obtain ⟨i, hi, e⟩ := s2 k (by omega)
      rw [e]
      exact ahF_le hi
  have inj : ∀ i j, i < ps.length → j < ps.length → i ≠ j → ahF rc ps (gd ps i) ps.length ≠ ahF rc ps (gd ps j) ps.length := by
    intro i j hi hj hij hq
    obtain ⟨-, h2, -⟩ := h.2.1 i j hi hj hij
    cases hb : ltP rc (gd ps i) (gd ps j)
    · have hc : ltP rc (gd ps j) (gd ps i) = true := by
        rw [hb] at h2
        cases q : ltP rc (gd ps j) (gd ps i)
        · rw [q] at h2; cases h2
        · rfl
      have := ahF_lt h hj hi hc (Ne.symm hij)
      omega
    · have := ahF_lt h hi hj hb hij
      omega
  have key : ∀ k, k ≤ ps.length → (orM rc ps k).length = k ∧ ∀ i, i < k → gd (orM rc ps k) i = gd L i := by
    intro k
    induction k with
    | zero => exact fun _ => ⟨rfl, fun i hi => absurd hi (Nat.not_lt_zero i)⟩
    | succ k ih =>
      intro hk
      obtain ⟨i1, i2⟩ := ih (by omega)
      obtain ⟨x, hx, e⟩ := s2 k (by omega)
      have hrx := rank k (by omega)
      rw [e] at hrx
      have hone : orM rc ps (k + 1) = orM rc ps k ++ [gd ps x] := by
        rw [orM_s]
        exact orI_one ps.length (fun i hi hix => by rw [← hrx]; exact inj i x hi hx hix) hx hrx
      rw [hone]
      refine ⟨by rw [List.length_append, i1]; rfl, fun i hi => ?_⟩
      rw [gd_snoc, i1]
      split
      · rename_i q; rw [q]; exact e.symm
      · exact i2 i (by omega)
  obtain ⟨k1, k2⟩ := key ps.length (Nat.le_refl _)
  exact ext_gd (by rw [k1, s1]) (fun i hi => k2 i (by omega))
end CQ3
