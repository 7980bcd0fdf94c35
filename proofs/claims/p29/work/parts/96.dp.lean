section DP1
/-- sets that are apart, within another one, and together all of it -/
def DP (u : Nat) (ps : List Nat) : Prop := (∀ i, i < ps.length → 0 < gd ps i ∧ Sb (gd ps i) u) ∧ (∀ i j, i < ps.length → j < ps.length → i ≠ j → ∀ y, (gd ps i).testBit y = true → (gd ps j).testBit y = false) ∧ ∀ y, u.testBit y = true → ∃ i, i < ps.length ∧ (gd ps i).testBit y = true
theorem Prt.dp {nr : Nat → Nat} {set : Nat} {ps : List Nat} (h : Prt nr set ps) : DP set ps := ⟨h.1, h.2.1, h.2.2.1⟩
theorem DP.sm {u : Nat} {ps qs : List Nat} (h : DP u ps) (hs : SmP ps qs) : DP u qs := by
  obtain ⟨h1, h2, h3⟩ := h
  obtain ⟨s1, s2, s3, s4⟩ := hs
  refine ⟨fun i hi => ?_, fun i j hi hj hij y hy => ?_, fun y hy => ?_⟩
  · obtain ⟨a, ha, e⟩ := s2 i (by omega)
    rw [e]; exact h1 a ha
  · obtain ⟨a, ha, e⟩ := s2 i (by omega)
    obtain ⟨b, hb, e'⟩ := s2 j (by omega)
    have hne := s4 i j (by omega) (by omega) hij
    rw [e, e'] at hne
    rw [e] at hy
    rw [e']
    exact h2 a b ha hb (fun q => hne (by rw [q])) y hy
  · obtain ⟨a, ha, q⟩ := h3 y hy
    obtain ⟨i, hi, e⟩ := s3 a ha
    exact ⟨i, by omega, by rw [e]; exact q⟩
theorem dp_jn {u j : Nat} {ps : List Nat} (h : DP u ps) (h1 : 1 ≤ j) (hj : j < ps.length) : DP u (jn ps j) := by
  obtain ⟨p1, p2, p3⟩ := h
  have hl := jn_len hj
  have hg := fun x => jn_gd (ps := ps) (j := j) (x := x) h1 hj
  have g0 : gd (jn ps j) 0 = gd ps 0 ||| gd ps j := by rw [hg, if_pos (by omega), if_pos rfl]
  have gs : ∀ x, x ≠ 0 → gd (jn ps j) x = gd ps (if x < j then x else x + 1) := fun x hx => by
    rw [hg]
    by_cases q : x < j
    · rw [if_pos q, if_neg hx, if_pos q]
    · rw [if_neg q, if_neg q]
  have big : ∀ x, x ≠ 0 → x < (jn ps j).length → (if x < j then x else x + 1) < ps.length ∧ (if x < j then x else x + 1) ≠ 0 ∧ (if x < j then x else x + 1) ≠ j := fun x hx hl2 => by
    split <;> omega
  have orb : ∀ y, (gd ps 0 ||| gd ps j).testBit y = true ↔ (gd ps 0).testBit y = true ∨ (gd ps j).testBit y = true := fun y => by rw [Nat.testBit_or, Bool.or_eq_true]
  refine ⟨fun i hi => ?_, fun i k hi hk hik y hy => ?_, fun y hy => ?_⟩
  · by_cases e : i = 0
    · subst e
      rw [g0]
      refine ⟨Nat.lt_of_lt_of_le (p1 0 (by omega)).1 Nat.left_le_or, fun y hy => ?_⟩
      exact ((orb y).mp hy).elim ((p1 0 (by omega)).2 y) ((p1 j hj).2 y)
    · rw [gs i e]
      exact p1 _ (big i e hi).1
  · by_cases e : i = 0
    · subst e
      rw [g0] at hy
      obtain ⟨b1, b2, b3⟩ := big k (fun q => hik q.symm) hk
      rw [gs k (fun q => hik q.symm)]
      rcases (orb y).mp hy with q | q
      · exact p2 0 _ (by omega) b1 (fun q => b2 q.symm) y q
      · exact p2 j _ hj b1 (fun q => b3 q.symm) y q
    · obtain ⟨b1, b2, b3⟩ := big i e hi
      rw [gs i e] at hy
      by_cases e2 : k = 0
      · subst e2
        rw [g0, Nat.testBit_or, p2 _ 0 b1 (by omega) b2 y hy, p2 _ j b1 hj b3 y hy]
        rfl
      · rw [gs k e2]
        have b4 := (big k e2 hk).1
        refine p2 _ _ b1 b4 ?_ y hy
        split <;> split <;> omega
  · obtain ⟨i, hi, q⟩ := p3 y hy
    by_cases e : i = 0 ∨ i = j
    · refine ⟨0, by omega, ?_⟩
      rw [g0, orb]
      rcases e with e | e
      · rw [e] at q; exact Or.inl q
      · rw [e] at q; exact Or.inr q
    · by_cases e2 : i < j
      · refine ⟨i, by omega, ?_⟩
        rw [gs i (by omega), if_pos e2]; exact q
      · refine ⟨i - 1, by omega, ?_⟩
        rw [gs (i - 1) (by omega), if_neg (by omega), show i - 1 + 1 = i by omega]; exact q
theorem dp_jl {u b e : Nat} : ∀ (n : Nat) (ps : List Nat), DP u ps → DP u (jl b e n ps)
  | 0, _, h => h
  | n + 1, ps, h => by
    rw [jl]
    split
    · rename_i hc
      exact dp_jl n _ (dp_jn h (by split <;> omega) (by split <;> omega))
    · exact h
/-- as many labels in all parts as in the whole -/
theorem dp_popc {u : Nat} {ps : List Nat} (h : DP u ps) (hu : u < 256) : ∀ k, k ≤ ps.length → ∃ r, r < 256 ∧ (∀ y, r.testBit y = true ↔ (u.testBit y = true ∧ ∀ i, i < k → (gd ps i).testBit y = false)) ∧ it (fun i s => s + popc (gd ps i)) 0 k + popc r = popc u
  | 0, _ => ⟨u, hu, fun y => ⟨fun q => ⟨q, fun i hi => absurd hi (Nat.not_lt_zero i)⟩, fun q => q.1⟩, Nat.zero_add _⟩
  | k + 1, hk => by
    obtain ⟨r, h1, h2, h3⟩ := dp_popc h hu k (by omega)
    obtain ⟨p1, p2, p3⟩ := h
    have e : r &&& gd ps k = gd ps k := by
      apply Nat.eq_of_testBit_eq
      intro y
      rw [Nat.testBit_and]
      cases q : (gd ps k).testBit y
      · rw [Bool.and_false]
      · rw [(h2 y).mpr ⟨(p1 k (by omega)).2 y q, fun i hi => p2 k i (by omega) (by omega) (by omega) y q⟩]; rfl
    have hp := popc_and (a := r) (b := gd ps k)
    rw [e] at hp
    refine ⟨andn r (gd ps k), andn_lt8 h1, fun y => ?_, by rw [it_s]; omega⟩
    rw [andn_t, h2]
    constructor
    · rintro ⟨⟨a1, a2⟩, a3⟩
      refine ⟨a1, fun i hi => ?_⟩
      by_cases ei : i = k
      · rw [ei]; exact a3
      · exact a2 i (by omega)
    · rintro ⟨a1, a2⟩
      exact ⟨⟨a1, fun i hi => a2 i (by omega)⟩, a2 k (by omega)⟩
def smP (ps : List Nat) (k : Nat) : Nat := it (fun i s => s + popc (gd ps i)) 0 k
theorem dp_sum {u : Nat} {ps : List Nat} (h : DP u ps) (hu : u < 256) : smP ps ps.length = popc u := by
  obtain ⟨r, h1, h2, h3⟩ := dp_popc h hu ps.length (Nat.le_refl _)
  have h0 : r = 0 := by
    apply Nat.eq_of_testBit_eq
    intro y
    rw [Nat.zero_testBit]
    cases q : r.testBit y
    · rfl
    · obtain ⟨a1, a2⟩ := (h2 y).mp q
      obtain ⟨i, hi, q2⟩ := h.2.2 y a1
      rw [a2 i hi] at q2
      cases q2
  rw [h0] at h3
  exact h3
theorem agK_dp {nx : Nat → Nat} {be en u : Nat} {ps : List Nat} (hP : DP (andn u (be ||| en)) ps) (hfs : Sb (be ||| en) u) (hf : be ||| en ≠ 0) : DP u (agF nx be en ps ps.length :: agK nx be en ps ps.length) := by
  obtain ⟨p1, p2, p3⟩ := hP
  -- where a kept part stood
  have kept : ∀ k, k ≤ ps.length → (∀ i, i < (agK nx be en ps k).length → ∃ t, t < k ∧ btf nx be en (gd ps t) = false ∧ gd (agK nx be en ps k) i = gd ps t) ∧ (∀ t, t < k → btf nx be en (gd ps t) = false → ∃ i, i < (agK nx be en ps k).length ∧ gd (agK nx be en ps k) i = gd ps t) ∧ ∀ i j, i < (agK nx be en ps k).length → j < (agK nx be en ps k).length → i ≠ j → ∀ y, (gd (agK nx be en ps k) i).testBit y = true → (gd (agK nx be en ps k) j).testBit y = false := by
    intro k
    induction k with
    | zero => exact fun _ => ⟨fun i hi => absurd hi (Nat.not_lt_zero i), fun t ht => absurd ht (Nat.not_lt_zero t), fun i j hi => absurd hi (Nat.not_lt_zero i)⟩
    | succ k ih =>
      intro hk
      obtain ⟨i1, i2, i3⟩ := ih (by omega)
      have e2 : agK nx be en ps (k + 1) = if btf nx be en (gd ps k) = true then agK nx be en ps k else agK nx be en ps k ++ [gd ps k] := rfl
      rw [e2]
      cases hb : btf nx be en (gd ps k)
      · rw [if_neg (by decide)]
        generalize agK nx be en ps k = l at i1 i2 i3
        have hlen : (l ++ [gd ps k]).length = l.length + 1 := by rw [List.length_append]; rfl
        refine ⟨fun i hi => ?_, fun t ht hq => ?_, fun i j hi hj hij y hy => ?_⟩
        · rw [hlen] at hi
          rw [gd_snoc]
          by_cases ei : i = l.length
          · rw [if_pos ei]; exact ⟨k, by omega, hb, rfl⟩
          · rw [if_neg ei]
            obtain ⟨t, h1, h2, h3⟩ := i1 i (by omega)
            exact ⟨t, by omega, h2, h3⟩
        · by_cases et : t = k
          · exact ⟨l.length, by omega, by rw [gd_snoc, if_pos rfl, et]⟩
          · obtain ⟨i, h1, h2⟩ := i2 t (by omega) hq
            exact ⟨i, by omega, by rw [gd_snoc, if_neg (by omega)]; exact h2⟩
        · rw [hlen] at hi hj
          rw [gd_snoc] at hy ⊢
          by_cases ei : i = l.length
          · rw [if_pos ei] at hy
            rw [if_neg (by omega)]
            obtain ⟨t, h1, -, h3⟩ := i1 j (by omega)
            rw [h3]
            exact p2 k t (by omega) (by omega) (by omega) y hy
          · rw [if_neg ei] at hy
            by_cases ej : j = l.length
            · rw [if_pos ej]
              obtain ⟨t, h1, -, h3⟩ := i1 i (by omega)
              rw [h3] at hy
              exact p2 t k (by omega) (by omega) (by omega) y hy
            · rw [if_neg ej]
              exact i3 i j (by omega) (by omega) hij y hy
      · rw [if_pos rfl]
        refine ⟨fun i hi => ?_, fun t ht hq => ?_, i3⟩
        · obtain ⟨t, h1, h2, h3⟩ := i1 i hi
          exact ⟨t, by omega, h2, h3⟩
        · by_cases et : t = k
          · rw [et, hb] at hq; cases hq
          · exact i2 t (by omega) hq
  obtain ⟨k1, k2, k3⟩ := kept ps.length (Nat.le_refl _)
  have hF := fun y => agF_bit (nx := nx) (be := be) (en := en) (ps := ps) (y := y) ps.length
  generalize agK nx be en ps ps.length = l at k1 k2 k3
  generalize agF nx be en ps ps.length = F at hF
  have hg : ∀ i, gd (F :: l) i = if i = 0 then F else gd l (i - 1) := fun i => gd_cons
  have hlen : (F :: l).length = l.length + 1 := rfl
  have hFl : ∀ i, i < l.length → ∀ y, F.testBit y = true → (gd l i).testBit y = false := by
    intro i hi y hy
    obtain ⟨t, h1, h2, h3⟩ := k1 i hi
    rw [h3]
    rcases (hF y).mp hy with q | ⟨t', g1, g2, g3⟩
    · cases q2 : (gd ps t).testBit y
      · rfl
      · have := (andn_t.mp ((p1 t h1).2 y q2)).2
        rw [q] at this; cases this
    · exact p2 t' t g1 h1 (fun q => by rw [q, h2] at g2; cases g2) y g3
  refine ⟨fun i hi => ?_, fun i j hi hj hij y hy => ?_, fun y hy => ?_⟩
  · rw [hg]
    by_cases ei : i = 0
    · rw [if_pos ei]
      refine ⟨?_, fun y hy => ?_⟩
      · rcases Nat.eq_zero_or_pos F with q | q
        · obtain ⟨y, hy⟩ := Nat.exists_testBit_of_ne_zero hf
          have := (hF y).mpr (Or.inl hy)
          rw [q, Nat.zero_testBit] at this; cases this
        · exact q
      · rcases (hF y).mp hy with q | ⟨t', g1, -, g3⟩
        · exact hfs y q
        · exact (andn_t.mp ((p1 t' g1).2 y g3)).1
    · rw [if_neg ei]
      obtain ⟨t, h1, -, h3⟩ := k1 (i - 1) (by omega)
      rw [h3]
      exact ⟨(p1 t h1).1, fun y hy => (andn_t.mp ((p1 t h1).2 y hy)).1⟩
  · rw [hg] at hy ⊢
    by_cases ei : i = 0
    · rw [if_pos ei] at hy
      rw [if_neg (by omega)]
      exact hFl (j - 1) (by omega) y hy
    · rw [if_neg ei] at hy
      by_cases ej : j = 0
      · rw [if_pos ej]
        cases q : F.testBit y
        · rfl
        · rw [hFl (i - 1) (by omega) y q] at hy; cases hy
      · rw [if_neg ej]
        exact k3 (i - 1) (j - 1) (by omega) (by omega) (by omega) y hy
  · cases q : (be ||| en).testBit y
    · obtain ⟨t, g1, g2⟩ := p3 y (andn_t.mpr ⟨hy, q⟩)
      cases hb : btf nx be en (gd ps t)
      · obtain ⟨i, h1, h2⟩ := k2 t g1 hb
        exact ⟨i + 1, by omega, by rw [hg, if_neg (by omega), Nat.add_sub_cancel, h2]; exact g2⟩
      · exact ⟨0, by omega, by rw [hg, if_pos rfl]; exact (hF y).mpr (Or.inr ⟨t, g1, hb, g2⟩)⟩
    · exact ⟨0, by omega, by rw [hg, if_pos rfl]; exact (hF y).mpr (Or.inl q)⟩
/-- how a log is cut, all in one -/
def CutD (tr : List (List Nat)) (kd : Nat) (ps : List Nat) : Prop :=
  (moL tr = 0 ∧ kd = 0 ∧ ps = []) ∨ (moL tr ≠ 0 ∧ emB tr tr.length = true ∧ kd = 2 ∧ ps = [moL tr]) ∨ (moL tr ≠ 0 ∧ emB tr tr.length = false ∧ popc (moL tr) = 1 ∧ (kd = 1 ∨ kd = 5) ∧ ps = []) ∨ (moL tr ≠ 0 ∧ emB tr tr.length = false ∧ 2 ≤ popc (moL tr) ∧ kd = 6 ∧ ps = []) ∨ (moL tr ≠ 0 ∧ emB tr tr.length = false ∧ 2 ≤ popc (moL tr) ∧ (kd = 2 ∨ kd = 3 ∨ kd = 4 ∨ kd = 5) ∧ 2 ≤ ps.length ∧ ps.length ≤ 8 ∧ DP (moL tr) ps)
theorem dp_len {u : Nat} {ps : List Nat} (h : DP u ps) (hu : u < 256) : ps.length ≤ 8 := by
  have h1 := dp_sum h hu
  have h2 := popc_le8 hu
  have h3 : ∀ k, k ≤ ps.length → k ≤ smP ps k := by
    intro k
    induction k with
    | zero => exact fun _ => Nat.zero_le _
    | succ k ih =>
      intro hk
      have h9 := h.1 k (by omega)
      have h8 : gd ps k < 256 := lt_of_bits (k := 8) (fun i hi => by
        cases q : (gd ps k).testBit i
        · rfl
        · have := bit8 hu (h9.2 i q); omega)
      have := popc_pos1 h8 h9.1
      have := ih (by omega)
      show k + 1 ≤ smP ps k + popc (gd ps k)
      omega
  have := h3 ps.length (Nat.le_refl _)
  omega
theorem cutD {tr : List (List Nat)} (hg : GoodM tr) : CutD tr (cutT tr).1 (cutT tr).2 := by
  have hl : LabL tr := hg.1.1
  have q := cutQ hg
  rw [q.1]
  have hu : moL tr < 256 := lbL_lt hl
  have hb : ∀ j, j < 8 → moF tr j < 256 := foL_lt hl (Nat.le_refl _)
  unfold cutM CutD
  by_cases h0 : moL tr = 0
  · rw [if_pos h0]
    exact Or.inl ⟨h0, rfl, rfl⟩
  · rw [if_neg h0]
    have hpp := popc_pos1 hu (by omega)
    cases hem : emB tr tr.length
    · rw [if_neg Bool.false_ne_true]
      by_cases h1 : popc (moL tr) = 1
      · rw [if_pos h1]
        cases siB tr tr.length
        · rw [if_neg Bool.false_ne_true]
          exact Or.inr (Or.inr (Or.inl ⟨h0, rfl, h1, Or.inr rfl, rfl⟩))
        · rw [if_pos rfl]
          exact Or.inr (Or.inr (Or.inl ⟨h0, rfl, h1, Or.inl rfl, rfl⟩))
      · rw [if_neg h1]
        have fin : ∀ kd ps, (kd = 2 ∨ kd = 3 ∨ kd = 4 ∨ kd = 5) → 2 ≤ ps.length → DP (moL tr) ps → (moL tr = 0 ∧ (kd, ps).1 = 0 ∧ (kd, ps).2 = []) ∨ (moL tr ≠ 0 ∧ false = true ∧ (kd, ps).1 = 2 ∧ (kd, ps).2 = [moL tr]) ∨ (moL tr ≠ 0 ∧ false = false ∧ popc (moL tr) = 1 ∧ ((kd, ps).1 = 1 ∨ (kd, ps).1 = 5) ∧ (kd, ps).2 = []) ∨ (moL tr ≠ 0 ∧ false = false ∧ 2 ≤ popc (moL tr) ∧ (kd, ps).1 = 6 ∧ (kd, ps).2 = []) ∨ (moL tr ≠ 0 ∧ false = false ∧ 2 ≤ popc (moL tr) ∧ ((kd, ps).1 = 2 ∨ (kd, ps).1 = 3 ∨ (kd, ps).1 = 4 ∨ (kd, ps).1 = 5) ∧ 2 ≤ (kd, ps).2.length ∧ (kd, ps).2.length ≤ 8 ∧ DP (moL tr) (kd, ps).2) := fun kd ps a1 a2 a3 => Or.inr (Or.inr (Or.inr (Or.inr ⟨h0, rfl, by omega, a1, a2, dp_len a3 hu, a3⟩)))
        by_cases h2 : 2 ≤ (mp2 tr).length
        · rw [if_pos h2]
          exact fin 2 _ (Or.inl rfl) h2 (paL_prt (nj_link hb) hu).dp
        · rw [if_neg h2]
          by_cases h3 : 2 ≤ (mq3 tr).length
          · rw [if_pos h3]
            have hop : OrP (rall (moF tr)) (mq3 tr) := order_parts hu
            have hs0 : SmP (mq3 tr) (mq3 tr) := ⟨rfl, fun i hi => ⟨i, hi, rfl⟩, fun i hi => ⟨i, hi, rfl⟩, fun i j hi hj hij => (hop.2.1 i j hi hj hij).1⟩
            have hsm := (srt_sorted hop hs0).1
            have he : mp3 tr = srt (rall (moF tr)) (mq3 tr) (mq3 tr).length := order_eq hop
            rw [he]
            exact fin 3 _ (Or.inr (Or.inl rfl)) (by rw [hsm.1]; exact h3) ((paL_prt nj_order hu).dp.sm hsm)
          · rw [if_neg h3]
            by_cases h4 : 2 ≤ (mp4 tr).length
            · rw [if_pos h4]
              exact fin 4 _ (Or.inr (Or.inr (Or.inl rfl))) h4 (dp_jl 8 _ (paL_prt nj_both hu).dp)
            · rw [if_neg h4]
              obtain ⟨g1, g2⟩ := again_eq hl h0 hem
              by_cases h5 : (mq5 tr).1 ≠ moL tr
              · rw [if_pos h5]
                have hlen := g2.mpr h5
                rw [g1] at hlen
                have hfn := first_ne h0 hem
                have hfs : Sb (moB tr ||| moE tr) (moL tr) := fun i hi => by
                  rw [Nat.testBit_or, Bool.or_eq_true] at hi
                  exact hi.elim (edge_sub (e := false) i) (edge_sub (e := true) i)
                have hset : andn (moL tr) (moB tr ||| moE tr) < 256 := andn_lt8 hu
                obtain ⟨m1, m2⟩ := mq5_eq hb (paL_prt (nj_link hb) hset) (paL_all (jn := moF tr) hset) (egL_lt hl) (egL_lt hl)
                have he : mp5 tr = agF (moF tr) (moB tr) (moE tr) (paL (andn (moL tr) (moB tr ||| moE tr)) (moF tr)) (paL (andn (moL tr) (moB tr ||| moE tr)) (moF tr)).length :: agK (moF tr) (moB tr) (moE tr) (paL (andn (moL tr) (moB tr ||| moE tr)) (moF tr)) (paL (andn (moL tr) (moB tr ||| moE tr)) (moF tr)).length := by
                  unfold mp5 mq5
                  exact congr (congrArg List.cons m1) m2
                refine fin 5 _ (Or.inr (Or.inr (Or.inr rfl))) hlen ?_
                rw [he]
                exact agK_dp (paL_prt (nj_link hb) hset).dp hfs hfn
              · rw [if_neg h5]
                exact Or.inr (Or.inr (Or.inr (Or.inl ⟨h0, rfl, by omega, rfl, rfl⟩)))
    · rw [if_pos rfl]
      exact Or.inr (Or.inl ⟨h0, rfl, rfl, rfl⟩)
end DP1
