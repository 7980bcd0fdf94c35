section PCUTX
/-- how a log is cut, with what is known of the parts -/
def CutX (tr : List (List Nat)) (kd : Nat) (ps : List Nat) : Prop :=
  (moL tr = 0 ∧ kd = 0 ∧ ps = []) ∨ (moL tr ≠ 0 ∧ emB tr tr.length = true ∧ kd = 2 ∧ ps = [moL tr]) ∨
  (emB tr tr.length = false ∧ popc (moL tr) = 1 ∧ ps = [] ∧ ((kd = 1 ∧ siB tr tr.length = true) ∨ kd = 5)) ∨
  (kd = 6 ∧ ps = []) ∨
  (emB tr tr.length = false ∧ 2 ≤ ps.length ∧ kd = 2 ∧ Prt (linkV (moF tr)) (moL tr) ps) ∨
  (emB tr tr.length = false ∧ 2 ≤ ps.length ∧ kd = 3 ∧ DP (moL tr) ps ∧ ∀ a b, a < b → b < ps.length → ldI (rall (moF tr)) (gd ps b) (gd ps a) = false) ∨
  (emB tr tr.length = false ∧ 2 ≤ ps.length ∧ kd = 4 ∧ DP (moL tr) ps) ∨
  (emB tr tr.length = false ∧ 2 ≤ ps.length ∧ kd = 5 ∧ DP (moL tr) ps ∧ Sb (moB tr ||| moE tr) (gd ps 0) ∧ ∀ i j, 1 ≤ i → 1 ≤ j → i < ps.length → j < ps.length → i ≠ j → ∀ x y, (gd ps i).testBit x = true → (gd ps j).testBit y = true → (moF tr x).testBit y = false)
theorem agK_mem {nx : Nat → Nat} {be en : Nat} {ps : List Nat} : ∀ k, k ≤ ps.length → ∀ i, i < (agK nx be en ps k).length → ∃ t, t < k ∧ gd (agK nx be en ps k) i = gd ps t
  | 0, _, i, h => absurd h (Nat.not_lt_zero i)
  | k + 1, hk, i, h => by
    have e : agK nx be en ps (k + 1) = if btf nx be en (gd ps k) = true then agK nx be en ps k else agK nx be en ps k ++ [gd ps k] := rfl
    rw [e] at h ⊢
    by_cases c : btf nx be en (gd ps k) = true
    · rw [if_pos c] at h ⊢
      obtain ⟨t, h1, h2⟩ := agK_mem k (by omega) i h
      exact ⟨t, by omega, h2⟩
    · rw [if_neg c] at h ⊢
      rw [gd_snoc]
      by_cases c2 : i = (agK nx be en ps k).length
      · rw [if_pos c2]; exact ⟨k, by omega, rfl⟩
      · rw [if_neg c2]
        rw [List.length_append, List.length_singleton] at h
        obtain ⟨t, h1, h2⟩ := agK_mem (nx := nx) (be := be) (en := en) (ps := ps) k (by omega) i (by omega)
        exact ⟨t, by omega, h2⟩
theorem link_of {nx : Nat → Nat} {a b : Nat} (hb : ∀ j, j < 8 → nx j < 256) (ha : a < 8) (h : (nx a).testBit b = true ∨ (b < 8 ∧ (nx b).testBit a = true)) : (linkV nx a).testBit b = true := by
  have := (linkV_bit (nx := nx) (a := a) (i := b) 8).mpr
  exact this h
theorem sub8 {x u i : Nat} (hu : u < 256) (h : Sb x u) (hi : x.testBit i = true) : i < 8 := bit8 hu (h i hi)
theorem cutX {tr : List (List Nat)} (hg : GoodM tr) : CutX tr (cutT tr).1 (cutT tr).2 := by
  have hl : LabL tr := hg.1.1
  have hD := cutD hg
  have q := cutQ hg
  have hu : moL tr < 256 := lbL_lt hl
  have hb : ∀ j, j < 8 → moF tr j < 256 := foL_lt hl (Nat.le_refl _)
  unfold CutX
  rcases hD with h | h | ⟨h0, hem, hpc, hk, hps⟩ | ⟨h0, hem, hpc, hk, hps⟩ | ⟨h0, hem, hpc, hk, hl2, hl8, hdp⟩
  · exact Or.inl h
  · exact Or.inr (Or.inl h)
  · refine Or.inr (Or.inr (Or.inl ⟨hem, hpc, hps, ?_⟩))
    rcases hk with hk | hk
    · refine Or.inl ⟨hk, ?_⟩
      rw [q.1] at hk
      unfold cutM at hk
      rw [if_neg h0, if_neg (by rw [hem]; exact Bool.false_ne_true), if_pos hpc] at hk
      cases hs : siB tr tr.length
      · rw [hs, if_neg Bool.false_ne_true] at hk
        exact absurd hk (by decide)
      · rfl
    · exact Or.inr hk
  · exact Or.inr (Or.inr (Or.inr (Or.inl ⟨hk, hps⟩)))
  · have h1 : ¬ popc (moL tr) = 1 := by omega
    refine Or.inr (Or.inr (Or.inr (Or.inr ?_)))
    have hcm : cutM tr = if 2 ≤ (mp2 tr).length then (2, mp2 tr) else if 2 ≤ (mq3 tr).length then (3, mp3 tr) else if 2 ≤ (mp4 tr).length then (4, mp4 tr) else if (mq5 tr).1 ≠ moL tr then (5, mp5 tr) else (6, []) := by
      unfold cutM
      rw [if_neg h0, if_neg (by rw [hem]; exact Bool.false_ne_true), if_neg h1]
    rw [q.1, hcm] at hk hl2 hdp ⊢
    clear hl8
    by_cases h2 : 2 ≤ (mp2 tr).length
    · rw [if_pos h2]
      exact Or.inl ⟨hem, h2, rfl, paL_prt (nj_link hb) hu⟩
    · rw [if_neg h2] at hk hl2 hdp ⊢
      by_cases h3 : 2 ≤ (mq3 tr).length
      · rw [if_pos h3] at hk hl2 hdp ⊢
        refine Or.inr (Or.inl ⟨hem, hl2, rfl, hdp, ?_⟩)
        have hop : OrP (rall (moF tr)) (mq3 tr) := order_parts hu
        have hs0 : SmP (mq3 tr) (mq3 tr) := ⟨rfl, fun i hi => ⟨i, hi, rfl⟩, fun i hi => ⟨i, hi, rfl⟩, fun i j hi hj hij => (hop.2.1 i j hi hj hij).1⟩
        obtain ⟨hsm, hso⟩ := srt_sorted hop hs0
        have he : mp3 tr = srt (rall (moF tr)) (mq3 tr) (mq3 tr).length := order_eq hop
        have hop2 : OrP (rall (moF tr)) (mp3 tr) := by rw [he]; exact hop.sm hsm
        intro a b hab hbl
        have hlt : ltP (rall (moF tr)) (gd (mp3 tr) a) (gd (mp3 tr) b) = true := by
          rw [he]
          exact hso a b hab (by rw [he] at hbl; rw [hsm.1] at hbl; exact hbl)
        obtain ⟨-, g2, g3⟩ := hop2.2.1 b a hbl (by show a < (mp3 tr).length; have : b < (mp3 tr).length := hbl; omega) (by omega)
        show ldI (rall (moF tr)) (gd (mp3 tr) b) (gd (mp3 tr) a) = false
        rw [g3, g2, hlt]; rfl
      · rw [if_neg h3] at hk hl2 hdp ⊢
        by_cases h4 : 2 ≤ (mp4 tr).length
        · rw [if_pos h4] at hk hl2 hdp ⊢
          exact Or.inr (Or.inr (Or.inl ⟨hem, hl2, rfl, hdp⟩))
        · rw [if_neg h4] at hk hl2 hdp ⊢
          by_cases h5 : (mq5 tr).1 ≠ moL tr
          · rw [if_pos h5] at hk hl2 hdp ⊢
            have hbe : moB tr < 256 := by
              refine lt_of_bits (k := 8) (fun i hi => ?_)
              cases c : (moB tr).testBit i
              · rfl
              · have := bit8 hu (edge_sub i c); omega
            have hen : moE tr < 256 := by
              refine lt_of_bits (k := 8) (fun i hi => ?_)
              cases c : (moE tr).testBit i
              · rfl
              · have := bit8 hu (edge_sub i c); omega
            have hset : andn (moL tr) (moB tr ||| moE tr) < 256 := andn_lt8 hu
            have hP := paL_prt (nj_link hb) hset
            have hps : ∀ i, i < (paL (andn (moL tr) (moB tr ||| moE tr)) (moF tr)).length → 0 < gd (paL (andn (moL tr) (moB tr ||| moE tr)) (moF tr)) i ∧ gd (paL (andn (moL tr) (moB tr ||| moE tr)) (moF tr)) i < 256 := by
              intro i hi
              refine ⟨(hP.1 i hi).1, lt_of_bits (k := 8) (fun y hy => ?_)⟩
              cases c : (gd (paL (andn (moL tr) (moB tr ||| moE tr)) (moF tr)) i).testBit y
              · rfl
              · have := bit8 hset ((hP.1 i hi).2 y c); omega
            obtain ⟨m1, m2⟩ := mq5_eq hb hP hps hbe hen
            have hm5 : mp5 tr = agF (moF tr) (moB tr) (moE tr) (paL (andn (moL tr) (moB tr ||| moE tr)) (moF tr)) (paL (andn (moL tr) (moB tr ||| moE tr)) (moF tr)).length :: agK (moF tr) (moB tr) (moE tr) (paL (andn (moL tr) (moB tr ||| moE tr)) (moF tr)) (paL (andn (moL tr) (moB tr ||| moE tr)) (moF tr)).length := by
              unfold mp5 mq5
              rw [m1, m2]
            generalize paL (andn (moL tr) (moB tr ||| moE tr)) (moF tr) = P0 at hP hps hm5 m1 m2
            refine Or.inr (Or.inr (Or.inr ⟨hem, hl2, rfl, hdp, ?_, ?_⟩))
            · show Sb (moB tr ||| moE tr) (gd (mp5 tr) 0)
              rw [hm5]
              intro y hy
              exact (agF_bit P0.length).mpr (Or.inl hy)
            · intro i j i1 j1 hi hj hij x y hx hy
              have hi' : i < (mp5 tr).length := hi
              have hj' : j < (mp5 tr).length := hj
              have hx' : (gd (mp5 tr) i).testBit x = true := hx
              have hy' : (gd (mp5 tr) j).testBit y = true := hy
              have hdj := hdp.2.1 i j hi hj hij y
              have hdj' : (gd (mp5 tr) i).testBit y = true → (gd (mp5 tr) j).testBit y = false := hdj
              have hat : ∀ z, 1 ≤ z → z < (mp5 tr).length → ∃ t, t < P0.length ∧ gd (mp5 tr) z = gd P0 t := by
                intro z z1 hz
                rw [hm5] at hz ⊢
                rw [List.length_cons] at hz
                rw [gd_cons, if_neg (by omega)]
                exact agK_mem P0.length (Nat.le_refl _) (z - 1) (by omega)
              obtain ⟨s, hs, es⟩ := hat i i1 hi'
              obtain ⟨t, ht, et⟩ := hat j j1 hj'
              cases hc : (moF tr x).testBit y
              · rfl
              · have hset2 : (andn (moL tr) (moB tr ||| moE tr)).testBit y = true := (hP.1 t ht).2 y (by rw [← et]; exact hy')
                have hx8 : x < 8 := bit8 hset ((hP.1 s hs).2 x (by rw [← es]; exact hx'))
                have := hP.2.2.2 s hs x y hx8 (by rw [← es]; exact hx') hset2 (link_of hb hx8 (Or.inl hc))
                rw [← es] at this
                have h9 := hdj' this
                rw [hy'] at h9; cases h9
          · rw [if_neg h5] at hl2
            exact absurd hl2 (by show ¬ 2 ≤ 0; decide)
end PCUTX
