section PACC2
/-- what a child takes of a log's part -/
abbrev AccC (w : Nat → Nat) (iw : Nat → Nat → Bool) (tr : List (List Nat)) (c : Nat) : Prop := ∀ p, p < 4096 → sel w p ∈ tr → iw c p = true
theorem acc_order {nd : List Nd} {w : Nat → Nat} {iw aw : Nat → Nat → Bool} {od : Nat → Nat → Nat → Bool} {ag : Nat → Nat → Bool} {go : Nat → Nat → Nat → Bool} {tr : List (List Nat)} {ps : List Nat} {m : Nat} {t : List Nat} (hE : IwEq nd w iw aw od ag go) (hm : m < nd.length) (hu : moL tr < 256) (hn : (chl nd m).length = ps.length) (hdp : DP (moL tr) ps) (hord : ∀ a b, a < b → b < ps.length → ldI (rall (moF tr)) (gd ps b) (gd ps a) = false) (ht : t ∈ tr) (hc : ∀ i, i < ps.length → AccC w iw (takeF tr (gd ps i) 3) (gd (chl nd m) i)) : ∀ j, j + 1 ≤ ps.length → ∀ p, p < 4096 → sel w p = t.filter (fun x => !anyU (fun i => (gd ps i).testBit x) (ps.length - (j + 1))) → od m (ps.length - (j + 1)) p = true := by
  -- the labels that are in no part ahead of k: first those of part k
  have hsplit : ∀ k, k < ps.length → t.filter (fun x => !anyU (fun i => (gd ps i).testBit x) k) = t.filter (fun x => (gd ps k).testBit x) ++ t.filter (fun x => !anyU (fun i => (gd ps i).testBit x) (k + 1)) := by
    intro k hk
    have hpw : (t.filter (fun x => !anyU (fun i => (gd ps i).testBit x) k)).Pairwise (fun x y => (gd ps k).testBit y = true → (gd ps k).testBit x = true) := by
      have h0 : (t.filter (fun x => !anyU (fun i => (gd ps i).testBit x) k)).Pairwise (fun x y => (rall (moF tr) x).testBit y = true) := List.Pairwise.sublist List.filter_sublist (pair_of hu ht t [] rfl)
      refine List.Pairwise.imp_of_mem ?_ h0
      intro x y hx hy hxy hk2
      cases hc2 : (gd ps k).testBit x
      · obtain ⟨hx1, hx2⟩ := List.mem_filter.mp hx
        obtain ⟨b, hb, hbx⟩ := hdp.2.2 x (mem_lab ht hx1)
        have hx3 : anyU (fun i => (gd ps i).testBit x) k = false := by
          cases q : anyU (fun i => (gd ps i).testBit x) k
          · rfl
          · rw [q] at hx2; cases hx2
        have hkb : k < b := by
          by_cases c1 : b < k
          · have : anyU (fun i => (gd ps i).testBit x) k = true := anyU_hit c1 hbx
            rw [hx3] at this; cases this
          · by_cases c2 : b = k
            · rw [c2, hc2] at hbx; cases hbx
            · omega
        have hl0 := hord k b hkb hb
        have hx8 : x < 8 := bit8 hu (mem_lab ht hx1)
        have : ldI (rall (moF tr)) (gd ps b) (gd ps k) = true := by
          unfold ldI
          refine anyU_hit hx8 ?_
          rw [Bool.and_eq_true, decide_eq_true_iff]
          refine ⟨hbx, fun h0 => ?_⟩
          have h9 : (rall (moF tr) x &&& gd ps k).testBit y = true := by rw [Nat.testBit_and, hxy, hk2]; rfl
          rw [h0, Nat.zero_testBit] at h9; cases h9
        rw [hl0] at this; cases this
      · rfl
    have h1 := split_by (P := fun x => (gd ps k).testBit x) _ hpw
    rw [List.filter_filter, List.filter_filter] at h1
    have e1 : t.filter (fun x => (gd ps k).testBit x && !anyU (fun i => (gd ps i).testBit x) k) = t.filter (fun x => (gd ps k).testBit x) := by
      refine List.filter_congr (fun x _ => ?_)
      cases hx : (gd ps k).testBit x
      · rfl
      · cases q : anyU (fun i => (gd ps i).testBit x) k
        · rfl
        · obtain ⟨i, hi, hix⟩ := anyU_iff.mp q
          have := hdp.2.1 i k (by omega) hk (by omega) x hix
          rw [hx] at this; cases this
    have e2 : t.filter (fun x => !(gd ps k).testBit x && !anyU (fun i => (gd ps i).testBit x) k) = t.filter (fun x => !anyU (fun i => (gd ps i).testBit x) (k + 1)) := by
      refine List.filter_congr (fun x _ => ?_)
      show _ = !(anyU (fun i => (gd ps i).testBit x) k || (gd ps k).testBit x)
      cases (gd ps k).testBit x <;> cases anyU (fun i => (gd ps i).testBit x) k <;> rfl
    rw [e1, e2] at h1
    exact h1
  have hall : t.filter (fun x => !anyU (fun i => (gd ps i).testBit x) ps.length) = [] := by
    refine List.filter_eq_nil_iff.mpr (fun x hx => ?_)
    obtain ⟨b, hb, hbx⟩ := hdp.2.2 x (mem_lab ht hx)
    have : anyU (fun i => (gd ps i).testBit x) ps.length = true := anyU_hit hb hbx
    rw [this]; exact Bool.false_ne_true
  intro j
  induction j with
  | zero =>
    intro h p hp hs
    rw [hE.2.2.1 m _ p hm (by omega) hp, if_pos (by omega)]
    refine hc _ (by omega) p hp ?_
    rw [hs, hsplit _ (by omega), show ps.length - (0 + 1) + 1 = ps.length by omega, hall, List.append_nil]
    exact take_keep ht (Or.inl rfl)
  | succ j ih =>
    intro h p hp hs
    rw [hE.2.2.1 m _ p hm (by omega) hp, if_neg (by omega)]
    rw [hsplit _ (by omega)] at hs
    obtain ⟨q, hq, hcu, h1, h2⟩ := sel_any hs
    refine anyU_hit hq ?_
    rw [hcu, Bool.true_and, hc _ (by omega) (utF p q) (utF_lt hp) (by rw [h1]; exact take_keep ht (Or.inl rfl)), Bool.true_and]
    rw [show ps.length - (j + 1 + 1) + 1 = ps.length - (j + 1) by omega] at h2 ⊢
    exact ih (by omega) _ (andn_lt12 hp) h2
theorem or_pos {a b : Nat} (h : b ≠ 0) : 0 < a ||| b := by
  have : b ≤ a ||| b := Nat.right_le_or
  omega
/-- cut wherever one part is followed by another one -/
theorem acc_again {nd : List Nd} {w : Nat → Nat} {iw aw : Nat → Nat → Bool} {od : Nat → Nat → Nat → Bool} {ag : Nat → Nat → Bool} {go : Nat → Nat → Nat → Bool} {tr : List (List Nat)} {ps : List Nat} {m : Nat} {t : List Nat} (hE : IwEq nd w iw aw od ag go) (hm : m < nd.length) (hn : (chl nd m).length = ps.length) (h2 : 2 ≤ ps.length) (hdp : DP (moL tr) ps) (hbe : Sb (moB tr ||| moE tr) (gd ps 0)) (hsep : ∀ i j, 1 ≤ i → 1 ≤ j → i < ps.length → j < ps.length → i ≠ j → ∀ x y, (gd ps i).testBit x = true → (gd ps j).testBit y = true → (moF tr x).testBit y = false) (ht : t ∈ tr) (hc : ∀ i, i < ps.length → AccC w iw (takeF tr (gd ps i) 5) (gd (chl nd m) i)) : ∀ (n : Nat) (pre s : List Nat) (p : Nat), s.length ≤ n → p < 4096 → t = pre ++ s → sel w p = s → (∃ x b, s = x :: b ∧ (gd ps 0).testBit x = true) → (pre = [] ∨ ∃ a' y, pre = a' ++ [y] ∧ (gd ps 0).testBit y = false) → ag m p = true
  | 0, pre, s, p, hl, hp, e, hs, ⟨x, b, e1, _⟩, _ => by rw [e1, List.length_cons] at hl; omega
  | n + 1, pre, s, p, hl, hp, e, hs, ⟨x, b, e1, hx⟩, hpre => by
    rw [hE.2.2.2.1 m p hm hp]
    obtain ⟨r0, rest, er, hr0, hrest⟩ := span_of (fun y => (gd ps 0).testBit y) s
    have hr0n : r0 ≠ [] := by
      intro h0
      rw [h0, List.nil_append] at er
      rcases hrest with h1 | ⟨y, b', h1, hy⟩
      · rw [← er, e1] at h1; cases h1
      · rw [← er, e1] at h1
        obtain ⟨rfl, -⟩ := List.cons.inj h1
        have hy' : (gd ps 0).testBit x = false := hy
        rw [hx] at hy'; cases hy'
    have hrun0 : r0 ∈ takeF tr (gd ps 0) 5 := take_run ht ⟨pre, rest, by rw [e, er], hr0n, hr0, hpre, hrest⟩
    rcases hrest with hnil | ⟨y, b', hb', hy⟩
    · have : iw (gd (chl nd m) 0) p = true := hc 0 (by omega) p hp (by rw [hs, er, hnil, List.append_nil]; exact hrun0)
      rw [this, Bool.true_or]
    · have hy : (gd ps 0).testBit y = false := hy
      have hyt : y ∈ t := by rw [e, er, hb']; simp
      obtain ⟨j, hj, hjy⟩ := hdp.2.2 y (mem_lab ht hyt)
      have hj1 : 1 ≤ j := by
        by_cases c : j = 0
        · rw [c, hy] at hjy; cases hjy
        · omega
      obtain ⟨r1, rest2, er2, hr1, hrest2⟩ := span_of (fun y => (gd ps j).testBit y) rest
      have hr1n : r1 ≠ [] := by
        intro h0
        rw [h0, List.nil_append] at er2
        rcases hrest2 with h1 | ⟨z, b2, h1, hz⟩
        · rw [← er2, hb'] at h1; cases h1
        · rw [← er2, hb'] at h1
          obtain ⟨rfl, -⟩ := List.cons.inj h1
          have hz' : (gd ps j).testBit y = false := hz
          rw [hjy] at hz'; cases hz'
      obtain ⟨a1, l1, ea1⟩ := snoc_of r1 hr1n
      obtain ⟨a0, l0, ea0⟩ := snoc_of r0 hr0n
      have hl1 : (gd ps j).testBit l1 = true := hr1 l1 (by rw [ea1]; simp)
      have hl0 : (gd ps 0).testBit l0 = true := hr0 l0 (by rw [ea0]; simp)
      -- the trace doesn't end with it
      rcases hrest2 with hnil | ⟨z, b2, hb2, hz⟩
      · exfalso
        have hend : (moE tr).testBit l1 = true := end_of (a := pre ++ (r0 ++ a1)) ht (by rw [e, er, er2, hnil, ea1]; simp)
        have h9 : (gd ps 0).testBit l1 = true := hbe l1 (by rw [Nat.testBit_or, hend, Bool.or_true])
        have := hdp.2.1 0 j (by omega) hj (by omega) l1 h9
        rw [hl1] at this; cases this
      · have hz : (gd ps j).testBit z = false := hz
        have hzt : z ∈ t := by rw [e, er, er2, hb2]; simp
        obtain ⟨i, hi, hiz⟩ := hdp.2.2 z (mem_lab ht hzt)
        have hfol : (moF tr l1).testBit z = true := fol_of (a := pre ++ (r0 ++ a1)) (b := b2) ht (by rw [e, er, er2, hb2, ea1]; simp)
        have hi0 : i = 0 := by
          by_cases c : i = 0
          · exact c
          · have hij : j ≠ i := fun q => by rw [← q, hz] at hiz; cases hiz
            have := hsep j i hj1 (by omega) hj hi hij l1 z hl1 hiz
            rw [hfol] at this; cases this
        rw [hi0] at hiz
        have hrunj : r1 ∈ takeF tr (gd ps j) 5 := take_run ht ⟨pre ++ r0, rest2, by rw [e, er, er2]; simp, hr1n, hr1, Or.inr ⟨pre ++ a0, l0, by rw [ea0]; simp, hdp.2.1 0 j (by omega) hj (by omega) l0 hl0⟩, Or.inr ⟨z, b2, hb2, hz⟩⟩
        rw [er] at hs
        obtain ⟨q, hq, hcu, g1, g2⟩ := sel_any hs
        rw [er2] at g2
        obtain ⟨q2, hq2, hcu2, g3, g4⟩ := sel_any g2
        have hin : (anyU (fun q => cuB p q && (iw (gd (chl nd m) 0) (utF p q) && go m (utF p q) (andn p (utF p q)))) 13) = true := by
          refine anyU_hit hq ?_
          rw [hcu, Bool.true_and, hc 0 (by omega) (utF p q) (utF_lt hp) (by rw [g1]; exact hrun0), Bool.true_and]
          rw [hE.2.2.2.2 m _ _ hm (utF_lt hp) (andn_lt12 hp)]
          refine anyU_hit (i := j - 1) (by omega) ?_
          rw [show 1 + (j - 1) = j by omega]
          refine anyU_hit hq2 ?_
          have hne : utF (andn p (utF p q)) q2 ≠ 0 := by
            intro h0
            rw [h0] at g3
            have h7 : sel w 0 = [] := selK_nil 12 (fun i _ => Nat.zero_testBit i)
            rw [h7] at g3
            exact hr1n g3.symm
          rw [hcu2, Bool.true_and, decide_eq_true (or_pos hne), Bool.true_and, hc j hj _ (utF_lt (andn_lt12 hp)) (by rw [g3]; exact hrunj), Bool.true_and]
          refine acc_again hE hm hn h2 hdp hbe hsep ht hc n (pre ++ (r0 ++ r1)) rest2 _ ?_ (andn_lt12 (andn_lt12 hp)) (by rw [e, er, er2]; simp) g4 ⟨z, b2, hb2, hiz⟩ (Or.inr ⟨pre ++ (r0 ++ a1), l1, by rw [ea1]; simp, ?_⟩)
          · have h5 : 0 < r0.length := List.length_pos_iff.mpr hr0n
            rw [er, er2, List.length_append, List.length_append] at hl
            omega
          · exact hdp.2.1 j 0 hj (by omega) (by omega) l1 hl1
        rw [hin, Bool.or_true]
end PACC2
