section PACC3
theorem andn_0 {p : Nat} : andn p 0 = p := by
  refine Nat.eq_of_testBit_eq (fun y => ?_)
  rw [andn_bit, Nat.zero_testBit, Bool.not_false, Bool.and_true]
theorem utF_0 {p : Nat} : utF p 0 = 0 := by
  refine Nat.eq_of_testBit_eq (fun y => ?_)
  rw [utF_bit, Nat.zero_testBit, decide_eq_false (Nat.not_lt_zero y), Bool.and_false]
theorem si_len {tr : List (List Nat)} {t : List Nat} (h : t ∈ tr) (hs : siB tr tr.length = true) : t.length = 1 := by
  obtain ⟨i, hi, e⟩ := mem_at h
  by_cases c : t.length = 1
  · exact c
  · exfalso
    unfold siB at hs
    have : anyU (fun t => !decide ((tr.getD t []).length = 1)) tr.length = true := anyU_hit hi (by rw [e, decide_eq_false c]; rfl)
    rw [this] at hs; cases hs
theorem sel_zero {w : Nat → Nat} : sel w 0 = [] := selK_nil 12 (fun i _ => Nat.zero_testBit i)
/-- one label again and again -/
theorem acc_one {nd : List Nd} {w : Nat → Nat} {iw aw : Nat → Nat → Bool} {od : Nat → Nat → Nat → Bool} {ag : Nat → Nat → Bool} {go : Nat → Nat → Nat → Bool} {u m : Nat} (hE : IwEq nd w iw aw od ag go) (hm : m < nd.length) (hl : (chl nd m).length = 2) (k0 : ndK nd (gd (chl nd m) 0) = 1) (s0 : ndS nd (gd (chl nd m) 0) = u) (k1 : ndK nd (gd (chl nd m) 1) = 0) : ∀ (n p : Nat), p < 4096 → popc p = n + 1 → (∀ x, x ∈ sel w p → u.testBit x = true) → ag m p = true := by
  have h0 := (chl_in (nd := nd) (i := m) (c := 0) (by omega)).1
  have h1 := (chl_in (nd := nd) (i := m) (c := 1) (by omega)).1
  have one : ∀ p, p < 4096 → popc p = 1 → (∀ x, x ∈ sel w p → u.testBit x = true) → iw (gd (chl nd m) 0) p = true := by
    intro p hp hc hx
    rw [hE.1 _ p h0 hp, k0, s0, pl_all hp hx, if_neg (by decide), if_pos rfl, decide_eq_true rfl, decide_eq_true hc]; rfl
  have nul : iw (gd (chl nd m) 1) 0 = true := by
    rw [hE.1 _ 0 h1 (by decide), k1, pl_all (by decide) (fun x hx => by rw [sel_zero] at hx; exact absurd hx List.not_mem_nil), if_pos rfl]; rfl
  intro n
  induction n with
  | zero =>
    intro p hp hc hx
    rw [hE.2.2.2.1 m p hm hp, one p hp hc hx, Bool.true_or]
  | succ n ih =>
    intro p hp hc hx
    rw [hE.2.2.2.1 m p hm hp]
    have hlen : (sel w p).length = n + 1 + 1 := by rw [sel_popc, hc]
    obtain ⟨x, b, e⟩ : ∃ x b, sel w p = x :: b := by
      cases hs : sel w p with
      | nil => rw [hs] at hlen; exact absurd hlen (by simp)
      | cons x b => exact ⟨x, b, rfl⟩
    rw [e] at hlen hx
    obtain ⟨q, hq, hcu, g1, g2⟩ := sel_any (l1 := [x]) (l2 := b) e
    have hp1 : popc (utF p q) = 1 := by rw [← sel_popc (w := w), g1]; rfl
    have hp2 : popc (andn p (utF p q)) = n + 1 := by
      rw [← sel_popc (w := w), g2]
      rw [List.length_cons] at hlen; omega
    have hne : utF p q ≠ 0 := fun h => by rw [h] at hp1; exact absurd hp1 (by decide)
    have hin : (anyU (fun q => cuB p q && (iw (gd (chl nd m) 0) (utF p q) && go m (utF p q) (andn p (utF p q)))) 13) = true := by
      refine anyU_hit hq ?_
      rw [hcu, Bool.true_and, one _ (utF_lt hp) hp1 (fun y hy => hx y (by rw [g1] at hy; rw [List.mem_singleton.mp hy]; exact List.mem_cons_self ..)), Bool.true_and, hE.2.2.2.2 m _ _ hm (utF_lt hp) (andn_lt12 hp)]
      refine anyU_hit (i := 0) (by omega) ?_
      refine anyU_hit (i := 0) (by decide) ?_
      rw [utF_0, andn_0, Nat.or_zero, decide_eq_true (Nat.pos_of_ne_zero hne), show 1 + 0 = 1 from rfl, nul, ih _ (andn_lt12 hp) hp2 (fun y hy => hx y (by rw [g2] at hy; exact List.mem_cons_of_mem _ hy))]
      rfl
    rw [hin, Bool.or_true]
/-- every trace of a log is a word of its tree -/
theorem acc {nd : List Nd} {w : Nat → Nat} {iw aw : Nat → Nat → Bool} {od : Nat → Nat → Nat → Bool} {ag : Nat → Nat → Bool} {go : Nat → Nat → Nat → Bool} (hE : IwEq nd w iw aw od ag go) : ∀ (f : Nat) (tr : List (List Nat)) (m : Nat), TrB nd f tr m → GoodM tr → dpOk f tr → AccC w iw tr m
  | 0, _, _, h, _, _ => h.elim
  | f + 1, tr, m, hT, hg, hd => by
    obtain ⟨hm, hK, hS, hEm, hOne, hMany⟩ := hT
    intro p hp hs
    have hu : moL tr < 256 := lbL_lt hg.1.1
    rw [hE.1 m p hm hp, hS, hK, pl_all hp (fun x hx => mem_lab hs hx), decide_eq_true rfl, Bool.true_and]
    have haw := hE.2.1 m p hm hp
    rw [hK] at haw
    have hd' : ∀ i, i < (cutT tr).2.length → dpOk f (takeF tr (gd (cutT tr).2 i) (cutT tr).1) := hd
    have hcx := cutX hg
    unfold CutX at hcx
    generalize (cutT tr).1 = kd at haw hEm hOne hMany hd' hcx ⊢
    generalize (cutT tr).2 = ps at haw hEm hOne hMany hd' hcx
    rcases hcx with ⟨h0, rfl, -⟩ | ⟨h0, hem, rfl, rfl⟩ | ⟨hem, hpc, rfl, hk⟩ | ⟨rfl, -⟩ | ⟨hem, hl2, rfl, hP⟩ | ⟨hem, hl2, rfl, hdp, hord⟩ | ⟨hem, hl2, rfl, hdp⟩ | ⟨hem, hl2, rfl, hdp, hbe, hsep⟩
    · have hn : sel w p = [] := by
        refine List.eq_nil_iff_forall_not_mem.mpr (fun x hx => ?_)
        have := mem_lab hs hx
        rw [h0, Nat.zero_testBit] at this; cases this
      rw [if_pos rfl]
      exact decide_eq_true (sel_none hp hn)
    · obtain ⟨hl, k0, hsub⟩ := hEm h0 hem
      have g0 := (chl_in (nd := nd) (i := m) (c := 0) (by omega)).1
      rw [if_neg (by decide), if_neg (by decide), if_neg (by decide), if_neg (by decide), if_neg (by decide), haw, if_pos rfl]
      by_cases c : sel w p = []
      · have := sel_none hp c
        subst this
        refine anyU_hit (i := 0) (by omega) ?_
        rw [hE.1 _ 0 g0 (by decide), k0, pl_all (by decide) (fun x hx => by rw [sel_zero] at hx; exact absurd hx List.not_mem_nil), if_pos rfl]; rfl
      · refine anyU_hit (i := 1) (by omega) ?_
        have h9 := hd' 0 (by show 0 < 1; decide)
        exact acc hE f _ _ hsub (takeF_goodM hg) h9 p hp (take_choice hs c (fun x hx => mem_lab hs hx))
    · rcases hk with ⟨rfl, hsi⟩ | rfl
      · rw [if_neg (by decide), if_pos rfl]
        exact decide_eq_true (by rw [← sel_popc (w := w)]; exact si_len hs hsi)
      · obtain ⟨hl, k0, s0, k1⟩ := hOne rfl rfl
        rw [if_neg (by decide), if_neg (by decide), if_neg (by decide), if_neg (by decide), if_pos rfl]
        have hne := no_em hs hem
        have hpos : 0 < popc p := by rw [← sel_popc (w := w)]; exact List.length_pos_iff.mpr hne
        exact acc_one hE hm hl k0 s0 k1 (popc p - 1) p hp (by omega) (fun x hx => mem_lab hs hx)
    · rw [if_neg (by decide), if_neg (by decide), if_pos rfl]
    · obtain ⟨hl, hkid⟩ := hMany hem hl2
      rw [if_neg (by decide), if_neg (by decide), if_neg (by decide), if_neg (by decide), if_neg (by decide), haw, if_pos rfl]
      have hb : ∀ j, j < 8 → moF tr j < 256 := foL_lt hg.1.1 (Nat.le_refl _)
      have hne := no_em hs hem
      obtain ⟨x, b, e⟩ : ∃ x b, sel w p = x :: b := by
        cases h9 : sel w p with
        | nil => exact absurd h9 hne
        | cons x b => exact ⟨x, b, rfl⟩
      have hx0 := mem_lab hs (x := x) (by rw [e]; exact List.mem_cons_self ..)
      obtain ⟨i, hi, hix⟩ := hP.2.2.1 x hx0
      have hall : ∀ y, y ∈ x :: b → (gd ps i).testBit y = true := chain (t := sel w p) (P := fun y => (gd ps i).testBit y = true) (fun a x y b e hx => by
        have hy := mem_lab hs (x := y) (by rw [e]; simp)
        have hx1 := mem_lab hs (x := x) (by rw [e]; simp)
        have hx8 : x < 8 := bit8 hu hx1
        exact hP.2.2.2 i hi x y hx8 hx hy (link_of hb hx8 (Or.inl (fol_of hs e)))) b [] x e hix
      refine anyU_hit (i := i) (by omega) ?_
      exact acc hE f _ _ (hkid i hi) (takeF_goodM hg) (hd' i hi) p hp (take_choice hs hne (fun y hy => hall y (by rw [← e]; exact hy)))
    · obtain ⟨hl, hkid⟩ := hMany hem hl2
      rw [if_neg (by decide), if_neg (by decide), if_neg (by decide), if_pos rfl]
      have := acc_order hE hm hu hl hdp hord hs (fun i hi => acc hE f _ _ (hkid i hi) (takeF_goodM hg) (hd' i hi)) (ps.length - 1) (by omega) p hp (by
        rw [show ps.length - (ps.length - 1 + 1) = 0 by omega]
        exact (List.filter_eq_self.mpr (fun _ _ => rfl)).symm)
      rw [show ps.length - (ps.length - 1 + 1) = 0 by omega] at this
      exact this
    · obtain ⟨hl, hkid⟩ := hMany hem hl2
      rw [if_neg (by decide), if_neg (by decide), if_neg (by decide), if_neg (by decide), if_neg (by decide), haw, if_neg (by decide)]
      cases c : anyU (fun k => !iw (gd (chl nd m) k) (plF w p (ndS nd (gd (chl nd m) k)) 12)) (chl nd m).length
      · rfl
      · exfalso
        obtain ⟨i, hi, h9⟩ := anyU_iff.mp c
        rw [hl] at hi
        have hki := hkid i hi
        have hset : ndS nd (gd (chl nd m) i) = gd ps i := by
          cases f with
          | zero => exact hki.elim
          | succ f => exact hki.2.2.1.trans (takeF_moL (hdp.1 i hi).2)
        have := acc hE f _ _ hki (takeF_goodM hg) (hd' i hi) (plF w p (gd ps i) 12) (plF_lt (Nat.le_refl 12)) (by rw [sel_filter]; exact take_keep hs (Or.inr rfl))
        rw [hset, this] at h9
        cases h9
    · obtain ⟨hl, hkid⟩ := hMany hem hl2
      rw [if_neg (by decide), if_neg (by decide), if_neg (by decide), if_neg (by decide), if_pos rfl]
      have hne := no_em hs hem
      obtain ⟨x, b, e⟩ : ∃ x b, sel w p = x :: b := by
        cases h9 : sel w p with
        | nil => exact absurd h9 hne
        | cons x b => exact ⟨x, b, rfl⟩
      have h0x : (gd ps 0).testBit x = true := hbe x (by rw [Nat.testBit_or, beg_of hs e, Bool.true_or])
      exact acc_again hE hm hl hl2 hdp hbe hsep hs (fun i hi => acc hE f _ _ (hkid i hi) (takeF_goodM hg) (hd' i hi)) 12 [] (sel w p) p (by rw [sel_popc]; exact popc_le p) hp rfl rfl ⟨x, b, e, h0x⟩ (Or.inl rfl)
end PACC3
