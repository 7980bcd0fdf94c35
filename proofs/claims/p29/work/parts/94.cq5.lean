section CQ5
theorem edge_sub {tr : List (List Nat)} {e : Bool} : Sb (egL tr e tr.length) (moL tr) := fun i hi => by
  obtain ⟨t, h1, h2, h3⟩ := (egL_bit tr.length).mp hi
  exact (lbL_bit tr.length).mpr ⟨t, _, h1, by split <;> omega, h3⟩
theorem first_ne {tr : List (List Nat)} (h0 : moL tr ≠ 0) (hem : emB tr tr.length = false) : moB tr ||| moE tr ≠ 0 := by
  intro hz
  obtain ⟨i, hi⟩ := Nat.exists_testBit_of_ne_zero h0
  obtain ⟨t, j, h1, h2, h3⟩ := (lbL_bit tr.length).mp hi
  have hb : (moB tr).testBit (gd (tr.getD t []) 0) = true := (egL_bit (e := false) tr.length).mpr ⟨t, h1, by omega, rfl⟩
  have : (moB tr ||| moE tr).testBit (gd (tr.getD t []) 0) = true := by rw [Nat.testBit_or, hb, Bool.true_or]
  rw [hz, Nat.zero_testBit] at this
  cases this
/-- the cut of AGAIN, in both ways -/
theorem again_eq {tr : List (List Nat)} (hl : LabL tr) (h0 : moL tr ≠ 0) (hem : emB tr tr.length = false) : pAg (moF tr) (moL tr) (moB tr) (moE tr) = mp5 tr ∧ (1 < (pAg (moF tr) (moL tr) (moB tr) (moE tr)).length ↔ (mq5 tr).1 ≠ moL tr) := by
  have hu : moL tr < 256 := lbL_lt hl
  have hb : ∀ j, j < 8 → moF tr j < 256 := foL_lt hl (Nat.le_refl _)
  have hbe : moB tr < 256 := egL_lt hl
  have hen : moE tr < 256 := egL_lt hl
  have hfn := first_ne h0 hem
  have hsb : Sb (moB tr) (moL tr) := edge_sub
  have hse : Sb (moE tr) (moL tr) := edge_sub
  have hfs : Sb (moB tr ||| moE tr) (moL tr) := fun i hi => by
    rw [Nat.testBit_or, Bool.or_eq_true] at hi
    exact hi.elim (hsb i) (hse i)
  have e5 : mq5 tr = agN (moB tr) (moE tr) (moF tr) (moB tr ||| moE tr, paL (andn (moL tr) (moB tr ||| moE tr)) (moF tr)) 9 := rfl
  have e6 : mp5 tr = (mq5 tr).1 :: (mq5 tr).2.filter (fun x => decide (x ≠ 0)) := rfl
  have e7 : pAg (moF tr) (moL tr) (moB tr) (moE tr) = (agI (moF tr) (moB tr) (moE tr) (grps (linkV (moF tr)) (andn (moL tr) (moB tr ||| moE tr)) [moB tr ||| moE tr]) ((grps (linkV (moF tr)) (andn (moL tr) (moB tr ||| moE tr)) [moB tr ||| moE tr]).length - 1)).1 :: (agI (moF tr) (moB tr) (moE tr) (grps (linkV (moF tr)) (andn (moL tr) (moB tr ||| moE tr)) [moB tr ||| moE tr]) ((grps (linkV (moF tr)) (andn (moL tr) (moB tr ||| moE tr)) [moB tr ||| moE tr]).length - 1)).2 := rfl
  rw [e6, e5, e7]
  clear e5 e6 e7
  generalize moF tr = nx at hb ⊢
  generalize moB tr = be at hbe hfn hfs ⊢
  generalize moE tr = en at hen hfn hfs ⊢
  generalize moL tr = u at hu hfs ⊢
  have hset : andn u (be ||| en) < 256 := andn_lt8 hu
  obtain ⟨i, hi⟩ := Nat.exists_testBit_of_ne_zero hfn
  have hd := popc_drop (i := i) (by have := bit8 hu (hfs i hi); omega) (hfs i hi) hi
  have hp8 := popc_le8 hu
  have hgr : grps (linkV nx) (andn u (be ||| en)) [be ||| en] = (be ||| en) :: paL (andn u (be ||| en)) nx := by
    rw [grps_eq (nj_link hb) hset (by show 1 + _ ≤ 8; omega)]
    exact paO_app (jn := nx) (ps0 := [be ||| en]) 8 (andn u (be ||| en)) []
  have hP := paL_prt (nj_link hb) hset
  have hA := paL_all (jn := nx) hset
  rw [hgr]
  generalize paL (andn u (be ||| en)) nx = ps at hP hA ⊢
  obtain ⟨m1, m2⟩ := mq5_eq hb hP hA hbe hen
  have hlen : ((be ||| en) :: ps).length - 1 = ps.length := rfl
  rw [hlen, agI_eq, m1, m2]
  refine ⟨rfl, ?_⟩
  dsimp only
  rw [List.length_cons]
  obtain ⟨p1, p2, p3, p4⟩ := hP
  constructor
  · intro h1 he
    have hne : ¬ (agK nx be en ps ps.length).length = 0 := by omega
    rw [agK_len] at hne
    apply hne
    intro t ht
    cases hq : btf nx be en (gd ps t)
    · exfalso
      obtain ⟨y, hy⟩ := Nat.exists_testBit_of_ne_zero (show gd ps t ≠ 0 by have := (p1 t ht).1; omega)
      have hys := (p1 t ht).2 y hy
      rw [andn_t] at hys
      have : (agF nx be en ps ps.length).testBit y = true := by rw [he]; exact hys.1
      rcases (agF_bit ps.length).mp this with h | ⟨t', g1, g2, g3⟩
      · rw [hys.2] at h; cases h
      · by_cases et : t' = t
        · rw [et, hq] at g2; cases g2
        · rw [p2 t t' ht g1 (fun q => et q.symm) y hy] at g3; cases g3
    · rfl
  · intro he
    have hne : ¬ (agK nx be en ps ps.length).length = 0 := by
      rw [agK_len]
      intro hall
      apply he
      refine Sb.eq (fun y hy => ?_) (fun y hy => ?_)
      · rcases (agF_bit ps.length).mp hy with h | ⟨t, g1, -, g3⟩
        · exact hfs y h
        · exact (andn_t.mp ((p1 t g1).2 y g3)).1
      · cases hq : (be ||| en).testBit y
        · obtain ⟨t, g1, g2⟩ := p3 y (andn_t.mpr ⟨hy, hq⟩)
          exact (agF_bit ps.length).mpr (Or.inr ⟨t, g1, hall t g1, g2⟩)
        · exact (agF_bit ps.length).mpr (Or.inl hq)
    omega
theorem cutQ {tr : List (List Nat)} (hg : GoodM tr) : CutQ tr := by
  have hl : LabL tr := hg.1.1
  obtain ⟨m1, m2, m3, m4, m5⟩ := mL_eq tr
  have hu : moL tr < 256 := lbL_lt hl
  have hb : ∀ j, j < 8 → moF tr j < 256 := foL_lt hl (Nat.le_refl _)
  have hp8 := popc_le8 hu
  have hcut : cutT tr = cutM tr := by
    have e : cutT tr = cutF (moF tr) (moL tr) (moB tr) (moE tr) (mL tr).2.2.2.1 := by
      unfold cutT
      rw [m1, m2, m3, m5]
    rw [e]
    have hch : pCh (moF tr) (moL tr) = mp2 tr := grps_eq (nj_link hb) hu (by show 0 + _ ≤ 8; omega)
    have hor : grps (nearO (rall (moF tr))) (moL tr) [] = mq3 tr := grps_eq nj_order hu (by show 0 + _ ≤ 8; omega)
    have hor2 : pOr (moF tr) (moL tr) = mp3 tr := by
      unfold pOr
      rw [hor]
      exact (order_eq (order_parts hu)).symm
    have hor3 : (pOr (moF tr) (moL tr)).length = (mq3 tr).length := by
      unfold pOr
      rw [srt_len, hor]
    have hbo : pBo (moF tr) (moL tr) (moB tr) (moE tr) = mp4 tr := by
      unfold pBo
      rw [grps_eq nj_both hu (by show 0 + _ ≤ 8; omega)]
      rfl
    unfold cutF cutM
    by_cases h0 : moL tr = 0
    · rw [if_pos h0, if_pos h0]
    · rw [if_neg h0, if_neg h0]
      cases hem : emB tr tr.length
      · have hno : ¬ 0 < (mL tr).2.2.2.1 := fun h => by
          have := (em_iff tr).mp h
          rw [hem] at this; cases this
        obtain ⟨g1, g2⟩ := again_eq hl h0 hem
        rw [if_neg hno, if_neg Bool.false_ne_true]
        by_cases h1 : popc (moL tr) = 1
        · rw [if_pos h1, if_pos h1, si_iff hl hem]
          cases anyU (fun x => decide (moF tr x ≠ 0)) 8
          · rw [if_neg Bool.false_ne_true, if_pos (show (!false) = true from rfl)]
          · rw [if_pos rfl, if_neg (show ¬ ((!true) = true) from Bool.false_ne_true)]
        · rw [if_neg h1, if_neg h1, hch]
          by_cases h2 : 2 ≤ (mp2 tr).length
          · rw [if_pos (by omega), if_pos h2]
          · rw [if_neg (by omega), if_neg h2, hor3]
            by_cases h3 : 2 ≤ (mq3 tr).length
            · rw [if_pos (by omega), if_pos h3, hor2]
            · rw [if_neg (by omega), if_neg h3, hbo]
              by_cases h4 : 2 ≤ (mp4 tr).length
              · rw [if_pos (by omega), if_pos h4]
              · rw [if_neg (by omega), if_neg h4]
                by_cases h5 : (mq5 tr).1 ≠ moL tr
                · rw [if_pos (g2.mpr h5), if_pos h5, g1]
                · rw [if_neg (fun h => h5 (g2.mp h)), if_neg h5]
      · rw [if_pos ((em_iff tr).mpr hem), if_pos rfl]
  refine ⟨hcut, m1, fun _ => em_iff tr, ?_⟩
  rintro ⟨h1, h2⟩
  unfold cutM at h1 h2
  by_cases h0 : moL tr = 0
  · rw [if_pos h0] at h1; cases h1
  · rw [if_neg h0] at h1 h2
    by_cases hem : emB tr tr.length = true
    · rw [if_pos hem] at h1; cases h1
    · rw [if_neg hem] at h1 h2
      by_cases h3 : popc (moL tr) = 1
      · exact h3
      · rw [if_neg h3] at h1 h2
        by_cases h4 : 2 ≤ (mp2 tr).length
        · rw [if_pos h4] at h1; cases h1
        · rw [if_neg h4] at h1 h2
          by_cases h5 : 2 ≤ (mq3 tr).length
          · rw [if_pos h5] at h1; cases h1
          · rw [if_neg h5] at h1 h2
            by_cases h6 : 2 ≤ (mp4 tr).length
            · rw [if_pos h6] at h1; cases h1
            · rw [if_neg h6] at h1 h2
              by_cases h7 : (mq5 tr).1 ≠ moL tr
              · rw [if_pos h7] at h2
                exact (mp5_ne h2).elim
              · rw [if_neg h7] at h1; cases h1
end CQ5
