section GROWN
abbrev stX (f : Nat) (tr : List (List Nat)) (p : Int) (m k : Nat) : List Nd := it (fun i q => q ++ gx f (takeF tr (gd (cutT tr).2 i) (cutT tr).1) (m : Int) (m + q.length)) (hd3 tr p m) k
theorem gx_s {f : Nat} {tr : List (List Nat)} {p : Int} {m : Nat} : gx (f + 1) tr p m = stX f tr p m (cutT tr).2.length := rfl
theorem stX_mono {f : Nat} {tr : List (List Nat)} {p : Int} {m k : Nat} : ∀ j, (stX f tr p m k).length ≤ (stX f tr p m (k + j)).length
  | 0 => Nat.le_refl _
  | j + 1 => by
    have := stX_mono (f := f) (tr := tr) (p := p) (m := m) (k := k) j
    have e : stX f tr p m (k + (j + 1)) = stX f tr p m (k + j) ++ gx f (takeF tr (gd (cutT tr).2 (k + j)) (cutT tr).1) (m : Int) (m + (stX f tr p m (k + j)).length) := rfl
    rw [e, List.length_append]
    omega
theorem stX_s {f : Nat} {tr : List (List Nat)} {p : Int} {m k : Nat} : (stX f tr p m (k + 1)).length = (stX f tr p m k).length + (gx f (takeF tr (gd (cutT tr).2 k) (cutT tr).1) (m : Int) (m + (stX f tr p m k).length)).length := by
  have e : stX f tr p m (k + 1) = stX f tr p m k ++ gx f (takeF tr (gd (cutT tr).2 k) (cutT tr).1) (m : Int) (m + (stX f tr p m k).length) := rfl
  rw [e, List.length_append]
theorem hd3_len1 {tr : List (List Nat)} {p : Int} {m : Nat} : (hd3 tr p m).length ≤ 3 ∧ (((cutT tr).1 ≠ 5 ∨ (cutT tr).2.length ≠ 0) → (hd3 tr p m).length ≤ 2) ∧ (((cutT tr).1 ≠ 5 ∨ (cutT tr).2.length ≠ 0) → (mL tr).2.2.2.1 = 0 → (hd3 tr p m).length = 1) ∧ (((cutT tr).1 ≠ 5 ∨ (cutT tr).2.length ≠ 0) → (cutT tr).1 ≠ 2 → (hd3 tr p m).length = 1) := by
  unfold hd3
  generalize (cutT tr).1 = kd
  generalize (cutT tr).2.length = l
  generalize (mL tr).2.2.2.1 = e
  by_cases c1 : kd = 2 ∧ 0 < e
  · rw [if_pos c1, if_neg (fun h => by omega)]
    refine ⟨by show 2 ≤ 3; omega, fun _ => Nat.le_refl 2, fun _ h => by omega, fun _ h => by omega⟩
  · rw [if_neg c1]
    by_cases c2 : kd = 5 ∧ l = 0
    · rw [if_pos c2]
      refine ⟨Nat.le_refl 3, fun h => by omega, fun h => by omega, fun h => by omega⟩
    · rw [if_neg c2]
      refine ⟨by show 1 ≤ 3; omega, fun _ => by show 1 ≤ 2; omega, fun _ _ => rfl, fun _ _ => rfl⟩
theorem em_no {tr : List (List Nat)} (h : emB tr tr.length = false) : (mL tr).2.2.2.1 = 0 := by
  have : ¬ 0 < (mL tr).2.2.2.1 := fun q => by
    have := (em_iff tr).mp q
    rw [h] at this; cases this
  omega
/-- how many nodes a log gives -/
theorem gx_len : ∀ (f : Nat) (tr : List (List Nat)) (p : Int) (m : Nat), GoodM tr → dpOk f tr → (moL tr = 0 → (gx f tr p m).length = 1) ∧ (moL tr ≠ 0 → (emB tr tr.length = false → (gx f tr p m).length + 5 ≤ 8 * popc (moL tr)) ∧ (gx f tr p m).length + 3 ≤ 8 * popc (moL tr))
  | 0, _, _, _, _, h => h.elim
  | f + 1, tr, p, m, hg, hd0 => by
    have hu : moL tr < 256 := lbL_lt hg.1.1
    have hD := cutD hg
    have hd' : ∀ i, i < (cutT tr).2.length → dpOk f (takeF tr (gd (cutT tr).2 i) (cutT tr).1) := hd0
    have hh := hd3_len1 (tr := tr) (p := p) (m := m)
    rw [gx_s]
    have h0s : stX f tr p m 0 = hd3 tr p m := rfl
    rcases hD with ⟨h0, e1, e⟩ | ⟨h0, hem, e1, e⟩ | ⟨h0, hem, hpc, e1, e⟩ | ⟨h0, hem, hk, e1, e⟩ | ⟨h0, hem, hk, hkd, hl2, hl8, hd⟩
    · refine ⟨fun _ => ?_, fun h => absurd h0 h⟩
      have el : (cutT tr).2.length = 0 := by rw [e]; rfl
      rw [el, h0s]
      exact hh.2.2.2 (Or.inl (by omega)) (by omega)
    · refine ⟨fun h => absurd h h0, fun _ => ⟨fun h => (by rw [hem] at h; cases h), ?_⟩⟩
      have el : (cutT tr).2.length = 1 := by rw [e]; rfl
      have eg : gd (cutT tr).2 0 = moL tr := by rw [e]; rfl
      have hm : moL (takeF tr (moL tr) 2) = moL tr := takeF_moL Sb.rf
      have hne : emB (takeF tr (moL tr) 2) (takeF tr (moL tr) 2).length = false := em_noE.mpr (takeF_noE (by decide))
      have hd1 := hd' 0 (by omega)
      have hs := stX_s (f := f) (tr := tr) (p := p) (m := m) (k := 0)
      rw [Nat.zero_add] at hs
      rw [el, hs, h0s]
      rw [eg, e1] at hd1 ⊢
      have ih := ((gx_len f (takeF tr (moL tr) 2) (m : Int) (m + (hd3 tr p m).length) (takeF_goodM hg) hd1).2 (by rw [hm]; exact h0)).1 hne
      rw [hm] at ih
      have := hh.2.1 (Or.inl (by omega))
      omega
    · have el : (cutT tr).2.length = 0 := by rw [e]; rfl
      rw [el, h0s, hpc]
      have := hh.1
      exact ⟨fun h => absurd h h0, fun _ => ⟨fun _ => by omega, by omega⟩⟩
    · have el : (cutT tr).2.length = 0 := by rw [e]; rfl
      rw [el, h0s]
      have := hh.1
      exact ⟨fun h => absurd h h0, fun _ => ⟨fun _ => by omega, by omega⟩⟩
    · have h1 := hh.2.2.1 (Or.inr (by omega)) (em_no hem)
      have key : ∀ k, k ≤ (cutT tr).2.length → (stX f tr p m k).length + 3 * k ≤ 1 + 8 * smP (cutT tr).2 k := by
        intro k
        induction k with
        | zero => exact fun _ => by rw [h0s, h1]; exact Nat.le_refl 1
        | succ k ih =>
          intro hk1
          have ih := ih (by omega)
          have hm := child_moL (kd := (cutT tr).1) hd (show k < (cutT tr).2.length by omega)
          have hp := (hd.1 k (by omega)).1
          have := ((gx_len f (takeF tr (gd (cutT tr).2 k) (cutT tr).1) (m : Int) (m + (stX f tr p m k).length) (takeF_goodM hg) (hd' k (by omega))).2 (by rw [hm]; omega)).2
          rw [hm] at this
          have e2 : smP (cutT tr).2 (k + 1) = smP (cutT tr).2 k + popc (gd (cutT tr).2 k) := rfl
          rw [stX_s, e2]
          omega
      have := key _ (Nat.le_refl _)
      rw [dp_sum hd hu] at this
      exact ⟨fun h => absurd h h0, fun _ => ⟨fun _ => by omega, by omega⟩⟩
/-- every parent comes before -/
def Wp (nd : List Nd) : Prop := ∀ j, j < nd.length → (nx0 nd j).2.1 < (j : Int)
theorem Wp.none {nd : List Nd} (h : Wp nd) : chX nd nd.length = [] := chX_none (fun j hj => by have := h j hj; omega)
theorem Wp.app {nd q : List Nd} {cs : List Nat} (h : Wp nd) (hq : InvB nd.length q cs) : Wp (nd ++ q) := by
  obtain ⟨h1, h2, h3, -, -⟩ := hq
  intro j hj
  rw [List.length_append] at hj
  rw [nx0_app]
  by_cases e : j < nd.length
  · rw [if_pos e]; exact h j e
  · rw [if_neg e]
    by_cases e2 : j - nd.length = 0
    · rw [e2]; omega
    · have := h3 (j - nd.length) (by omega) (by omega); omega
/-- room for a child -/
def PaOk (nd : List Nd) (p : Int) : Prop := p = -1 ∨ ∃ q : Nat, p = (q : Int) ∧ q < nd.length ∧ (chX nd q).length < 8
theorem PaOk.lt {nd : List Nd} {p : Int} (h : PaOk nd p) : p < (nd.length : Int) := by
  rcases h with h | ⟨q, h1, h2, -⟩ <;> omega
theorem PaOk.add {nd : List Nd} {p : Int} (h : PaOk nd p) (hl : nd.length < 64) : AddOk nd p := by
  refine ⟨hl, ?_⟩
  rcases h with h | ⟨q, h1, h2, h3⟩
  · exact Or.inl h
  · exact Or.inr ⟨q, h1, h2, by rw [chl_len]; exact h3⟩
theorem exS_len {tr : List (List Nat)} (hg : GoodM tr) : (exS tr).length + (cutT tr).2.length ≤ 8 := by
  have hD := cutD hg
  unfold exS
  rcases hD with ⟨h0, e1, e⟩ | ⟨h0, hem, e1, e⟩ | ⟨h0, hem, hpc, e1, e⟩ | ⟨h0, hem, hk, e1, e⟩ | ⟨h0, hem, hk, hkd, hl2, hl8, hd⟩
  · rw [e, e1, if_neg (fun h => by omega), if_neg (fun h => by omega)]; decide
  · rw [e, e1, if_neg (show ¬ (2 = 5 ∧ [moL tr].length = 0) from fun h => by omega), List.append_nil]
    have : [moL tr].length = 1 := rfl
    split
    · show 1 + 1 ≤ 8; omega
    · show 0 + 1 ≤ 8; omega
  · rw [em_no hem, if_neg (fun h => by omega), e]
    split
    · show 2 + 0 ≤ 8; omega
    · show 0 + 0 ≤ 8; omega
  · rw [em_no hem, if_neg (fun h => by omega), e]
    split
    · show 2 + 0 ≤ 8; omega
    · show 0 + 0 ≤ 8; omega
  · rw [em_no hem, if_neg (fun h => by omega), if_neg (fun h => by omega)]
    show 0 + _ ≤ 8
    omega
theorem grow_ok : ∀ (f : Nat) (tr : List (List Nat)) (p : Int) (nd : List Nd), GoodM tr → dpOk f tr → Wp nd → PaOk nd p → nd.length + (gx f tr p nd.length).length ≤ 64 → growOk f tr p nd
  | 0, _, _, _, _, h, _, _, _ => h.elim
  | f + 1, tr, p, nd, hg, hd0, hw, hpa, hln => by
    have hd' : ∀ i, i < (cutT tr).2.length → dpOk f (takeF tr (gd (cutT tr).2 i) (cutT tr).1) := hd0
    obtain ⟨hst, -, -⟩ := gx_inv (f + 1) tr p nd.length hg hd0 hpa.lt
    have hst : ∀ k, k ≤ (cutT tr).2.length → InvB nd.length (stX f tr p nd.length k) (exS tr ++ pfx (cutT tr).2 k) := fun k hk => hst k hk f rfl
    rw [gx_s] at hln
    have hmono : ∀ k, k ≤ (cutT tr).2.length → (stX f tr p nd.length k).length ≤ (stX f tr p nd.length (cutT tr).2.length).length := fun k hk => by
      have := stX_mono (f := f) (tr := tr) (p := p) (m := nd.length) (k := k) ((cutT tr).2.length - k)
      rw [show k + ((cutT tr).2.length - k) = (cutT tr).2.length by omega] at this
      exact this
    have hh : (hd3 tr p nd.length).length ≤ (stX f tr p nd.length (cutT tr).2.length).length := hmono 0 (Nat.zero_le _)
    have hno := hw.none
    have hpl := hpa.lt
    have c1 : chX (grow1 tr p nd) nd.length = [] := by
      unfold grow1
      rw [chX_app, hno, chX_one, if_neg (by dsimp only; omega)]
      rfl
    have l1 : (grow1 tr p nd).length = nd.length + 1 := by unfold grow1; rw [List.length_append]; rfl
    have hge1 : 1 ≤ (hd3 tr p nd.length).length := (hst 0 (Nat.zero_le _)).1
    refine ⟨hpa.add (by omega), fun hc => ?_, fun hc => ?_, fun i hi => ?_⟩
    · refine PaOk.add (Or.inr ⟨nd.length, rfl, by omega, by rw [c1]; decide⟩) ?_
      have : (hd3 tr p nd.length).length = 2 := by
        unfold hd3
        rw [if_pos hc, if_neg (fun h => by omega)]; rfl
      omega
    · have g2 : grow2 tr p nd = grow1 tr p nd := by
        unfold grow2
        rw [if_neg (fun h => by omega)]
      have : (hd3 tr p nd.length).length = 3 := by
        unfold hd3
        rw [if_neg (fun h => by omega), if_pos hc]; rfl
      rw [g2]
      refine ⟨PaOk.add (Or.inr ⟨nd.length, rfl, by omega, by rw [c1]; decide⟩) (by omega), PaOk.add (Or.inr ⟨nd.length, rfl, by rw [List.length_append]; omega, ?_⟩) ?_⟩
      · rw [chX_app, c1, chX_one, if_pos rfl]
        show 1 < 8
        omega
      · rw [List.length_append, l1]
        show nd.length + 1 + 1 < 64
        omega
    · have key : it (fun i q => growF f (takeF tr (gd (cutT tr).2 i) (cutT tr).1) (nd.length : Int) q) (grow3 tr p nd) i = nd ++ stX f tr p nd.length i := by
        clear hi
        induction i with
        | zero => exact grow3_hd
        | succ k ih => rw [it_s, ih, growF_gx f, List.append_assoc, List.length_append]; rfl
      rw [key]
      have hI := hst i (by omega)
      have hs := stX_s (f := f) (tr := tr) (p := p) (m := nd.length) (k := i)
      have hm := hmono (i + 1) (by omega)
      have hx := exS_len hg
      refine grow_ok f _ _ _ (takeF_goodM hg) (hd' i hi) (hw.app hI) (Or.inr ⟨nd.length, rfl, by rw [List.length_append]; have := hI.1; omega, ?_⟩) ?_
      · rw [chX_app, hno, hI.2.2.2.2, List.nil_append, List.length_append, pfx_len]
        omega
      · rw [List.length_append]
        omega
/-- what holds of a mined tree -/
def Grown (nd : List Nd) : Prop := (1 ≤ nd.length ∧ nd.length ≤ 64) ∧ (∀ i, i < nd.length → WfN (nx0 nd i) (chX nd i)) ∧ (∀ i, i < nd.length → -1 ≤ ndP nd i ∧ ndP nd i < (i : Int)) ∧ ndP nd 0 = -1 ∧ ∀ i, 1 ≤ i → i < nd.length → 0 ≤ ndP nd i
theorem Grown.kd {nd : List Nd} (h : Grown nd) : KdOk nd := fun i hi => (h.2.1 i hi).1
theorem Grown.ch8 {nd : List Nd} (h : Grown nd) (i : Nat) (hi : i < nd.length) : (chl nd i).length ≤ 8 := by
  rw [chl_len]
  obtain ⟨h1, -, h2, -, -, h3, -⟩ := h.2.1 i hi
  by_cases c : (nx0 nd i).1 = 0 ∨ (nx0 nd i).1 = 1 ∨ (nx0 nd i).1 = 6
  · rw [h2 c]; exact Nat.zero_le _
  · exact (h3 (by omega)).2.1
theorem Grown.sh {nd : List Nd} (h : Grown nd) : ShOk nd := by
  intro i hi
  obtain ⟨h1, -, h2, -, -, h3, -⟩ := h.2.1 i hi
  refine ⟨h1, fun c => ?_, fun c => ?_⟩
  · rw [chl_len, h2 c]; rfl
  · rw [chl_len]; exact (h3 c).1
theorem Grown.ch {nd : List Nd} (h : Grown nd) : ChOk nd := by
  intro i hi c
  exact (h.sh i hi).2.2 (by omega)
theorem Grown.ndq {nd : List Nd} (h : Grown nd) : NdQ nd := ⟨h.1.1, h.sh, h.ch8, fun i hi => (h.2.1 i hi).2.1⟩
theorem tree_grown {tr : List (List Nat)} (hg : GoodM tr) : growOk 16 tr (-1) [] ∧ Grown (growF 16 tr (-1) []) ∧ ndS (growF 16 tr (-1) []) 0 = moL tr := by
  have hd := dp_root hg
  have hpc := popc_le8 (show moL tr < 256 from lbL_lt hg.1.1)
  obtain ⟨-, ⟨cs, hI, hw⟩, h0⟩ := gx_inv 16 tr (-1) 0 hg hd (by decide)
  obtain ⟨n1, n2⟩ := gx_len 16 tr (-1) 0 hg hd
  have hl : (gx 16 tr (-1) 0).length ≤ 64 := by
    by_cases e : moL tr = 0
    · rw [n1 e]; decide
    · have := (n2 e).2
      omega
  have e : growF 16 tr (-1) [] = gx 16 tr (-1) 0 := growF_gx 16 tr (-1) []
  refine ⟨grow_ok 16 tr (-1) [] hg hd (fun j hj => absurd hj (Nat.not_lt_zero j)) (Or.inl rfl) (by show 0 + _ ≤ 64; rw [Nat.zero_add]; exact hl), ?_, ?_⟩
  · rw [e]
    generalize gx 16 tr (-1) 0 = nd at hI hw h0 hl
    obtain ⟨i1, i2, i3, i4, i5⟩ := hI
    have hp0 : ndP nd 0 = -1 := by
      show (nx0 nd 0).2.1 = -1
      rw [h0]
    refine ⟨⟨i1, hl⟩, fun i hi => ?_, fun i hi => ?_, hp0, fun i h1 hi => ?_⟩
    · by_cases e : i = 0
      · rw [e, i5]; exact hw
      · have := i4 i (by omega) hi
        rw [Nat.zero_add] at this
        exact this
    · by_cases e : i = 0
      · rw [e, hp0]; exact ⟨Int.le_refl _, by decide⟩
      · have := i3 i (by omega) hi
        rw [Nat.zero_add] at this
        show -1 ≤ (nx0 nd i).2.1 ∧ (nx0 nd i).2.1 < (i : Int)
        omega
    · have := i3 i h1 hi
      show 0 ≤ (nx0 nd i).2.1
      omega
  · rw [e]
    show (nx0 (gx 16 tr (-1) 0) 0).2.2 = moL tr
    rw [h0]
end GROWN
