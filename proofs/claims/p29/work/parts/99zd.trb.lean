section PTRB
/-- where the nodes with a parent lie, in a stretch that begins at m -/
def cix : List Nd → Nat → Nat → List Nat
  | [], _, _ => []
  | x :: q, m, i => (if x.2.1 = (i : Int) then [m] else []) ++ cix q (m + 1) i
theorem cix_app {B : List Nd} {i : Nat} : ∀ (q : List Nd) (m : Nat), cix (q ++ B) m i = cix q m i ++ cix B (m + q.length) i
  | [], m => rfl
  | x :: q, m => by
    show (if x.2.1 = (i : Int) then [m] else []) ++ cix (q ++ B) (m + 1) i = ((if x.2.1 = (i : Int) then [m] else []) ++ cix q (m + 1) i) ++ cix B (m + (x :: q).length) i
    rw [cix_app q (m + 1), List.append_assoc, List.length_cons, show m + 1 + q.length = m + (q.length + 1) by omega]
theorem cix_one {x : Nd} {m i : Nat} : cix [x] m i = if x.2.1 = (i : Int) then [m] else [] := List.append_nil _
theorem cix_none {i : Nat} : ∀ (q : List Nd) (m : Nat), (∀ j, j < q.length → (nx0 q j).2.1 ≠ (i : Int)) → cix q m i = []
  | [], _, _ => rfl
  | x :: q, m, h => by
    show (if x.2.1 = (i : Int) then [m] else []) ++ cix q (m + 1) i = []
    have h0 : x.2.1 ≠ (i : Int) := h 0 (by rw [List.length_cons]; omega)
    rw [if_neg h0, cix_none q (m + 1) (fun j hj => h (j + 1) (by rw [List.length_cons]; omega))]
    rfl
theorem chl_cix2 {i : Nat} : ∀ (l acc : List Nd), chl acc i = cix acc 0 i → chl (acc ++ l) i = cix (acc ++ l) 0 i
  | [], acc, h => by rw [List.append_nil]; exact h
  | x :: l, acc, h => by
    rw [show acc ++ x :: l = (acc ++ [x]) ++ l by rw [List.append_assoc]; rfl]
    refine chl_cix2 l (acc ++ [x]) ?_
    rw [chl_app, cix_app, h, cix_one, Nat.zero_add]
theorem chl_cix {nd : List Nd} {i : Nat} : chl nd i = cix nd 0 i := chl_cix2 nd [] rfl
/-- the tree of a log, as its nodes lie -/
def TrB (nd : List Nd) : Nat → List (List Nat) → Nat → Prop
  | 0, _, _ => False
  | f + 1, tr, m => m < nd.length ∧ ndK nd m = (cutT tr).1 ∧ ndS nd m = moL tr ∧
    (moL tr ≠ 0 → emB tr tr.length = true → (chl nd m).length = 2 ∧ ndK nd (gd (chl nd m) 0) = 0 ∧ TrB nd f (takeF tr (moL tr) 2) (gd (chl nd m) 1)) ∧
    ((cutT tr).1 = 5 → (cutT tr).2.length = 0 → (chl nd m).length = 2 ∧ ndK nd (gd (chl nd m) 0) = 1 ∧ ndS nd (gd (chl nd m) 0) = moL tr ∧ ndK nd (gd (chl nd m) 1) = 0) ∧
    (emB tr tr.length = false → 2 ≤ (cutT tr).2.length → (chl nd m).length = (cutT tr).2.length ∧ ∀ i, i < (cutT tr).2.length → TrB nd f (takeF tr (gd (cutT tr).2 i) (cutT tr).1) (gd (chl nd m) i))
/-- where the children of a log's parts begin -/
def ofX (f : Nat) (tr : List (List Nat)) (p : Int) (m k : Nat) : List Nat := (List.range k).map (fun j => m + (stX f tr p m j).length)
theorem ofX_s {f : Nat} {tr : List (List Nat)} {p : Int} {m k : Nat} : ofX f tr p m (k + 1) = ofX f tr p m k ++ [m + (stX f tr p m k).length] := by
  unfold ofX
  rw [List.range_succ, List.map_append]; rfl
theorem ofX_gd {f : Nat} {tr : List (List Nat)} {p : Int} {m : Nat} {ex : List Nat} {k j : Nat} (hj : j < k) : gd (ex ++ ofX f tr p m k) (ex.length + j) = m + (stX f tr p m j).length := by
  unfold gd ofX
  rw [List.getD_eq_getElem?_getD, List.getElem?_append_right (by omega), Nat.add_sub_cancel_left, List.getElem?_map, List.getElem?_range hj]
  rfl
/-- a part's nodes: the first has the parent m, the others parents among themselves -/
theorem gx_par {f : Nat} {tr : List (List Nat)} {m o : Nat} (hg : GoodM tr) (hd : dpOk f tr) (hm : m < o) : 1 ≤ (gx f tr (m : Int) o).length ∧ (nx0 (gx f tr (m : Int) o) 0).2.1 = (m : Int) ∧ ∀ j, 1 ≤ j → j < (gx f tr (m : Int) o).length → (o : Int) ≤ (nx0 (gx f tr (m : Int) o) j).2.1 := by
  obtain ⟨-, ⟨cs, ⟨h1, -, h3, -, -⟩, -⟩, h0⟩ := gx_inv f tr (m : Int) o hg hd (by omega)
  exact ⟨h1, by rw [h0], fun j a b => (h3 j a b).1⟩
theorem cix_gx {f : Nat} {tr : List (List Nat)} {m o : Nat} (hg : GoodM tr) (hd : dpOk f tr) (hm : m < o) : cix (gx f tr (m : Int) o) o m = [o] := by
  obtain ⟨h1, h0, h3⟩ := gx_par hg hd hm
  generalize gx f tr (m : Int) o = B at h1 h0 h3
  cases B with
  | nil => exact absurd h1 (by decide)
  | cons x q =>
    have hx : x.2.1 = (m : Int) := h0
    show (if x.2.1 = (m : Int) then [o] else []) ++ cix q (o + 1) m = [o]
    rw [if_pos hx, cix_none q (o + 1) (fun j hj => by
      have : (o : Int) ≤ (nx0 q j).2.1 := h3 (j + 1) (by omega) (by rw [List.length_cons]; omega)
      omega)]
    rfl
/-- the nodes that a log has of its own -/
def exX (tr : List (List Nat)) (m : Nat) : List Nat := (if (cutT tr).1 = 2 ∧ 0 < (mL tr).2.2.2.1 then [m + 1] else []) ++ (if (cutT tr).1 = 5 ∧ (cutT tr).2.length = 0 then [m + 1, m + 2] else [])
theorem cix_hd {tr : List (List Nat)} {p : Int} {m : Nat} (hp : p < (m : Int)) : cix (hd3 tr p m) m m = exX tr m := by
  unfold hd3 exX
  show (if p = (m : Int) then [m] else []) ++ cix _ (m + 1) m = _
  rw [if_neg (by omega), List.nil_append]
  by_cases c1 : (cutT tr).1 = 2 ∧ 0 < (mL tr).2.2.2.1
  · rw [if_pos c1, if_pos c1, if_neg (fun h => by omega), if_neg (fun h => by omega), List.append_nil, List.append_nil, cix_one, if_pos rfl]
  · rw [if_neg c1, if_neg c1, List.nil_append, List.nil_append]
    by_cases c2 : (cutT tr).1 = 5 ∧ (cutT tr).2.length = 0
    · rw [if_pos c2, if_pos c2]
      show (if (m : Int) = (m : Int) then [m + 1] else []) ++ ((if (m : Int) = (m : Int) then [m + 1 + 1] else []) ++ []) = [m + 1, m + 2]
      rw [if_pos rfl, if_pos rfl]; rfl
    · rw [if_neg c2, if_neg c2]; rfl
theorem cix_st {f : Nat} {tr : List (List Nat)} {p : Int} {m : Nat} (hg : GoodM tr) (hd : dpOk (f + 1) tr) (hp : p < (m : Int)) : ∀ k, k ≤ (cutT tr).2.length → cix (stX f tr p m k) m m = exX tr m ++ ofX f tr p m k
  | 0, _ => by
    show cix (hd3 tr p m) m m = exX tr m ++ []
    rw [List.append_nil]; exact cix_hd hp
  | k + 1, hk => by
    have e : stX f tr p m (k + 1) = stX f tr p m k ++ gx f (takeF tr (gd (cutT tr).2 k) (cutT tr).1) (m : Int) (m + (stX f tr p m k).length) := rfl
    have h1 : 1 ≤ (stX f tr p m k).length := by
      have := stX_mono (f := f) (tr := tr) (p := p) (m := m) (k := 0) k
      rw [Nat.zero_add] at this
      have h3 : 1 ≤ (stX f tr p m 0).length := by show 1 ≤ (hd3 tr p m).length; unfold hd3; rw [List.length_cons]; omega
      omega
    rw [e, cix_app, cix_st hg hd hp k (by omega), cix_gx (takeF_goodM hg) (hd k (by omega)) (by omega), ofX_s, List.append_assoc]
/-- what lies behind a part -/
theorem stX_rest {f : Nat} {tr : List (List Nat)} {p : Int} {m : Nat} (hg : GoodM tr) (hd : dpOk (f + 1) tr) {k : Nat} (h1 : 1 ≤ (stX f tr p m k).length) : ∀ d, k + d ≤ (cutT tr).2.length → ∃ R, stX f tr p m (k + d) = stX f tr p m k ++ R ∧ ∀ j, j < R.length → (nx0 R j).2.1 = (m : Int) ∨ ((m + (stX f tr p m k).length : Nat) : Int) ≤ (nx0 R j).2.1
  | 0, _ => ⟨[], (List.append_nil _).symm, fun j hj => absurd hj (Nat.not_lt_zero j)⟩
  | d + 1, h => by
    obtain ⟨R, hR, hP⟩ := stX_rest hg hd h1 d (by omega)
    have e : stX f tr p m (k + (d + 1)) = stX f tr p m (k + d) ++ gx f (takeF tr (gd (cutT tr).2 (k + d)) (cutT tr).1) (m : Int) (m + (stX f tr p m (k + d)).length) := rfl
    have hmn := stX_mono (f := f) (tr := tr) (p := p) (m := m) (k := k) d
    obtain ⟨-, g0, g3⟩ := gx_par (takeF_goodM (part := gd (cutT tr).2 (k + d)) (kind := (cutT tr).1) hg) (hd (k + d) (by omega)) (show m < m + (stX f tr p m (k + d)).length by omega)
    refine ⟨R ++ gx f (takeF tr (gd (cutT tr).2 (k + d)) (cutT tr).1) (m : Int) (m + (stX f tr p m (k + d)).length), by rw [e, hR, List.append_assoc], fun j hj => ?_⟩
    rw [nx0_app]
    by_cases c : j < R.length
    · rw [if_pos c]; exact hP j c
    · rw [if_neg c]
      rw [List.length_append] at hj
      by_cases c0 : j - R.length = 0
      · rw [c0]; exact Or.inl g0
      · have := g3 (j - R.length) (by omega) (by omega)
        exact Or.inr (by omega)
theorem trB {nd : List Nd} : ∀ (f : Nat) (tr : List (List Nat)) (p : Int) (m : Nat) (pre post : List Nd), GoodM tr → dpOk f tr → nd = pre ++ gx f tr p m ++ post → pre.length = m → p < (m : Int) → (∀ j, j < pre.length → (nx0 pre j).2.1 < (m : Int)) → (∀ j, j < post.length → (nx0 post j).2.1 < (m : Int) ∨ ((m + (gx f tr p m).length : Nat) : Int) ≤ (nx0 post j).2.1) → TrB nd f tr m
  | 0, _, _, _, _, _, _, h, _, _, _, _, _ => h.elim
  | f + 1, tr, p, m, pre, post, hg, hd, hnd, hpl, hp, hpre, hpost => by
    have hD := cutD hg
    obtain ⟨hpart, ⟨cs, hI, hw⟩, h0⟩ := gx_inv (f + 1) tr p m hg hd hp
    have hlen : 1 ≤ (gx (f + 1) tr p m).length := hI.1
    -- what stands at the places of the stretch
    have hat : ∀ j, j < (gx (f + 1) tr p m).length → nx0 nd (m + j) = nx0 (gx (f + 1) tr p m) j := by
      intro j hj
      rw [hnd, nx0_app, if_pos (by rw [List.length_append]; omega), nx0_app, if_neg (by omega), hpl, Nat.add_sub_cancel_left]
    have hroot : nx0 nd m = ((cutT tr).1, p, moL tr) := by
      have := hat 0 (by omega)
      rw [Nat.add_zero] at this
      rw [this, h0]
    have hm : m < nd.length := by rw [hnd, List.length_append, List.length_append]; omega
    -- its children
    have hch : chl nd m = exX tr m ++ ofX f tr p m (cutT tr).2.length := by
      rw [chl_cix, hnd, cix_app, cix_app, cix_none pre 0 (fun j hj => by have := hpre j hj; omega), List.nil_append, Nat.zero_add, hpl, gx_s, cix_st hg hd hp _ (Nat.le_refl _), cix_none post _ (fun j hj => by have := hpost j hj; omega), List.append_nil]
    have h1k : ∀ k, 1 ≤ (stX f tr p m k).length := by
      intro k
      have := stX_mono (f := f) (tr := tr) (p := p) (m := m) (k := 0) k
      rw [Nat.zero_add] at this
      have h3 : 1 ≤ (stX f tr p m 0).length := by show 1 ≤ (hd3 tr p m).length; unfold hd3; rw [List.length_cons]; omega
      omega
    have hkid : ∀ k, k < (cutT tr).2.length → TrB nd f (takeF tr (gd (cutT tr).2 k) (cutT tr).1) (m + (stX f tr p m k).length) := by
      intro k hk
      obtain ⟨R, hR, hRp⟩ := stX_rest (f := f) (p := p) (m := m) hg hd (h1k (k + 1)) ((cutT tr).2.length - (k + 1)) (by omega)
      rw [show k + 1 + ((cutT tr).2.length - (k + 1)) = (cutT tr).2.length by omega] at hR
      have e : stX f tr p m (k + 1) = stX f tr p m k ++ gx f (takeF tr (gd (cutT tr).2 k) (cutT tr).1) (m : Int) (m + (stX f tr p m k).length) := rfl
      have hs := stX_s (f := f) (tr := tr) (p := p) (m := m) (k := k)
      have hk1 := h1k k
      have hIk := hpart k (by omega) f rfl
      have hmn : (stX f tr p m (k + 1)).length ≤ (gx (f + 1) tr p m).length := by
        rw [gx_s, hR, List.length_append]; omega
      refine trB f (takeF tr (gd (cutT tr).2 k) (cutT tr).1) (m : Int) (m + (stX f tr p m k).length) (pre ++ stX f tr p m k) (R ++ post) (takeF_goodM hg) (hd k hk) ?_ ?_ (by omega) ?_ ?_
      · rw [hnd, gx_s, hR, e]
        simp only [List.append_assoc]
      · rw [List.length_append, hpl]
      · intro j hj
        rw [List.length_append] at hj
        rw [nx0_app]
        by_cases c : j < pre.length
        · rw [if_pos c]; have := hpre j c; omega
        · rw [if_neg c]
          obtain ⟨i1, i2, i3, -, -⟩ := hIk
          by_cases c0 : j - pre.length = 0
          · rw [c0]
            have : (nx0 (stX f tr p m k) 0).2.1 < (m : Int) := i2
            omega
          · have : (nx0 (stX f tr p m k) (j - pre.length)).2.1 < ((m + (j - pre.length) : Nat) : Int) := (i3 (j - pre.length) (by omega) (by show j - pre.length < (stX f tr p m k).length; omega)).2
            omega
      · intro j hj
        rw [List.length_append] at hj
        rw [nx0_app]
        by_cases c : j < R.length
        · rw [if_pos c]
          have := hRp j c
          omega
        · rw [if_neg c]
          have := hpost (j - R.length) (by omega)
          omega
    have hK : ndK nd m = (cutT tr).1 := by show (nx0 nd m).1 = _; rw [hroot]
    have hS : ndS nd m = moL tr := by show (nx0 nd m).2.2 = _; rw [hroot]
    -- the nodes of its own
    have hown : ∀ j, 1 ≤ j → j < (hd3 tr p m).length → nx0 nd (m + j) = nx0 (hd3 tr p m) j := by
      intro j _ hj
      obtain ⟨R, hR, -⟩ := stX_rest (f := f) (p := p) (m := m) hg hd (h1k 0) (cutT tr).2.length (by omega)
      rw [Nat.zero_add] at hR
      have h9 : (hd3 tr p m).length ≤ (gx (f + 1) tr p m).length := by
        rw [gx_s, hR, List.length_append]; exact Nat.le_add_right _ _
      rw [hat j (by omega), gx_s, hR, nx0_app]
      exact if_pos hj
    refine ⟨hm, hK, hS, fun hz hem => ?_, fun k5 kn => ?_, fun hem h2 => ?_⟩
    · have hem9 := (em_iff tr).mpr hem
      rcases hD with ⟨q, -⟩ | ⟨-, -, e1, e2⟩ | ⟨-, q, -⟩ | ⟨-, q, -⟩ | ⟨-, q, -⟩
      · exact absurd q hz
      · have hex : exX tr m = [m + 1] := by
          unfold exX
          rw [if_pos ⟨e1, hem9⟩, if_neg (fun h => by omega)]; rfl
        have hl1 : (cutT tr).2.length = 1 := by rw [e2]; rfl
        rw [hch, hex, hl1]
        refine ⟨rfl, ?_, ?_⟩
        · have hh : nx0 (hd3 tr p m) 1 = (0, (m : Int), 0) ∧ 1 < (hd3 tr p m).length := by
            unfold hd3
            rw [if_pos ⟨e1, hem9⟩]
            exact ⟨rfl, by simp⟩
          show (nx0 nd (m + 1)).1 = 0
          rw [hown 1 (Nat.le_refl 1) hh.2, hh.1]
        · have := hkid 0 (by omega)
          rw [e2, e1] at this
          exact this
      · rw [hem] at q; cases q
      · rw [hem] at q; cases q
      · rw [hem] at q; cases q
    · have hno : ¬ ((cutT tr).1 = 2 ∧ 0 < (mL tr).2.2.2.1) := fun h => by omega
      have hex : exX tr m = [m + 1, m + 2] := by
        unfold exX
        rw [if_neg hno, if_pos ⟨k5, kn⟩]; rfl
      have hh : nx0 (hd3 tr p m) 1 = (1, (m : Int), (mL tr).1) ∧ nx0 (hd3 tr p m) 2 = (0, (m : Int), 0) ∧ 2 < (hd3 tr p m).length := by
        unfold hd3
        rw [if_neg hno, if_pos ⟨k5, kn⟩]
        exact ⟨rfl, rfl, by simp⟩
      rw [hch, hex, kn]
      refine ⟨rfl, ?_, ?_, ?_⟩
      · show (nx0 nd (m + 1)).1 = 1
        rw [hown 1 (Nat.le_refl 1) (by omega), hh.1]
      · show (nx0 nd (m + 1)).2.2 = moL tr
        rw [hown 1 (Nat.le_refl 1) (by omega), hh.1]
        exact (mL_eq tr).1
      · show (nx0 nd (m + 2)).1 = 0
        rw [hown 2 (by omega) hh.2.2, hh.2.1]
    · have hno : ¬ 0 < (mL tr).2.2.2.1 := fun h => by
        have := (em_iff tr).mp h
        rw [hem] at this; cases this
      have hex : exX tr m = [] := by
        unfold exX
        rw [if_neg (fun h => hno h.2), if_neg (fun h => by omega)]; rfl
      rw [hch, hex]
      refine ⟨by rw [List.nil_append]; unfold ofX; rw [List.length_map, List.length_range], fun i hi => ?_⟩
      have := ofX_gd (f := f) (tr := tr) (p := p) (m := m) (ex := []) hi
      rw [List.length_nil, Nat.zero_add] at this
      rw [this]
      exact hkid i hi
/-- the miner's tree -/
theorem trB_root {tr : List (List Nat)} (hg : GoodM tr) : TrB (growF 16 tr (-1) []) 16 tr 0 := by
  rw [growF_gx 16 tr (-1) []]
  refine trB 16 tr (-1) 0 [] [] hg (dp_root hg) (by rw [List.append_nil]; rfl) rfl (by decide) (fun j hj => absurd hj (Nat.not_lt_zero j)) (fun j hj => absurd hj (Nat.not_lt_zero j))
end PTRB
