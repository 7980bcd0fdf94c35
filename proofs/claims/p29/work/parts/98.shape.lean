section SHAPE1
abbrev nx0 (q : List Nd) (j : Nat) : Nd := q.getD j (0, 0, 0)
theorem nx0_app {q B : List Nd} {j : Nat} : nx0 (q ++ B) j = if j < q.length then nx0 q j else nx0 B (j - q.length) := by
  unfold nx0
  rw [List.getD_eq_getElem?_getD, List.getD_eq_getElem?_getD, List.getD_eq_getElem?_getD]
  by_cases h : j < q.length
  · rw [if_pos h, List.getElem?_append_left h]
  · rw [if_neg h, List.getElem?_append_right (by omega)]
/-- the sets of the children of a node -/
def chX (q : List Nd) (i : Nat) : List Nat := (q.filter (fun x => decide (x.2.1 = (i : Int)))).map (fun x => x.2.2)
theorem chX_app {q B : List Nd} {i : Nat} : chX (q ++ B) i = chX q i ++ chX B i := by
  unfold chX
  rw [List.filter_append, List.map_append]
theorem chX_one {x : Nd} {i : Nat} : chX [x] i = if x.2.1 = (i : Int) then [x.2.2] else [] := by
  unfold chX
  by_cases h : x.2.1 = (i : Int)
  · rw [if_pos h]; simp [h]
  · rw [if_neg h]; simp [h]
theorem chX_none {q : List Nd} {i : Nat} (h : ∀ j, j < q.length → (nx0 q j).2.1 ≠ (i : Int)) : chX q i = [] := by
  unfold chX
  have : q.filter (fun x => decide (x.2.1 = (i : Int))) = [] := by
    rw [List.filter_eq_nil_iff]
    intro x hx
    obtain ⟨j, hj, e⟩ := List.mem_iff_getElem.mp hx
    have := h j hj
    unfold nx0 at this
    rw [List.getD_eq_getElem?_getD, List.getElem?_eq_getElem hj] at this
    rw [decide_eq_true_iff, ← e]
    exact this
  rw [this]
  rfl
theorem chl_chX {nd : List Nd} {i : Nat} : (chl nd i).map (ndS nd) = chX nd i := by
  have key : ∀ (n : Nat) (nd : List Nd), nd.length = n → (chl nd i).map (ndS nd) = chX nd i := by
    intro n
    induction n with
    | zero =>
      intro nd h
      have : nd = [] := List.length_eq_zero_iff.mp h
      subst this
      rfl
    | succ n ih =>
      intro nd h
      have hne : nd ≠ [] := fun e => (by rw [e] at h; cases h)
      rw [← List.dropLast_concat_getLast hne, chl_app, chX_app, chX_one, List.map_append]
      have hl : nd.dropLast.length = n := by rw [List.length_dropLast, h]; rfl
      have e1 : (chl nd.dropLast i).map (ndS (nd.dropLast ++ [nd.getLast hne])) = (chl nd.dropLast i).map (ndS nd.dropLast) := by
        apply List.map_congr_left
        intro k hk
        have hk2 : k < nd.dropLast.length := by
          unfold chl at hk
          exact List.mem_range.mp (List.mem_filter.mp hk).1
        unfold ndS
        rw [nd_app, if_neg (by omega)]
      rw [e1, ih _ hl]
      congr 1
      by_cases hp : (nd.getLast hne).2.1 = (i : Int)
      · rw [if_pos hp, if_pos hp]
        show [ndS (nd.dropLast ++ [nd.getLast hne]) nd.dropLast.length] = _
        unfold ndS
        rw [nd_app, if_pos rfl]
      · rw [if_neg hp, if_neg hp]
        rfl
  exact key nd.length nd rfl
theorem chl_len {nd : List Nd} {i : Nat} : (chl nd i).length = (chX nd i).length := by rw [← chl_chX, List.length_map]
theorem chl_set {nd : List Nd} {i c : Nat} (hc : c < (chl nd i).length) : ndS nd (gd (chl nd i) c) = gd (chX nd i) c := by
  rw [← chl_chX]
  unfold gd
  rw [List.getD_eq_getElem?_getD, List.getD_eq_getElem?_getD, List.getElem?_map, List.getElem?_eq_getElem hc]
  rfl
/-- sets within another one, apart, and together all of it -/
def Dj (u : Nat) (cs : List Nat) : Prop := (∀ i, i < cs.length → Sb (gd cs i) u) ∧ (∀ i j, i < cs.length → j < cs.length → i ≠ j → ∀ y, (gd cs i).testBit y = true → (gd cs j).testBit y = false) ∧ ∀ y, u.testBit y = true → ∃ i, i < cs.length ∧ (gd cs i).testBit y = true
theorem DP.dj {u : Nat} {ps : List Nat} (h : DP u ps) : Dj u ps := ⟨fun i hi => (h.1 i hi).2, h.2.1, h.2.2⟩
/-- a node and the sets of its children -/
def WfN (y : Nd) (cs : List Nat) : Prop := y.1 ≤ 6 ∧ y.2.2 < 256 ∧ ((y.1 = 0 ∨ y.1 = 1 ∨ y.1 = 6) → cs = []) ∧ (y.1 = 0 → y.2.2 = 0) ∧ (y.1 = 1 → popc y.2.2 = 1) ∧ ((y.1 = 2 ∨ y.1 = 3 ∨ y.1 = 4 ∨ y.1 = 5) → 1 ≤ cs.length ∧ cs.length ≤ 8 ∧ Dj y.2.2 cs) ∧ (y.1 = 5 → 2 ≤ cs.length)
/-- a stretch of nodes, as far as it is built: the node m and what is below it -/
def InvB (m : Nat) (q : List Nd) (cs : List Nat) : Prop := 1 ≤ q.length ∧ (nx0 q 0).2.1 < (m : Int) ∧ (∀ j, 1 ≤ j → j < q.length → (m : Int) ≤ (nx0 q j).2.1 ∧ (nx0 q j).2.1 < ((m + j : Nat) : Int)) ∧ (∀ j, 1 ≤ j → j < q.length → WfN (nx0 q j) (chX q (m + j))) ∧ chX q m = cs
theorem InvB.app {m : Nat} {q B : List Nd} {cs cs' : List Nat} (h : InvB m q cs) (hB : InvB (m + q.length) B cs') (hw : WfN (nx0 B 0) cs') (hp : (nx0 B 0).2.1 = (m : Int)) : InvB m (q ++ B) (cs ++ [(nx0 B 0).2.2]) := by
  obtain ⟨h1, h2, h3, h4, h5⟩ := h
  obtain ⟨b1, b2, b3, b4, b5⟩ := hB
  have hl : (q ++ B).length = q.length + B.length := List.length_append
  -- who in B has a parent ahead of B
  have cB : ∀ i, i < m + q.length → chX B i = if i = m then [(nx0 B 0).2.2] else [] := by
    intro i hi
    obtain ⟨x, t, e⟩ : ∃ x t, B = x :: t := by
      cases B with
      | nil => exact absurd b1 (by decide)
      | cons x t => exact ⟨x, t, rfl⟩
    have ht : chX t i = [] := by
      refine chX_none (fun j hj => ?_)
      have := b3 (j + 1) (by omega) (by rw [e]; show _ < t.length + 1; omega)
      have e2 : nx0 B (j + 1) = nx0 t j := by rw [e]; rfl
      rw [e2] at this
      omega
    have e3 : B = [x] ++ t := e
    have e4 : nx0 B 0 = x := by rw [e]; rfl
    rw [e4] at hp ⊢
    rw [e3, chX_app, ht, List.append_nil, chX_one, hp]
    by_cases q9 : i = m
    · rw [if_pos q9, if_pos (by omega)]
    · rw [if_neg q9, if_neg (by omega)]
  have cq : ∀ i, m + q.length ≤ i → chX q i = [] := by
    intro i hi
    refine chX_none (fun j hj => ?_)
    by_cases e : j = 0
    · rw [e]; omega
    · have := h3 j (by omega) hj; omega
  refine ⟨by omega, ?_, fun j hj1 hj => ?_, fun j hj1 hj => ?_, ?_⟩
  · rw [nx0_app, if_pos (by omega)]; exact h2
  · rw [nx0_app]
    by_cases e : j < q.length
    · rw [if_pos e]; exact h3 j hj1 e
    · rw [if_neg e]
      by_cases e2 : j - q.length = 0
      · rw [e2, hp]; omega
      · have := b3 (j - q.length) (by omega) (by omega); omega
  · rw [nx0_app, chX_app]
    by_cases e : j < q.length
    · rw [if_pos e, cB (m + j) (by omega), if_neg (by omega), List.append_nil]
      exact h4 j hj1 e
    · rw [if_neg e, cq (m + j) (by omega), List.nil_append]
      by_cases e2 : j - q.length = 0
      · rw [e2, show m + j = m + q.length by omega, b5]; exact hw
      · have := b4 (j - q.length) (by omega) (by omega)
        rw [show m + q.length + (j - q.length) = m + j by omega] at this
        exact this
  · rw [chX_app, h5, cB m (by omega), if_pos rfl]
theorem wfn_leaf {k : Nat} {p : Int} {u : Nat} (hk : k = 1 ∨ k = 6) (hu : u < 256) (h1 : k = 1 → popc u = 1) : WfN (k, p, u) [] := by
  unfold WfN
  refine ⟨?_, hu, fun _ => rfl, fun h => ?_, h1, fun h => ?_, fun h => ?_⟩ <;> dsimp only at * <;> omega
theorem wfn_inner {k : Nat} {p : Int} {u : Nat} {cs : List Nat} (hk : k = 2 ∨ k = 3 ∨ k = 4 ∨ k = 5) (hu : u < 256) (h1 : 1 ≤ cs.length) (h8 : cs.length ≤ 8) (hd : Dj u cs) (h5 : k = 5 → 2 ≤ cs.length) : WfN (k, p, u) cs := by
  unfold WfN
  refine ⟨?_, hu, fun h => ?_, fun h => ?_, fun h => ?_, fun _ => ⟨h1, h8, hd⟩, h5⟩ <;> dsimp only at * <;> omega
theorem wf_nothing {p : Int} : WfN (0, p, 0) [] := by
  unfold WfN
  refine ⟨?_, ?_, fun _ => rfl, fun _ => rfl, fun h => ?_, fun h => ?_, fun h => ?_⟩ <;> dsimp only at * <;> omega
theorem dj_0 {u : Nat} : Dj u [0, u] := by
  refine ⟨fun i hi => ?_, fun i j hi hj hij y hy => ?_, fun y hy => ⟨1, Nat.lt_succ_self 1, hy⟩⟩
  · have h2 : [0, u].length = 2 := rfl
    rcases (show i = 0 ∨ i = 1 by omega) with e | e
    · rw [e]
      intro y hy
      rw [show gd [0, u] 0 = 0 from rfl, Nat.zero_testBit] at hy; cases hy
    · rw [e]; exact Sb.rf
  · have h2 : [0, u].length = 2 := rfl
    rcases (show i = 0 ∨ i = 1 by omega) with e | e
    · rw [e, show gd [0, u] 0 = 0 from rfl, Nat.zero_testBit] at hy; cases hy
    · rw [show j = 0 by omega, show gd [0, u] 0 = 0 from rfl, Nat.zero_testBit]
theorem dj_1 {u : Nat} : Dj u [u, 0] := by
  refine ⟨fun i hi => ?_, fun i j hi hj hij y hy => ?_, fun y hy => ⟨0, Nat.lt_succ_of_lt Nat.one_pos, hy⟩⟩
  · have h2 : [u, 0].length = 2 := rfl
    rcases (show i = 0 ∨ i = 1 by omega) with e | e
    · rw [e]; exact Sb.rf
    · rw [e]
      intro y hy
      rw [show gd [u, 0] 1 = 0 from rfl, Nat.zero_testBit] at hy; cases hy
  · have h2 : [u, 0].length = 2 := rfl
    rcases (show i = 0 ∨ i = 1 by omega) with e | e
    · rw [show j = 1 by omega, show gd [u, 0] 1 = 0 from rfl, Nat.zero_testBit]
    · rw [e, show gd [u, 0] 1 = 0 from rfl, Nat.zero_testBit] at hy; cases hy
theorem inv_one {m : Nat} {x : Nd} (hp : x.2.1 < (m : Int)) : InvB m [x] [] := by
  refine ⟨Nat.le_refl _, hp, fun j h1 h2 => ?_, fun j h1 h2 => ?_, ?_⟩
  · have : [x].length = 1 := rfl
    omega
  · have : [x].length = 1 := rfl
    omega
  · rw [chX_one, if_neg (by omega)]
/-- the heads of a tree: its first node, and those that no log is made for -/
def hd3 (tr : List (List Nat)) (p : Int) (m : Nat) : List Nd := ((cutT tr).1, p, (mL tr).1) :: ((if (cutT tr).1 = 2 ∧ 0 < (mL tr).2.2.2.1 then [((0 : Nat), (m : Int), (0 : Nat))] else []) ++ (if (cutT tr).1 = 5 ∧ (cutT tr).2.length = 0 then [((1 : Nat), (m : Int), (mL tr).1), (0, (m : Int), 0)] else []))
def gx : Nat → List (List Nat) → Int → Nat → List Nd
  | 0, _, _, _ => []
  | f + 1, tr, p, m => it (fun i q => q ++ gx f (takeF tr (gd (cutT tr).2 i) (cutT tr).1) (m : Int) (m + q.length)) (hd3 tr p m) (cutT tr).2.length
theorem grow3_hd {tr : List (List Nat)} {p : Int} {nd : List Nd} : grow3 tr p nd = nd ++ hd3 tr p nd.length := by
  unfold grow3 grow2 grow1 hd3
  by_cases h1 : (cutT tr).1 = 2 ∧ 0 < (mL tr).2.2.2.1
  · rw [if_pos h1, if_pos h1, if_neg (fun h => by omega), if_neg (fun h => by omega), List.append_assoc]
    rfl
  · rw [if_neg h1, if_neg h1]
    by_cases h2 : (cutT tr).1 = 5 ∧ (cutT tr).2.length = 0
    · rw [if_pos h2, if_pos h2, List.append_assoc, List.append_assoc]
      rfl
    · rw [if_neg h2, if_neg h2]
      rfl
theorem growF_gx : ∀ (f : Nat) (tr : List (List Nat)) (p : Int) (nd : List Nd), growF f tr p nd = nd ++ gx f tr p nd.length
  | 0, _, _, nd => (List.append_nil nd).symm
  | f + 1, tr, p, nd => by
    have key : ∀ k, it (fun i q => growF f (takeF tr (gd (cutT tr).2 i) (cutT tr).1) (nd.length : Int) q) (grow3 tr p nd) k = nd ++ it (fun i q => q ++ gx f (takeF tr (gd (cutT tr).2 i) (cutT tr).1) (nd.length : Int) (nd.length + q.length)) (hd3 tr p nd.length) k := by
      intro k
      induction k with
      | zero => exact grow3_hd
      | succ k ih =>
        rw [it_s, it_s, ih, growF_gx f, List.append_assoc, List.length_append]
    exact key (cutT tr).2.length
def pfx (ps : List Nat) (k : Nat) : List Nat := it (fun j l => l ++ [gd ps j]) [] k
theorem pfx_len {ps : List Nat} : ∀ k, (pfx ps k).length = k
  | 0 => rfl
  | k + 1 => by
    have e : pfx ps (k + 1) = pfx ps k ++ [gd ps k] := rfl
    rw [e, List.length_append, pfx_len k]; rfl
theorem pfx_gd {ps : List Nat} : ∀ k i, i < k → gd (pfx ps k) i = gd ps i
  | 0, _, h => absurd h (Nat.not_lt_zero _)
  | k + 1, i, h => by
    have e : pfx ps (k + 1) = pfx ps k ++ [gd ps k] := rfl
    rw [e, gd_snoc, pfx_len]
    split
    · rename_i q; rw [q]
    · exact pfx_gd k i (by omega)
theorem pfx_all {ps : List Nat} : pfx ps ps.length = ps := ext_gd (pfx_len _) (fun i hi => pfx_gd _ i (by rw [pfx_len] at hi; exact hi))
/-- the sets of the heads behind the first -/
def exS (tr : List (List Nat)) : List Nat := (if (cutT tr).1 = 2 ∧ 0 < (mL tr).2.2.2.1 then [0] else []) ++ (if (cutT tr).1 = 5 ∧ (cutT tr).2.length = 0 then [(mL tr).1, 0] else [])
theorem hd3_inv {tr : List (List Nat)} {p : Int} {m : Nat} (hg : GoodM tr) (hp : p < (m : Int)) : InvB m (hd3 tr p m) (exS tr) := by
  have hu : (mL tr).1 < 256 := (mL_8 hg.1.1).1
  have hD := cutD hg
  have hm1 := (mL_eq tr).1
  have h1 := inv_one (m := m) (x := ((cutT tr).1, p, (mL tr).1)) hp
  unfold hd3 exS
  have hno : ∀ {k : Nat} {set : Nat}, InvB (m + k) [((0 : Nat), (m : Int), (0 : Nat))] [] ↔ InvB (m + k) [((0 : Nat), (m : Int), (0 : Nat))] [] := Iff.rfl
  by_cases c1 : (cutT tr).1 = 2 ∧ 0 < (mL tr).2.2.2.1
  · rw [if_pos c1, if_neg (fun h => by omega), if_pos c1, if_neg (fun h => by omega)]
    exact h1.app (B := [((0 : Nat), (m : Int), (0 : Nat))]) (inv_one (by show (m : Int) < ((m + 1 : Nat) : Int); omega)) wf_nothing rfl
  · rw [if_neg c1, if_neg c1]
    by_cases c2 : (cutT tr).1 = 5 ∧ (cutT tr).2.length = 0
    · rw [if_pos c2, if_pos c2]
      have hpc : popc (mL tr).1 = 1 := by
        rw [hm1]
        rcases hD with ⟨-, e, -⟩ | ⟨-, -, e, -⟩ | ⟨-, -, e, -⟩ | ⟨-, -, -, e, -⟩ | ⟨-, -, -, -, e, -⟩
        · omega
        · omega
        · exact e
        · omega
        · omega
      have hwl : WfN ((1 : Nat), (m : Int), (mL tr).1) [] := wfn_leaf (Or.inl rfl) hu (fun _ => hpc)
      have g1 := h1.app (B := [((1 : Nat), (m : Int), (mL tr).1)]) (inv_one (by show (m : Int) < ((m + 1 : Nat) : Int); omega)) hwl rfl
      exact g1.app (B := [((0 : Nat), (m : Int), (0 : Nat))]) (inv_one (by show (m : Int) < ((m + 2 : Nat) : Int); omega)) wf_nothing rfl
    · rw [if_neg c2, if_neg c2]
      exact h1
/-- the tree of a log is well shaped -/
theorem gx_inv : ∀ (f : Nat) (tr : List (List Nat)) (p : Int) (m : Nat), GoodM tr → dpOk f tr → p < (m : Int) → (∀ k, k ≤ (cutT tr).2.length → ∀ f', f = f' + 1 → InvB m (it (fun i q => q ++ gx f' (takeF tr (gd (cutT tr).2 i) (cutT tr).1) (m : Int) (m + q.length)) (hd3 tr p m) k) (exS tr ++ pfx (cutT tr).2 k)) ∧ (∃ cs, InvB m (gx f tr p m) cs ∧ WfN (nx0 (gx f tr p m) 0) cs) ∧ nx0 (gx f tr p m) 0 = ((cutT tr).1, p, moL tr)
  | 0, _, _, _, _, h, _ => h.elim
  | f + 1, tr, p, m, hg, hd, hp => by
    have hD := cutD hg
    have hm1 := (mL_eq tr).1
    have hd' : ∀ i, i < (cutT tr).2.length → dpOk f (takeF tr (gd (cutT tr).2 i) (cutT tr).1) := hd
    have hsub : ∀ i, i < (cutT tr).2.length → Sb (gd (cutT tr).2 i) (moL tr) := by
      intro i hi
      rcases hD with ⟨-, -, e⟩ | ⟨-, -, -, e⟩ | ⟨-, -, -, -, e⟩ | ⟨-, -, -, -, e⟩ | ⟨-, -, -, -, -, -, e⟩
      · rw [e] at hi; exact absurd hi (Nat.not_lt_zero i)
      · rw [e] at hi ⊢
        have : [moL tr].length = 1 := rfl
        rw [show i = 0 by omega]
        exact Sb.rf
      · rw [e] at hi; exact absurd hi (Nat.not_lt_zero i)
      · rw [e] at hi; exact absurd hi (Nat.not_lt_zero i)
      · exact (e.1 i hi).2
    have part : ∀ k, k ≤ (cutT tr).2.length → InvB m (it (fun i q => q ++ gx f (takeF tr (gd (cutT tr).2 i) (cutT tr).1) (m : Int) (m + q.length)) (hd3 tr p m) k) (exS tr ++ pfx (cutT tr).2 k) := by
      intro k
      induction k with
      | zero => exact fun _ => by rw [show pfx (cutT tr).2 0 = [] from rfl, List.append_nil]; exact hd3_inv hg hp
      | succ k ih =>
        intro hk
        have ih := ih (by omega)
        rw [it_s]
        generalize it (fun i q => q ++ gx f (takeF tr (gd (cutT tr).2 i) (cutT tr).1) (m : Int) (m + q.length)) (hd3 tr p m) k = q at ih
        have hql := ih.1
        obtain ⟨-, ⟨cs', g1, g2⟩, g3⟩ := gx_inv f (takeF tr (gd (cutT tr).2 k) (cutT tr).1) (m : Int) (m + q.length) (takeF_goodM hg) (hd' k (by omega)) (by omega)
        have := ih.app g1 g2 (by rw [g3])
        rw [g3, takeF_moL (hsub k (by omega)), List.append_assoc] at this
        exact this
    refine ⟨fun k hk f' hf => by rw [← Nat.succ.inj hf]; exact part k hk, ?_, ?_⟩
    · refine ⟨_, part _ (Nat.le_refl _), ?_⟩
      have hh : nx0 (gx (f + 1) tr p m) 0 = ((cutT tr).1, p, (mL tr).1) := by
        have : ∀ k, nx0 (it (fun i q => q ++ gx f (takeF tr (gd (cutT tr).2 i) (cutT tr).1) (m : Int) (m + q.length)) (hd3 tr p m) k) 0 = ((cutT tr).1, p, (mL tr).1) ∧ 1 ≤ (it (fun i q => q ++ gx f (takeF tr (gd (cutT tr).2 i) (cutT tr).1) (m : Int) (m + q.length)) (hd3 tr p m) k).length := by
          intro k
          induction k with
          | zero => exact ⟨rfl, by show 1 ≤ (hd3 tr p m).length; unfold hd3; rw [List.length_cons]; omega⟩
          | succ k ih =>
            rw [it_s, nx0_app, if_pos (by omega), List.length_append]
            exact ⟨ih.1, by omega⟩
        exact (this _).1
      rw [hh, pfx_all]
      have hu : (mL tr).1 < 256 := (mL_8 hg.1.1).1
      unfold exS
      rcases hD with ⟨h0, e1, e2⟩ | ⟨h0, hem, e1, e2⟩ | ⟨h0, hem, hpc, e1, e2⟩ | ⟨h0, hem, hk, e1, e2⟩ | ⟨h0, hem, hk, e1, hl2, hl8, hdp⟩
      · rw [e1, e2, if_neg (fun h => by omega), if_neg (fun h => by omega), hm1, h0]
        exact wf_nothing
      · have hem9 := (em_iff tr).mpr hem
        rw [e1, e2, if_pos ⟨rfl, hem9⟩, if_neg (fun h => by omega), hm1]
        rw [hm1] at hu
        exact wfn_inner (cs := [0, moL tr]) (Or.inl rfl) hu (by show 1 ≤ 2; omega) (by show 2 ≤ 8; omega) dj_0 (fun h => (by omega))
      · have hno : ¬ 0 < (mL tr).2.2.2.1 := fun h => by
          have := (em_iff tr).mp h
          rw [hem] at this; cases this
        rw [if_neg (fun h => hno h.2), e2, hm1]
        rw [hm1] at hu
        rcases e1 with e1 | e1
        · rw [e1, if_neg (fun h => by omega)]
          exact wfn_leaf (Or.inl rfl) hu (fun _ => hpc)
        · rw [e1, if_pos ⟨rfl, rfl⟩]
          exact wfn_inner (cs := [moL tr, 0]) (by omega) hu (by show 1 ≤ 2; omega) (by show 2 ≤ 8; omega) dj_1 (fun _ => Nat.le_refl 2)
      · have hno : ¬ 0 < (mL tr).2.2.2.1 := fun h => by
          have := (em_iff tr).mp h
          rw [hem] at this; cases this
        rw [if_neg (fun h => hno h.2), e1, e2, if_neg (fun h => by omega), hm1]
        rw [hm1] at hu
        exact wfn_leaf (Or.inr rfl) hu (fun h => (by omega))
      · have hno : ¬ 0 < (mL tr).2.2.2.1 := fun h => by
          have := (em_iff tr).mp h
          rw [hem] at this; cases this
        rw [if_neg (fun h => hno h.2), if_neg (fun h => by omega), hm1]
        rw [hm1] at hu
        show WfN ((cutT tr).1, p, moL tr) (cutT tr).2
        exact wfn_inner (by omega) hu (by omega) hl8 hdp.dj (fun _ => hl2)
    · have : ∀ k, nx0 (it (fun i q => q ++ gx f (takeF tr (gd (cutT tr).2 i) (cutT tr).1) (m : Int) (m + q.length)) (hd3 tr p m) k) 0 = ((cutT tr).1, p, (mL tr).1) ∧ 1 ≤ (it (fun i q => q ++ gx f (takeF tr (gd (cutT tr).2 i) (cutT tr).1) (m : Int) (m + q.length)) (hd3 tr p m) k).length := by
        intro k
        induction k with
        | zero => exact ⟨rfl, by show 1 ≤ (hd3 tr p m).length; unfold hd3; rw [List.length_cons]; omega⟩
        | succ k ih =>
          rw [it_s, nx0_app, if_pos (by omega), List.length_append]
          exact ⟨ih.1, by omega⟩
      rw [← hm1]
      exact (this _).1
end SHAPE1
