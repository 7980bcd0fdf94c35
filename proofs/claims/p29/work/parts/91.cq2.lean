section CQ2
/-- a set of labels within another one -/
def Sb (x y : Nat) : Prop := ∀ i, x.testBit i = true → y.testBit i = true
theorem Sb.rf {x : Nat} : Sb x x := fun _ h => h
theorem Sb.tr {x y z : Nat} (h : Sb x y) (h2 : Sb y z) : Sb x z := fun i hi => h2 i (h i hi)
theorem Sb.eq {x y : Nat} (h : Sb x y) (h2 : Sb y x) : x = y := by
  apply Nat.eq_of_testBit_eq
  intro i
  cases hx : x.testBit i
  · cases hy : y.testBit i
    · rfl
    · rw [h2 i hy] at hx; cases hx
  · rw [h i hx]
theorem Sb.orl {x y : Nat} : Sb x (x ||| y) := fun i h => by rw [Nat.testBit_or, h, Bool.true_or]
theorem bit8 {x i : Nat} (hx : x < 256) (h : x.testBit i = true) : i < 8 := by
  rcases Nat.lt_or_ge i 8 with q | q
  · exact q
  · rw [bit_lt (k := 8) hx q] at h; cases h
theorem popc_lt {x y : Nat} (h : Sb x y) (hne : x ≠ y) (hy : y < 4096) : popc x + 1 ≤ popc y := by
  have h1 := popc_and (a := y) (b := x)
  have e : y &&& x = x := by
    apply Nat.eq_of_testBit_eq
    intro i
    rw [Nat.testBit_and]
    cases hx : x.testBit i
    · rw [Bool.and_false]
    · rw [h i hx]; rfl
  have h2 : andn y x ≠ 0 := by
    intro h0
    apply hne
    refine h.eq (fun i hi => ?_)
    have := andn_bit y x i
    rw [h0, Nat.zero_testBit, hi] at this
    cases hx : x.testBit i
    · rw [hx] at this; cases this
    · rfl
  have h3 := popc_pos (andn_lt12 hy) h2
  rw [e] at h1
  omega
theorem it_fix {f : Nat → Nat → Nat} {g n : Nat} (hi : ∀ i x, x ≤ f i x) (h : it f g n = g) : ∀ i, i < n → f i g = g := by
  have up : ∀ e k, it f g k ≤ it f g (k + e) := by
    intro e
    induction e with
    | zero => exact fun k => Nat.le_refl _
    | succ e ih => exact fun k => Nat.le_trans (ih k) (hi (k + e) _)
  have all : ∀ k, k ≤ n → it f g k = g := by
    intro k hk
    have h1 := up (n - k) k
    have h2 := up k 0
    rw [show k + (n - k) = n by omega, h] at h1
    rw [Nat.zero_add] at h2
    exact Nat.le_antisymm h1 h2
  intro i hin
  have h1 := all i (by omega)
  have h2 := all (i + 1) (by omega)
  rw [it_s, h1] at h2
  exact h2
theorem fix_of {F : Nat → Nat} (hF : ∀ x, x < 256 → F x < 256) (hS : ∀ x, Sb x (F x)) {x0 : Nat} (h0 : x0 < 256) (hp : 1 ≤ popc x0) {n : Nat} (hn : 8 ≤ n) : F (it (fun _ g => F g) x0 n) = it (fun _ g => F g) x0 n := by
  have hlt : ∀ k, it (fun _ g => F g) x0 k < 256 := fun k => it_inv (fun _ x => x < 256) k h0 (fun _ x _ hx => hF x hx)
  have key : ∀ k, F (it (fun _ g => F g) x0 k) = it (fun _ g => F g) x0 k ∨ k + 1 ≤ popc (it (fun _ g => F g) x0 k) := by
    intro k
    induction k with
    | zero => exact Or.inr hp
    | succ k ih =>
      rw [it_s]
      rcases ih with ih | ih
      · exact Or.inl (by rw [ih]; exact ih)
      · by_cases he : F (it (fun _ g => F g) x0 k) = it (fun _ g => F g) x0 k
        · exact Or.inl (by rw [he]; exact he)
        · have := popc_lt (hS (it (fun _ g => F g) x0 k)) (fun e => he e.symm) (by have := hF _ (hlt k); omega)
          exact Or.inr (by omega)
  rcases key n with h | h
  · exact h
  · have := popc_le8 (hlt n)
    omega
theorem popc_pow {a : Nat} (ha : a < 8) : 1 ≤ popc (2 ^ a) := popc_pos (by have := pow_lt8 ha; omega) (Nat.ne_of_gt (Nat.two_pow_pos a))
/-! the groups of the miner -/
theorem gstep_Sb {nr : Nat → Nat} {set x g : Nat} : Sb g (gstep nr set x g) := by
  unfold gstep
  split
  · exact Sb.orl
  · exact Sb.rf
theorem gstep_ge {nr : Nat → Nat} {set x g : Nat} : g ≤ gstep nr set x g := by
  unfold gstep
  split
  · exact Nat.left_le_or
  · exact Nat.le_refl _
theorem grow8_Sb {nr : Nat → Nat} {set g : Nat} : Sb g (grow8 nr set g) :=
  it_inv (f := fun x g => gstep nr set x g) (s := g) (fun _ y => Sb g y) 8 Sb.rf (fun _ y _ hy => hy.tr gstep_Sb)
theorem grp_fix {nr : Nat → Nat} {set a : Nat} (hb : ∀ j, j < 8 → nr j < 256) (ha : a < 8) : grow8 nr set (grp nr set a) = grp nr set a :=
  fix_of (F := grow8 nr set) (fun x hx => grow8_lt hb hx (Nat.le_refl 8)) (fun x => grow8_Sb) (pow_lt8 ha) (popc_pow ha) (Nat.le_refl 8)
theorem grp_closed {nr : Nat → Nat} {set a : Nat} (hb : ∀ j, j < 8 → nr j < 256) (ha : a < 8) {y z : Nat} (hy : y < 8) (h1 : (grp nr set a).testBit y = true) (h2 : (nr y).testBit z = true) (h3 : set.testBit z = true) : (grp nr set a).testBit z = true := by
  have h := it_fix (f := fun x g => gstep nr set x g) (fun i x => gstep_ge) (grp_fix (set := set) hb ha) y hy
  have h : gstep nr set y (grp nr set a) = grp nr set a := h
  rw [← h]
  unfold gstep
  rw [if_pos h1, Nat.testBit_or, Nat.testBit_and, h2, h3, Bool.and_self, Bool.or_true]
theorem grp_self {nr : Nat → Nat} {set a : Nat} : (grp nr set a).testBit a = true :=
  it_inv (f := fun _ g => grow8 nr set g) (s := 2 ^ a) (fun _ g => Nat.testBit g a = true) 8 (by rw [pow_bit]; exact decide_eq_true rfl) (fun _ g _ h => grow8_Sb a h)
theorem grp_min {nr : Nat → Nat} {set a X : Nat} (hX : X.testBit a = true) (hc : ∀ y z, y < 8 → X.testBit y = true → (nr y).testBit z = true → set.testBit z = true → X.testBit z = true) : Sb (grp nr set a) X :=
  it_inv (f := fun _ g => grow8 nr set g) (s := 2 ^ a) (fun _ g => Sb g X) 8 (fun i hi => by rw [pow_bit, decide_eq_true_iff] at hi; rw [← hi]; exact hX) (fun _ g _ h =>
    it_inv (f := fun x g => gstep nr set x g) (s := g) (fun _ y => Sb y X) 8 h (fun x y hx hy => by
      unfold gstep
      split
      · rename_i hyx
        intro i hi
        rw [Nat.testBit_or, Bool.or_eq_true, Nat.testBit_and, Bool.and_eq_true] at hi
        rcases hi with hi | ⟨hi1, hi2⟩
        · exact hy i hi
        · exact hc x i hx (hy x hyx) hi1 hi2
      · exact hy))
theorem paR_Sb {left : Nat} {jn : Nat → Nat} {part : Nat} : Sb part (paR left jn part) := fun _ h => paR_bit h
theorem paF_fix {left : Nat} {jn : Nat → Nat} (hl : left < 256) (h0 : 0 < left) : paR left jn (paF left jn) = paF left jn :=
  fix_of (F := paR left jn) (fun x hx => paA_lt (Nat.le_refl 8) hx) (fun x => paR_Sb) (pow_lt8 (loF_spec hl h0).1) (popc_pow (loF_spec hl h0).1) (by decide)
theorem paI_ge {left : Nat} {jn : Nat → Nat} {a x : Nat} : x ≤ paI left jn a x 8 :=
  it_inv (f := fun b p => paS left jn a b p) (s := x) (fun _ q => x ≤ q) 8 (Nat.le_refl _) (fun j q _ hq => Nat.le_trans hq paS_ge)
theorem paF_closed {left : Nat} {jn : Nat → Nat} (hl : left < 256) (h0 : 0 < left) {a b : Nat} (ha : a < 8) (hb : b < 8) (h1 : left.testBit a = true) (h2 : left.testBit b = true) (h3 : ((jn a).testBit b || (jn b).testBit a) = true) (h4 : (paF left jn).testBit a = true) : (paF left jn).testBit b = true := by
  have g1 := it_fix (f := fun a p => paI left jn a p 8) (fun i x => paI_ge) (paF_fix (jn := jn) hl h0) a ha
  have g2 := it_fix (f := fun b p => paS left jn a b p) (fun i x => paS_ge) g1 b hb
  have g2 : paS left jn a b (paF left jn) = paF left jn := g2
  rw [← g2]
  unfold paS
  rw [if_pos (by rw [h1, h2, h3, h4]; rfl), Nat.testBit_or, Nat.testBit_or, pow_bit, pow_bit, decide_eq_true rfl, Bool.or_true, Bool.or_true]
theorem paF_self {left : Nat} {jn : Nat → Nat} : (paF left jn).testBit (loF left) = true := paJ_bit 256
theorem paF_min {left : Nat} {jn : Nat → Nat} {X : Nat} (hX : X.testBit (loF left) = true) (hc : ∀ a b, a < 8 → b < 8 → left.testBit a = true → left.testBit b = true → ((jn a).testBit b || (jn b).testBit a) = true → (X.testBit a = true ∨ X.testBit b = true) → X.testBit a = true ∧ X.testBit b = true) : Sb (paF left jn) X :=
  it_inv (f := fun _ p => paR left jn p) (s := 2 ^ loF left) (fun _ g => Sb g X) 256 (fun i hi => by rw [pow_bit, decide_eq_true_iff] at hi; rw [← hi]; exact hX) (fun _ g _ h =>
    it_inv (f := fun a p => paI left jn a p 8) (s := g) (fun _ y => Sb y X) 8 h (fun a y ha hy =>
      it_inv (f := fun b p => paS left jn a b p) (s := y) (fun _ y => Sb y X) 8 hy (fun b y hb hy => by
        unfold paS
        split
        · rename_i hh
          rw [Bool.and_eq_true, Bool.and_eq_true, Bool.and_eq_true, Bool.or_eq_true (y.testBit a)] at hh
          obtain ⟨h1, h2, h3, h4⟩ := hh
          obtain ⟨g1, g2⟩ := hc a b ha hb h1 h2 h3 (h4.elim (fun h => Or.inl (hy _ h)) (fun h => Or.inr (hy _ h)))
          intro i hi
          rw [Nat.testBit_or, Bool.or_eq_true, Nat.testBit_or, Bool.or_eq_true, pow_bit, pow_bit, decide_eq_true_iff, decide_eq_true_iff] at hi
          rcases hi with hi | hi | hi
          · exact hy i hi
          · rw [← hi]; exact g1
          · rw [← hi]; exact g2
        · exact hy)))
theorem paF_left {left : Nat} {jn : Nat → Nat} (hl : left < 256) (h0 : 0 < left) : Sb (paF left jn) left :=
  paF_min (loF_spec hl h0).2.1 (fun a b _ _ h1 h2 _ _ => ⟨h1, h2⟩)
/-- near and joined tell the same -/
def Nj (nr jn : Nat → Nat) : Prop := (∀ j, j < 8 → nr j < 256) ∧ ∀ y z, y < 8 → z < 8 → (nr y).testBit z = ((jn y).testBit z || (jn z).testBit y)
theorem Nj.sym {nr jn : Nat → Nat} (h : Nj nr jn) {y z : Nat} (hy : y < 8) (hz : z < 8) : (nr y).testBit z = (nr z).testBit y := by
  rw [h.2 y z hy hz, h.2 z y hz hy, Bool.or_comm]
/-- what is left is a union of groups -/
def Lc (nr : Nat → Nat) (set left : Nat) : Prop := Sb left set ∧ ∀ y z, y < 8 → left.testBit y = true → set.testBit z = true → (nr y).testBit z = true → left.testBit z = true
theorem paF_grp {nr jn : Nat → Nat} {set left : Nat} (hn : Nj nr jn) (hset : set < 256) (hl : left < 256) (h0 : 0 < left) (hc : Lc nr set left) : paF left jn = grp nr set (loF left) := by
  obtain ⟨l8, lb, -⟩ := loF_spec hl h0
  refine Sb.eq ?_ ?_
  · refine paF_min grp_self (fun a b ha hb h1 h2 h3 h4 => ?_)
    rw [← hn.2 a b ha hb] at h3
    rcases h4 with h4 | h4
    · exact ⟨h4, grp_closed hn.1 l8 ha h4 h3 (hc.1 b h2)⟩
    · exact ⟨grp_closed hn.1 l8 hb h4 (by rw [hn.sym hb ha]; exact h3) (hc.1 a h1), h4⟩
  · refine grp_min paF_self (fun y z hy h1 h2 h3 => ?_)
    have hz := bit8 hset h3
    have h4 := paF_left hl h0 y h1
    exact paF_closed hl h0 hy hz h4 (hc.2 y z hy h4 h3 h2) (by rw [← hn.2 y z hy hz]; exact h2) h1
theorem Lc.drop {nr jn : Nat → Nat} {set left a : Nat} (hn : Nj nr jn) (hset : set < 256) (ha : a < 8) (hc : Lc nr set left) : Lc nr set (andn left (grp nr set a)) := by
  refine ⟨fun i hi => ?_, fun y z hy h1 h2 h3 => ?_⟩
  · rw [andn_bit, Bool.and_eq_true] at hi
    exact hc.1 i hi.1
  · rw [andn_bit, Bool.and_eq_true, Bool.not_eq_true'] at h1 ⊢
    refine ⟨hc.2 y z hy h1.1 h2 h3, ?_⟩
    cases hq : (grp nr set a).testBit z
    · rfl
    · have hz := bit8 hset h2
      have := grp_closed (set := set) hn.1 ha hz hq (by rw [hn.sym hz hy]; exact h3) (hc.1 y h1.1)
      rw [h1.2] at this
      cases this
/-- the miner's groups are the model's parts -/
theorem grps_eq {nr jn : Nat → Nat} {set : Nat} {ps0 : List Nat} (hn : Nj nr jn) (hset : set < 256) (hlen : ps0.length + popc set ≤ 8) : grps nr set ps0 = paO jn 8 set ps0 := by
  have key : ∀ x, x ≤ 8 → (grpsI nr set ps0 x).1 < 256 ∧ Lc nr set (grpsI nr set ps0 x).1 ∧ (∀ j, j < x → (grpsI nr set ps0 x).1.testBit j = false) ∧ (grpsI nr set ps0 x).2.length + popc (grpsI nr set ps0 x).1 ≤ 8 ∧ ∃ f, popc (grpsI nr set ps0 x).1 ≤ f ∧ paO jn f (grpsI nr set ps0 x).1 (grpsI nr set ps0 x).2 = paO jn 8 set ps0 := by
    intro x
    induction x with
    | zero => exact fun _ => ⟨hset, ⟨Sb.rf, fun y z _ _ h _ => h⟩, fun j hj => absurd hj (Nat.not_lt_zero j), hlen, 8, popc_le8 hset, rfl⟩
    | succ x ih =>
      intro hx
      obtain ⟨i1, i2, i3, i4, f, i5, i6⟩ := ih (by omega)
      have e : grpsI nr set ps0 (x + 1) = grpsStep nr set x (grpsI nr set ps0 x) := rfl
      rw [e]
      generalize grpsI nr set ps0 x = s at i1 i2 i3 i4 i5 i6
      unfold grpsStep
      by_cases hb : s.1.testBit x = true
      · rw [if_pos hb]
        have h0 : 0 < s.1 := by
          rcases Nat.eq_zero_or_pos s.1 with q | q
          · rw [q, Nat.zero_testBit] at hb; cases hb
          · exact q
        have hlo : loF s.1 = x := by
          obtain ⟨-, g2, g3⟩ := loF_spec i1 h0
          rcases Nat.lt_trichotomy (loF s.1) x with q | q | q
          · rw [i3 _ q] at g2; cases g2
          · exact q
          · rw [g3 x q] at hb; cases hb
        have hg := paF_grp hn hset i1 h0 i2
        rw [hlo] at hg
        have hp1 : 1 ≤ popc s.1 := popc_pos (by omega) (by omega)
        obtain ⟨f', rfl⟩ : ∃ f', f = f' + 1 := ⟨f - 1, by omega⟩
        rw [paO, if_neg (by omega), hg] at i6
        have hd := popc_drop (a := s.1) (b := grp nr set x) (i := x) (by omega) hb grp_self
        have ha : addP s.2 (grp nr set x) = s.2 ++ [grp nr set x] := by unfold addP; rw [if_pos (by omega)]
        rw [ha]
        refine ⟨andn_lt8 i1, Lc.drop hn hset (by omega) i2, fun j hj => ?_, by dsimp only; rw [List.length_append, List.length_singleton]; omega, f', by dsimp only; omega, i6⟩
        dsimp only
        rw [andn_bit]
        by_cases ej : j = x
        · rw [ej, grp_self, Bool.not_true, Bool.and_false]
        · rw [i3 j (by omega), Bool.false_and]
      · rw [if_neg hb]
        refine ⟨i1, i2, fun j hj => ?_, i4, f, i5, i6⟩
        by_cases ej : j = x
        · rw [ej]; exact eq_false_of_ne_true hb
        · exact i3 j (by omega)
  obtain ⟨k1, -, k3, -, f, -, k6⟩ := key 8 (Nat.le_refl 8)
  have hz : (grpsI nr set ps0 8).1 = 0 := by
    apply Nat.eq_of_testBit_eq
    intro i
    rw [Nat.zero_testBit]
    rcases Nat.lt_or_ge i 8 with q | q
    · exact k3 i q
    · exact bit_lt (k := 8) k1 q
  rw [hz, paO_0] at k6
  exact k6
theorem paO_app {jn : Nat → Nat} {ps0 : List Nat} : ∀ (f left : Nat) (ps : List Nat), paO jn f left (ps0 ++ ps) = ps0 ++ paO jn f left ps
  | 0, _, _ => rfl
  | f + 1, left, ps => by
    rw [paO, paO]
    split
    · rfl
    · rw [List.append_assoc]
      exact paO_app f _ _
/-- the parts of a set, as a division of it -/
def Prt (nr : Nat → Nat) (set : Nat) (ps : List Nat) : Prop := (∀ i, i < ps.length → 0 < gd ps i ∧ Sb (gd ps i) set) ∧ (∀ i j, i < ps.length → j < ps.length → i ≠ j → ∀ y, (gd ps i).testBit y = true → (gd ps j).testBit y = false) ∧ (∀ y, set.testBit y = true → ∃ i, i < ps.length ∧ (gd ps i).testBit y = true) ∧ ∀ i, i < ps.length → ∀ y z, y < 8 → (gd ps i).testBit y = true → set.testBit z = true → (nr y).testBit z = true → (gd ps i).testBit z = true
theorem paL_prt {nr jn : Nat → Nat} {set : Nat} (hn : Nj nr jn) (hset : set < 256) : Prt nr set (paL set jn) := by
  have key : ∀ (f left : Nat) (ps : List Nat), left < 256 → popc left ≤ f → Lc nr set left → ((∀ i, i < ps.length → 0 < gd ps i ∧ Sb (gd ps i) set) ∧ (∀ i j, i < ps.length → j < ps.length → i ≠ j → ∀ y, (gd ps i).testBit y = true → (gd ps j).testBit y = false) ∧ (∀ i, i < ps.length → ∀ y, (gd ps i).testBit y = true → left.testBit y = false) ∧ (∀ y, set.testBit y = true → left.testBit y = true ∨ ∃ i, i < ps.length ∧ (gd ps i).testBit y = true) ∧ ∀ i, i < ps.length → ∀ y z, y < 8 → (gd ps i).testBit y = true → set.testBit z = true → (nr y).testBit z = true → (gd ps i).testBit z = true) → Prt nr set (paO jn f left ps) := by
    intro f
    induction f with
    | zero =>
      intro left ps hl hf hc ⟨h1, h2, h3, h4, h5⟩
      have h0 : left = 0 := by
        rcases Nat.eq_zero_or_pos left with q | q
        · exact q
        · have := popc_pos (m := left) (by omega) (by omega); omega
      refine ⟨h1, h2, fun y hy => ?_, h5⟩
      rcases h4 y hy with q | q
      · rw [h0, Nat.zero_testBit] at q; cases q
      · exact q
    | succ f ih =>
      intro left ps hl hf hc ⟨h1, h2, h3, h4, h5⟩
      rw [paO]
      split
      · rename_i h0
        refine ⟨h1, h2, fun y hy => ?_, h5⟩
        rcases h4 y hy with q | q
        · rw [h0, Nat.zero_testBit] at q; cases q
        · exact q
      · rename_i h0
        have hpos : 0 < left := by omega
        obtain ⟨l8, lb, -⟩ := loF_spec hl hpos
        have hg := paF_grp hn hset hl hpos hc
        have hsub := paF_left (jn := jn) hl hpos
        rw [hg] at hsub ⊢
        have hself := grp_self (nr := nr) (set := set) (a := loF left)
        have hgp : 0 < grp nr set (loF left) := by
          rcases Nat.eq_zero_or_pos (grp nr set (loF left)) with q | q
          · rw [q, Nat.zero_testBit] at hself; cases hself
          · exact q
        have hdr := popc_drop (a := left) (b := grp nr set (loF left)) (i := loF left) (by omega) lb hself
        refine ih _ _ (andn_lt8 hl) (by omega) (Lc.drop hn hset l8 hc) ⟨fun i hi => ?_, fun i j hi hj hij y hy => ?_, fun i hi y hy => ?_, fun y hy => ?_, fun i hi y z hy hyi hz hyz => ?_⟩
        · rw [List.length_append, List.length_singleton] at hi
          rw [gd_snoc]
          split
          · exact ⟨hgp, hsub.tr hc.1⟩
          · exact h1 i (by omega)
        · rw [List.length_append, List.length_singleton] at hi hj
          rw [gd_snoc] at hy ⊢
          by_cases ei : i = ps.length
          · rw [if_pos ei] at hy
            rw [if_neg (by omega)]
            cases hq : (gd ps j).testBit y
            · rfl
            · have := h3 j (by omega) y hq
              rw [hsub y hy] at this
              cases this
          · rw [if_neg ei] at hy
            by_cases ej : j = ps.length
            · rw [if_pos ej]
              cases hq : (grp nr set (loF left)).testBit y
              · rfl
              · have := h3 i (by omega) y hy
                rw [hsub y hq] at this
                cases this
            · rw [if_neg ej]
              exact h2 i j (by omega) (by omega) hij y hy
        · rw [List.length_append, List.length_singleton] at hi
          rw [gd_snoc] at hy
          rw [andn_bit]
          by_cases ei : i = ps.length
          · rw [if_pos ei] at hy
            rw [hy, Bool.not_true, Bool.and_false]
          · rw [if_neg ei] at hy
            rw [h3 i (by omega) y hy, Bool.false_and]
        · rw [List.length_append, List.length_singleton]
          rcases h4 y hy with q | ⟨i, hi, q⟩
          · cases hq : (grp nr set (loF left)).testBit y
            · exact Or.inl (by rw [andn_bit, q, hq]; rfl)
            · exact Or.inr ⟨ps.length, by omega, by rw [gd_snoc, if_pos rfl]; exact hq⟩
          · exact Or.inr ⟨i, by omega, by rw [gd_snoc, if_neg (by omega)]; exact q⟩
        · rw [List.length_append, List.length_singleton] at hi
          rw [gd_snoc] at hyi ⊢
          by_cases ei : i = ps.length
          · rw [if_pos ei] at hyi ⊢
            exact grp_closed hn.1 l8 hy hyi hyz hz
          · rw [if_neg ei] at hyi ⊢
            exact h5 i (by omega) y z hy hyi hz hyz
  have nil : ∀ i : Nat, ¬ i < ([] : List Nat).length := fun i hi => absurd hi (Nat.not_lt_zero i)
  exact key 8 set [] hset (popc_le8 hset) ⟨Sb.rf, fun y z _ _ h _ => h⟩ ⟨fun i hi => absurd hi (nil i), fun i j hi => absurd hi (nil i), fun i hi => absurd hi (nil i), fun y hy => Or.inl hy, fun i hi => absurd hi (nil i)⟩
/-! the three nearnesses -/
theorem fold_bit {c : Nat → Bool} {i : Nat} : ∀ k, k ≤ 8 → ((it (fun b v => if c b = true then v ||| 2 ^ b else v) 0 k).testBit i = true ↔ i < k ∧ c i = true)
  | 0, _ => ⟨fun h => by (rw [show it (fun b v => if c b = true then v ||| 2 ^ b else v) 0 0 = 0 from rfl, Nat.zero_testBit] at h; cases h), fun h => absurd h.1 (Nat.not_lt_zero i)⟩
  | k + 1, hk => by
    have ih := fold_bit (c := c) (i := i) k (by omega)
    rw [it_s]
    by_cases h : c k = true
    · rw [if_pos h, Nat.testBit_or, Bool.or_eq_true, ih, pow_bit, decide_eq_true_iff]
      constructor
      · rintro (⟨h1, h2⟩ | h1)
        · exact ⟨by omega, h2⟩
        · exact ⟨by omega, h1 ▸ h⟩
      · rintro ⟨h1, h2⟩
        by_cases e : i = k
        · exact Or.inr e.symm
        · exact Or.inl ⟨by omega, h2⟩
    · rw [if_neg h, ih]
      constructor
      · rintro ⟨h1, h2⟩
        exact ⟨by omega, h2⟩
      · rintro ⟨h1, h2⟩
        by_cases e : i = k
        · subst e; exact absurd h2 h
        · exact ⟨by omega, h2⟩
theorem bool_iff {x y : Bool} (h : x = true ↔ y = true) : x = y := by
  cases x <;> cases y <;> simp_all
theorem linkV_bit {nx : Nat → Nat} {a i : Nat} : ∀ k, (it (fun b v => if (nx b).testBit a then v ||| 2 ^ b else v) (nx a) k).testBit i = true ↔ (nx a).testBit i = true ∨ (i < k ∧ (nx i).testBit a = true)
  | 0 => ⟨fun h => Or.inl h, fun h => h.elim id (fun h => absurd h.1 (Nat.not_lt_zero i))⟩
  | k + 1 => by
    have ih := linkV_bit (nx := nx) (a := a) (i := i) k
    rw [it_s]
    by_cases h : (nx k).testBit a = true
    · rw [if_pos h, Nat.testBit_or, Bool.or_eq_true, ih, pow_bit, decide_eq_true_iff]
      constructor
      · rintro ((h1 | ⟨h1, h2⟩) | h1)
        · exact Or.inl h1
        · exact Or.inr ⟨by omega, h2⟩
        · exact Or.inr ⟨by omega, h1 ▸ h⟩
      · rintro (h1 | ⟨h1, h2⟩)
        · exact Or.inl (Or.inl h1)
        · by_cases e : i = k
          · exact Or.inr e.symm
          · exact Or.inl (Or.inr ⟨by omega, h2⟩)
    · rw [if_neg h, ih]
      constructor
      · rintro (h1 | ⟨h1, h2⟩)
        · exact Or.inl h1
        · exact Or.inr ⟨by omega, h2⟩
      · rintro (h1 | ⟨h1, h2⟩)
        · exact Or.inl h1
        · by_cases e : i = k
          · subst e; exact absurd h2 h
          · exact Or.inr ⟨by omega, h2⟩
theorem nj_link {nx : Nat → Nat} (hb : ∀ j, j < 8 → nx j < 256) : Nj (linkV nx) nx := by
  refine ⟨fun j hj => linkV_lt hb hj, fun y z hy hz => bool_iff ?_⟩
  unfold linkV
  rw [linkV_bit, Bool.or_eq_true]
  exact ⟨fun h => h.elim Or.inl (fun h => Or.inr h.2), fun h => h.elim Or.inl (fun h => Or.inr ⟨hz, h⟩)⟩
theorem nearO_bit {rc : Nat → Nat} {a i : Nat} : (nearO rc a).testBit i = true ↔ i < 8 ∧ (rc a).testBit i = (rc i).testBit a := by
  have : nearO rc a = it (fun b v => if decide ((rc a).testBit b = (rc b).testBit a) = true then v ||| 2 ^ b else v) 0 8 := by
    unfold nearO
    exact it_cong 8 (fun b v _ => by simp only [decide_eq_true_eq])
  rw [this, fold_bit 8 (Nat.le_refl 8), decide_eq_true_iff]
theorem nearB_bit {nx : Nat → Nat} {a i : Nat} : (nearB nx a).testBit i = true ↔ i < 8 ∧ ¬ ((nx a).testBit i = true ∧ (nx i).testBit a = true) := by
  have : nearB nx a = it (fun b v => if decide (¬ ((nx a).testBit b = true ∧ (nx b).testBit a = true)) = true then v ||| 2 ^ b else v) 0 8 := by
    unfold nearB
    refine it_cong 8 (fun b v _ => ?_)
    by_cases h : (nx a).testBit b = true ∧ (nx b).testBit a = true
    · rw [if_pos h, if_neg (by rw [decide_eq_true_iff]; exact fun q => q h)]
    · rw [if_neg h, if_pos (decide_eq_true h)]
  rw [this, fold_bit 8 (Nat.le_refl 8), decide_eq_true_iff]
theorem nj_of {nr : Nat → Nat} (hb : ∀ j, j < 8 → nr j < 256) (hs : ∀ y z, y < 8 → z < 8 → (nr y).testBit z = true → (nr z).testBit y = true) : Nj nr (fillN nr (fun _ => 0) 8) := by
  refine ⟨hb, fun y z hy hz => ?_⟩
  rw [fillN_in hy, fillN_in hz]
  cases h : (nr y).testBit z
  · cases h2 : (nr z).testBit y
    · rfl
    · rw [hs z y hz hy h2] at h; cases h
  · rfl
theorem nj_order {rc : Nat → Nat} : Nj (nearO rc) (fillN (nearO rc) (fun _ => 0) 8) := nj_of (fun _ _ => nearO_lt8) (fun y z hy hz h => by
  rw [nearO_bit] at h ⊢
  exact ⟨hy, h.2.symm⟩)
theorem nj_both {nx : Nat → Nat} : Nj (nearB nx) (fillN (nearB nx) (fun _ => 0) 8) := nj_of (fun _ _ => nearB_lt8) (fun y z hy hz h => by
  rw [nearB_bit] at h ⊢
  exact ⟨hy, fun q => h.2 ⟨q.2, q.1⟩⟩)
end CQ2
