section EQS2
/-! what leads into what -/
/-- a set that holds what its labels lead into at once -/
def Cls (c : Nat → Nat → Nat) (s : Nat) : Prop := ∀ k l, k < 8 → l < 8 → s.testBit k = true → 0 < c k l → s.testBit l = true
theorem or_bit {s l i : Nat} : (s ||| 2 ^ l).testBit i = true ↔ s.testBit i = true ∨ l = i := by
  rw [Nat.testBit_or, Bool.or_eq_true, pow_bit, decide_eq_true_iff]
theorem ld1_bit {c : Nat → Nat → Nat} {u i : Nat} : ∀ k, ((ld1 c u k).testBit i = true ↔ i < k ∧ 0 < c u i)
  | 0 => ⟨fun h => (by rw [show ld1 c u 0 = 0 from rfl, Nat.zero_testBit] at h; cases h), fun h => absurd h.1 (Nat.not_lt_zero i)⟩
  | k + 1 => by
    have e : ld1 c u (k + 1) = if 0 < c u k then ld1 c u k ||| 2 ^ k else ld1 c u k := rfl
    have ih := ld1_bit (c := c) (u := u) (i := i) k
    rw [e]
    by_cases h : 0 < c u k
    · rw [if_pos h, or_bit, ih]
      constructor
      · rintro (g | g)
        · exact ⟨by omega, g.2⟩
        · subst g; exact ⟨by omega, h⟩
      · rintro ⟨g1, g2⟩
        by_cases ek : i = k
        · exact Or.inr ek.symm
        · exact Or.inl ⟨by omega, g2⟩
    · rw [if_neg h, ih]
      constructor
      · rintro ⟨g1, g2⟩; exact ⟨by omega, g2⟩
      · rintro ⟨g1, g2⟩
        by_cases ek : i = k
        · subst ek; exact absurd g2 h
        · exact ⟨by omega, g2⟩
theorem ld2_up {c : Nat → Nat → Nat} {s k : Nat} : ∀ m, Sb s (ld2 c s k m) ∧ (s.testBit k = true → ∀ l, l < m → 0 < c k l → (ld2 c s k m).testBit l = true) ∧ ∀ X : Nat → Prop, (∀ y, s.testBit y = true → X y) → (∀ l, l < m → X k → 0 < c k l → X l) → ∀ y, (ld2 c s k m).testBit y = true → X y
  | 0 => ⟨Sb.rf, fun _ l h => absurd h (Nat.not_lt_zero l), fun X h _ => h⟩
  | m + 1 => by
    have e : ld2 c s k (m + 1) = if (ld2 c s k m).testBit k then (if 0 < c k m then ld2 c s k m ||| 2 ^ m else ld2 c s k m) else ld2 c s k m := rfl
    obtain ⟨i1, i2, i3⟩ := ld2_up (c := c) (s := s) (k := k) m
    rw [e]
    refine ⟨fun y hy => ?_, fun hk l hl hc => ?_, fun X h0 hX y hy => ?_⟩
    · split
      · split
        · exact or_bit.mpr (Or.inl (i1 y hy))
        · exact i1 y hy
      · exact i1 y hy
    · rw [if_pos (i1 k hk)]
      by_cases el : l = m
      · subst el
        rw [if_pos hc]
        exact or_bit.mpr (Or.inr rfl)
      · split
        · exact or_bit.mpr (Or.inl (i2 hk l (by omega) hc))
        · exact i2 hk l (by omega) hc
    · have i3 := i3 X h0 (fun l hl => hX l (by omega))
      split at hy
      · rename_i hk
        split at hy
        · rename_i hc
          rcases or_bit.mp hy with g | g
          · exact i3 y g
          · rw [← g]; exact hX m (by omega) (i3 k hk) hc
        · exact i3 y hy
      · exact i3 y hy
theorem ld3_up {c : Nat → Nat → Nat} {s : Nat} : ∀ m, m ≤ 8 → Sb s (ld3 c s m) ∧ (∀ k l, k < m → l < 8 → s.testBit k = true → 0 < c k l → (ld3 c s m).testBit l = true) ∧ ∀ X : Nat → Prop, (∀ y, s.testBit y = true → X y) → (∀ k l, k < 8 → l < 8 → X k → 0 < c k l → X l) → ∀ y, (ld3 c s m).testBit y = true → X y
  | 0, _ => ⟨Sb.rf, fun k _ h => absurd h (Nat.not_lt_zero k), fun X h _ => h⟩
  | m + 1, hm => by
    have e : ld3 c s (m + 1) = ld2 c (ld3 c s m) m 8 := rfl
    obtain ⟨i1, i2, i3⟩ := ld3_up (c := c) (s := s) m (by omega)
    obtain ⟨j1, j2, j3⟩ := ld2_up (c := c) (s := ld3 c s m) (k := m) 8
    rw [e]
    refine ⟨fun y hy => j1 y (i1 y hy), fun k l hk hl hs hc => ?_, fun X h0 hX y hy => ?_⟩
    · by_cases ek : k = m
      · subst ek
        exact j2 (i1 k hs) l hl hc
      · exact j1 l (i2 k l (by omega) hl hs hc)
    · exact j3 X (i3 X h0 hX) (fun l hl hk hc => hX m l (by omega) hl hk hc) y hy
theorem ld4_up {c : Nat → Nat → Nat} {s : Nat} : ∀ m, Sb s (ld4 c s m) ∧ ∀ X : Nat → Prop, (∀ y, s.testBit y = true → X y) → (∀ k l, k < 8 → l < 8 → X k → 0 < c k l → X l) → ∀ y, (ld4 c s m).testBit y = true → X y
  | 0 => ⟨Sb.rf, fun X h _ => h⟩
  | m + 1 => by
    have e : ld4 c s (m + 1) = ld3 c (ld4 c s m) 8 := rfl
    obtain ⟨i1, i3⟩ := ld4_up (c := c) (s := s) m
    obtain ⟨j1, j2, j3⟩ := ld3_up (c := c) (s := ld4 c s m) 8 (Nat.le_refl _)
    rw [e]
    exact ⟨fun y hy => j1 y (i1 y hy), fun X h0 hX y hy => j3 X (i3 X h0 hX) hX y hy⟩
theorem sb_lt8 {x : Nat} (h : ∀ y, x.testBit y = true → y < 8) : x < 256 := lt_of_bits (k := 8) (fun i hi => by
  cases q : x.testBit i
  · rfl
  · have := h i q; omega)
/-- after eight rounds nothing new comes -/
theorem ld4_cls {c : Nat → Nat → Nat} {s : Nat} (hs : s < 256) : Cls c (ld4 c s 8) := by
  have hlt : ∀ m, ld4 c s m < 256 := fun m => sb_lt8 ((ld4_up m).2 (fun y => y < 8) (fun y hy => bit8 hs hy) (fun k l _ hl _ _ => hl))
  have key : ∀ m, Cls c (ld4 c s m) ∨ m ≤ popc (ld4 c s m) := by
    intro m
    induction m with
    | zero => exact Or.inr (Nat.zero_le _)
    | succ m ih =>
      have e : ld4 c s (m + 1) = ld3 c (ld4 c s m) 8 := rfl
      obtain ⟨j1, j2, j3⟩ := ld3_up (c := c) (s := ld4 c s m) 8 (Nat.le_refl _)
      by_cases he : ld4 c s m = ld4 c s (m + 1)
      · left
        rw [e] at he
        have hc : Cls c (ld4 c s m) := fun k l hk hl h1 h2 => by
          have := j2 k l hk hl h1 h2
          rw [← he] at this
          exact this
        rw [e, ← he]
        exact hc
      · rcases ih with ih | ih
        · exfalso
          refine he (bits_eq (fun y => ⟨fun h => ?_, fun h => ?_⟩))
          · rw [e]; exact j1 y h
          · rw [e] at h
            exact j3 (fun y => (ld4 c s m).testBit y = true) (fun y h => h) (fun k l hk hl h1 h2 => ih k l hk hl h1 h2) y h
        · right
          have := popc_lt (x := ld4 c s m) (y := ld4 c s (m + 1)) (by rw [e]; exact j1) he (by have := hlt (m + 1); omega)
          omega
  rcases key 8 with h | h
  · exact h
  · intro k l hk hl _ _
    cases q : (ld4 c s 8).testBit l
    · exfalso
      have h9 : ld4 c s 8 ||| 2 ^ l < 256 := sb_lt8 (fun y hy => by
        rcases or_bit.mp hy with g | g
        · exact bit8 (hlt 8) g
        · omega)
      have := popc_lt (x := ld4 c s 8) (y := ld4 c s 8 ||| 2 ^ l) (fun y hy => or_bit.mpr (Or.inl hy)) (fun e => by
        have : (ld4 c s 8 ||| 2 ^ l).testBit l = true := or_bit.mpr (Or.inr rfl)
        rw [← e, q] at this
        cases this) (by omega)
      have := popc_le8 h9
      omega
    · rfl
theorem leads_eq {A : Nat → Nat → Nat} {S : Nat → Nat} {u v : Nat} (hb : ∀ j, j < 8 → moF (lgOf A S) j < 256) (hu : u < 8) (hv : v < 8) : (rall (mL (lgOf A S)).2.2.2.2 u).testBit v = (ld4 (fun k l => coF (A 4) (A 3) (A 2) k l (S 5)) (ld1 (fun k l => coF (A 4) (A 3) (A 2) k l (S 5)) u 8) 8).testBit v := by
  rw [(mL_eq (lgOf A S)).2.2.2.2]
  generalize hc : (fun k l => coF (A 4) (A 3) (A 2) k l (S 5)) = c
  have hcv : ∀ k l, (moF (lgOf A S) k).testBit l = true ↔ 0 < c k l := fun k l => by rw [← hc]; exact mo_bit
  generalize moF (lgOf A S) = f at hcv hb
  have h1 : ld1 c u 8 < 256 := sb_lt8 (fun y hy => ((ld1_bit 8).mp hy).1)
  have hcl := ld4_cls (c := c) h1
  obtain ⟨g1, g2⟩ := ld4_up (c := c) (s := ld1 c u 8) 8
  rw [Bool.eq_iff_iff]
  constructor
  · intro h
    refine rall_min (X := fun a b => ∀ s, Cls c s → (∀ l, l < 8 → 0 < c a l → s.testBit l = true) → s.testBit b = true) ?_ ?_ hu h _ hcl (fun l hl hc => g1 l ((ld1_bit 8).mpr ⟨hl, hc⟩))
    · intro a b ha hab s _ h0
      exact h0 b (bit8 (hb a ha) hab) ((hcv a b).mp hab)
    · intro a b d ha hb h1 h2 s hs h0
      exact h2 s hs (fun l hl hc => hs b l hb hl (h1 s hs h0) hc)
  · intro h
    exact g2 (fun y => (rall f u).testBit y = true) (fun y hy => rall_sub hu ((hcv u y).mpr ((ld1_bit 8).mp hy).2)) (fun k l hk hl h1 h2 => rall_tr hu hk h1 (rall_sub hk ((hcv k l).mpr h2))) v h
/-! the least lengths -/
theorem leC_cong {nd : List Nd} {f g : Nat → Nat} {i : Nat} (h : ∀ c, c < (chl nd i).length → f (gd (chl nd i) c) = g (gd (chl nd i) c)) (h1 : 1 ≤ (chl nd i).length) : leC nd f i ((chl nd i).length - 1) = leC nd g i ((chl nd i).length - 1) := by
  unfold leC
  rw [h 0 (by omega)]
  exact it_cong _ (fun j v hj => by rw [h (1 + j) (by omega)])
theorem sumC_cong {nd : List Nd} {f g : Nat → Nat} {i : Nat} (h : ∀ c, c < (chl nd i).length → f (gd (chl nd i) c) = g (gd (chl nd i) c)) : sumC nd f i (chl nd i).length = sumC nd g i (chl nd i).length :=
  it_cong _ (fun j v hj => by rw [h j hj])
theorem lbC_cong {nd : List Nd} {f g : Nat → Nat} {i : Nat} (hch : (ndK nd i = 2 ∨ ndK nd i = 5) → 1 ≤ (chl nd i).length) (h : ∀ c, c < (chl nd i).length → f (gd (chl nd i) c) = g (gd (chl nd i) c)) : lbC nd f i = lbC nd g i := by
  unfold lbC
  rw [sumC_cong h]
  by_cases h2 : ndK nd i = 2
  · rw [leC_cong h (hch (Or.inl h2)), if_neg (by omega), if_pos h2, if_neg (by omega), if_pos h2]
  · rw [if_neg h2, if_neg h2]
    by_cases h5 : ndK nd i = 5
    · rw [h 0 (hch (Or.inr h5))]
    · rw [if_neg h5, if_neg h5]
theorem lsF_stay {nd : List Nd} {f : Nat → Nat} {i k : Nat} (hi : nd.length - k ≤ i) : ∀ d, k + d ≤ nd.length → i < nd.length → lsF nd f (k + d) i = lsF nd f k i
  | 0, _, _ => rfl
  | d + 1, h, hn => by
    have e : lsF nd f (k + (d + 1)) = upN (lsF nd f (k + d)) (nd.length - 1 - (k + d)) (lbC nd (lsF nd f (k + d)) (nd.length - 1 - (k + d))) := rfl
    rw [e, ← lsF_stay hi d (by omega) hn]
    unfold upN
    rw [if_neg (by omega)]
theorem lsF_full {nd : List Nd} {f : Nat → Nat} {i : Nat} (hi : i < nd.length) : lsF nd f nd.length i = lsF nd f (nd.length - i) i := by
  have := lsF_stay (nd := nd) (f := f) (i := i) (k := nd.length - i) (by omega) i (by omega) hi
  rw [show nd.length - i + i = nd.length by omega] at this
  exact this
theorem lsF_fix {nd : List Nd} {f : Nat → Nat} (hp : ∀ i, i < nd.length → ndP nd i < (i : Int)) (hch : ChOk nd) {i : Nat} (hi : i < nd.length) : lsF nd f nd.length i = lbC nd (lsF nd f nd.length) i := by
  rw [lsF_full hi]
  have e : lsF nd f (nd.length - i) = upN (lsF nd f (nd.length - i - 1)) (nd.length - 1 - (nd.length - i - 1)) (lbC nd (lsF nd f (nd.length - i - 1)) (nd.length - 1 - (nd.length - i - 1))) := by
    have : nd.length - i = nd.length - i - 1 + 1 := by omega
    rw [this]
    rfl
  rw [e, show nd.length - 1 - (nd.length - i - 1) = i by omega]
  show (if i = i then _ else _) = _
  rw [if_pos rfl]
  refine lbC_cong (hch i hi) (fun c hc => ?_)
  obtain ⟨g1, g2⟩ := chl_in hc
  have g3 := hp _ g1
  rw [g2] at g3
  have := lsF_stay (nd := nd) (f := f) (i := gd (chl nd i) c) (k := nd.length - i - 1) (by omega) (i + 1) (by omega) g1
  rw [show nd.length - i - 1 + (i + 1) = nd.length by omega] at this
  exact this.symm
theorem lb_uniq {nd : List Nd} {f g : Nat → Nat} (hp : ∀ i, i < nd.length → ndP nd i < (i : Int)) (hch : ChOk nd) (hf : ∀ i, i < nd.length → f i = lbC nd f i) (hg : ∀ i, i < nd.length → g i = lbC nd g i) : ∀ d i, nd.length - i = d → i < nd.length → f i = g i := by
  intro d
  induction d using Nat.strongRecOn with
  | ind d ih =>
    intro i hd hi
    rw [hf i hi, hg i hi]
    refine lbC_cong (hch i hi) (fun c hc => ?_)
    obtain ⟨g1, g2⟩ := chl_in hc
    have g3 := hp _ g1
    rw [g2] at g3
    exact ih (nd.length - gd (chl nd i) c) (by omega) _ rfl g1
def lsG (nd : List Nd) : Nat → Nat := lsF nd (fun _ => 0) nd.length
theorem ls_any {nd : List Nd} {f : Nat → Nat} (hp : ∀ i, i < nd.length → ndP nd i < (i : Int)) (hch : ChOk nd) {i : Nat} (hi : i < nd.length) : lsF nd f (nd.length - i) i = lsG nd i := by
  rw [← lsF_full hi]
  exact lb_uniq hp hch (fun i hi => lsF_fix hp hch hi) (fun i hi => lsF_fix hp hch hi) _ i rfl hi
theorem sm_get {t : Nat → Nat} {i : Nat} : ∀ {n : Nat}, i < n → t i ≤ sm t n
  | 0, h => absurd h (Nat.not_lt_zero i)
  | n + 1, h => by
    show t i ≤ sm t n + t n
    by_cases e : i = n
    · subst e; omega
    · have := sm_get (t := t) (i := i) (n := n) (by omega)
      omega
theorem ls_le {nd : List Nd} (hp : ∀ i, i < nd.length → ndP nd i < (i : Int)) (hch : ChOk nd) {i : Nat} (hi : i < nd.length) : lsG nd i ≤ nd.length := by
  rw [← ls_any (f := fun _ => 0) hp hch hi]
  have h := lsF_rt (f := fun _ => 0) hp hch (nd.length - i) (by omega)
  rw [show nd.length - (nd.length - i) = i by omega] at h
  have := sm_get (t := fun j => if i ≤ j ∧ ndP nd j < (i : Int) then lsF nd (fun _ => 0) (nd.length - i) j else 0) hi
  rw [if_pos ⟨Nat.le_refl i, hp i hi⟩] at this
  unfold rtS at h
  omega
/-! the levels -/
theorem mxL_cong {f g : Nat → Nat} {k : Nat} (h : ∀ j, j < k → f j = g j) : mxL f k = mxL g k := it_cong k (fun i v hi => by rw [h i hi])
theorem lv_ok {nd : List Nd} {f : Nat → Nat} (hp : ∀ i, i < nd.length → ndP nd i < (i : Int)) : (∀ j, j < nd.length → (lvT nd f nd.length).1 j = lvV nd (lvT nd f nd.length).1 j) ∧ (lvT nd f nd.length).2 = mxL (lvT nd f nd.length).1 nd.length :=
  it_inv (fun k (x : (Nat → Nat) × Nat) => (∀ j, j < k → x.1 j = lvV nd x.1 j) ∧ x.2 = mxL x.1 k) nd.length ⟨fun j hj => absurd hj (Nat.not_lt_zero j), rfl⟩ (fun i x hi hx => by
    obtain ⟨h1, h2⟩ := hx
    have same : ∀ j v, j ≤ i → lvV nd (upN x.1 i v) j = lvV nd x.1 j := fun j v hj => by
      have := hp j (by omega)
      unfold lvV
      by_cases hn : ndP nd j < 0
      · rw [if_pos hn, if_pos hn]
      · rw [if_neg hn, if_neg hn]
        unfold upN
        rw [if_neg (by omega)]
    refine ⟨fun j hj => ?_, ?_⟩
    · show upN x.1 i (lvV nd x.1 i) j = lvV nd (upN x.1 i (lvV nd x.1 i)) j
      rw [same j _ (by omega)]
      unfold upN
      by_cases e : j = i
      · rw [if_pos e, e]
      · rw [if_neg e]; exact h1 j (by omega)
    · show max x.2 (lvV nd x.1 i) = max (mxL (upN x.1 i (lvV nd x.1 i)) i) (upN x.1 i (lvV nd x.1 i) i)
      rw [mxL_cong (f := upN x.1 i (lvV nd x.1 i)) (g := x.1) (fun j hj => by unfold upN; rw [if_neg (by omega)]), h2]
      unfold upN
      rw [if_pos rfl])
theorem lv_uniq {nd : List Nd} {f g : Nat → Nat} (hp : ∀ i, i < nd.length → ndP nd i < (i : Int)) (hf : ∀ i, i < nd.length → f i = lvV nd f i) (hg : ∀ i, i < nd.length → g i = lvV nd g i) : ∀ i, i < nd.length → f i = g i := by
  intro i
  induction i using Nat.strongRecOn with
  | ind i ih =>
    intro hi
    rw [hf i hi, hg i hi]
    have := hp i hi
    unfold lvV
    by_cases hn : ndP nd i < 0
    · rw [if_pos hn, if_pos hn]
    · rw [if_neg hn, if_neg hn, ih (ndP nd i).toNat (by omega) (by omega)]
def lvG (nd : List Nd) : Nat → Nat := (lvT nd (fun _ => 0) nd.length).1
theorem lv_any {nd : List Nd} {f : Nat → Nat} (hp : ∀ i, i < nd.length → ndP nd i < (i : Int)) : (lvT nd f nd.length).2 = mxL (lvG nd) nd.length := by
  rw [(lv_ok hp).2]
  exact mxL_cong (lv_uniq hp (lv_ok hp).1 (lv_ok hp).1)
theorem lvG_eq {nd : List Nd} (hp : ∀ i, i < nd.length → ndP nd i < (i : Int)) (i : Nat) (hi : i < nd.length) : lvG nd i = if ndP nd i < 0 then 1 else lvG nd (ndP nd i).toNat + 1 := (lv_ok hp).1 i hi
theorem lvG_le {nd : List Nd} (hp : ∀ i, i < nd.length → ndP nd i < (i : Int)) (i : Nat) (hi : i < nd.length) : lvG nd i ≤ nd.length := by
  have := (lvT_ok (f := fun _ => 0) hp (Nat.le_refl nd.length)).1 i hi
  show (lvT nd (fun _ => 0) nd.length).1 i ≤ _
  omega
end EQS2
