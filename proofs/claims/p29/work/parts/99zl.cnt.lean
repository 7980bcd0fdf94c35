section PCNT
theorem sm_s {f : Nat → Nat} {n : Nat} : sm f (n + 1) = sm f n + f n := rfl
theorem sm_cong {f h : Nat → Nat} : ∀ n, (∀ i, i < n → f i = h i) → sm f n = sm h n
  | 0, _ => rfl
  | n + 1, q => by rw [sm_s, sm_s, sm_cong n (fun i hi => q i (by omega)), q n (by omega)]
theorem sm_add {f h : Nat → Nat} : ∀ n, sm (fun i => f i + h i) n = sm f n + sm h n
  | 0 => rfl
  | n + 1 => by rw [sm_s, sm_s, sm_s, sm_add n]; omega
theorem sm_zero {f : Nat → Nat} {n : Nat} (h : ∀ i, i < n → f i = 0) : sm f n = 0 := by
  rw [sm_cong n h]
  induction n with
  | zero => rfl
  | succ n ih => rw [sm_s, ih (fun i hi => h i (by omega))]
theorem sm_at {f : Nat → Nat} {n k : Nat} (hk : k < n) (h : ∀ i, i < n → i ≠ k → f i = 0) : sm f n = f k := by
  rw [sm_cong (h := fun i => if i = k then f k else 0) n (fun i hi => by
    by_cases e : i = k
    · rw [if_pos e, e]
    · rw [if_neg e, h i hi e]), sm_one, if_pos hk]
theorem sm_swap {F : Nat → Nat → Nat} {m : Nat} : ∀ n, sm (fun k => sm (fun i => F k i) m) n = sm (fun i => sm (fun k => F k i) n) m
  | 0 => (sm_zero (f := fun i => sm (fun k => F k i) 0) (n := m) (fun i _ => rfl)).symm
  | n + 1 => by rw [sm_s, sm_swap n, ← sm_add]; exact sm_cong m (fun i _ => rfl)
/-- whether a label is in a node's set -/
def inN (nd : List Nd) (a k : Nat) : Nat := if (ndS nd k).testBit a = true then 1 else 0
/-- where a label is: in the root if in a leaf, and in one leaf then -/
theorem leaf_cnt {nd : List Nd} (hG : Grown nd) (a : Nat) : sm (fun k => if ndK nd k = 1 then inN nd a k else 0) nd.length + sm (fun k => if ndK nd k = 6 then inN nd a k else 0) nd.length = inN nd a 0 := by
  have hp : ∀ i, i < nd.length → -1 ≤ ndP nd i ∧ ndP nd i < (i : Int) := hG.2.2.1
  have hn : 1 ≤ nd.length := hG.1.1
  -- each node is the root, or a child of one node
  have h1 : sm (inN nd a) nd.length = inN nd a 0 + sm (fun i => sm (fun k => if ndP nd k = (i : Int) then inN nd a k else 0) nd.length) nd.length := by
    rw [← sm_swap]
    have e0 : inN nd a 0 = sm (fun k => if k = 0 then inN nd a 0 else 0) nd.length := by rw [sm_one, if_pos (by omega)]
    rw [e0, ← sm_add]
    refine sm_cong _ (fun k hk => ?_)
    by_cases c : k = 0
    · subst c
      rw [if_pos rfl, sm_zero (fun i _ => by rw [if_neg]; rw [hG.2.2.2.1]; omega)]
      rfl
    · have hk0 := hG.2.2.2.2 k (by omega) hk
      obtain ⟨-, hk1⟩ := hp k hk
      rw [if_neg c, Nat.zero_add, sm_at (k := (ndP nd k).toNat) (by omega) (fun i _ hne => by rw [if_neg]; omega), if_pos (by omega)]
  -- the children of a node
  have h2 : ∀ i, i < nd.length → sm (fun k => if ndP nd k = (i : Int) then inN nd a k else 0) nd.length = if ndK nd i = 2 ∨ ndK nd i = 3 ∨ ndK nd i = 4 ∨ ndK nd i = 5 then inN nd a i else 0 := by
    intro i hi
    obtain ⟨hk6, hleaf, -⟩ := hG.sh i hi
    obtain ⟨-, -, -, -, -, wd, -⟩ := hG.2.1 i hi
    have hlen : (chl nd i).length = (chX nd i).length := chl_len
    have hkid : ∀ k, k < nd.length → ndP nd k = (i : Int) → ∃ c, c < (chl nd i).length ∧ gd (chl nd i) c = k := by
      intro k hk he
      have hm : k ∈ chl nd i := by
        unfold chl
        exact List.mem_filter.mpr ⟨List.mem_range.mpr hk, decide_eq_true he⟩
      exact mem_gd hm
    by_cases hI : ndK nd i = 2 ∨ ndK nd i = 3 ∨ ndK nd i = 4 ∨ ndK nd i = 5
    · rw [if_pos hI]
      obtain ⟨d1, d2, d3⟩ := (wd hI).2.2
      by_cases hb : (ndS nd i).testBit a = true
      · obtain ⟨c, hc, hcb⟩ := d3 a hb
        obtain ⟨g1, g2⟩ := chl_in (nd := nd) (i := i) (c := c) (by omega)
        rw [sm_at g1 (fun k hk hne => ?_), if_pos g2]
        · unfold inN
          rw [if_pos hb, chl_set (by omega), if_pos hcb]
        · by_cases he : ndP nd k = (i : Int)
          · obtain ⟨c', hc', e'⟩ := hkid k hk he
            rw [if_pos he]
            unfold inN
            rw [← e', chl_set hc', d2 c c' hc (by omega) (fun q => hne (by rw [← e', q])) a hcb, if_neg Bool.false_ne_true]
          · rw [if_neg he]
      · have e0 : inN nd a i = 0 := by unfold inN; rw [if_neg hb]
        rw [e0]
        refine sm_zero (fun k hk => ?_)
        by_cases he : ndP nd k = (i : Int)
        · obtain ⟨c', hc', e'⟩ := hkid k hk he
          rw [if_pos he]
          unfold inN
          rw [if_neg (fun q => hb (d1 c' (by omega) a (by rw [← chl_set hc', e']; exact q)))]
        · rw [if_neg he]
    · rw [if_neg hI]
      refine sm_zero (fun k hk => ?_)
      by_cases he : ndP nd k = (i : Int)
      · obtain ⟨c', hc', -⟩ := hkid k hk he
        have := hleaf (by omega)
        omega
      · rw [if_neg he]
  have h3 : sm (inN nd a) nd.length = sm (fun i => if ndK nd i = 2 ∨ ndK nd i = 3 ∨ ndK nd i = 4 ∨ ndK nd i = 5 then inN nd a i else 0) nd.length + (sm (fun k => if ndK nd k = 1 then inN nd a k else 0) nd.length + sm (fun k => if ndK nd k = 6 then inN nd a k else 0) nd.length) := by
    rw [← sm_add, ← sm_add]
    refine sm_cong _ (fun k hk => ?_)
    obtain ⟨hk6, -, -⟩ := hG.sh k hk
    obtain ⟨-, -, -, w0, -⟩ := hG.2.1 k hk
    rcases (show ndK nd k = 0 ∨ ndK nd k = 1 ∨ (ndK nd k = 2 ∨ ndK nd k = 3 ∨ ndK nd k = 4 ∨ ndK nd k = 5) ∨ ndK nd k = 6 by omega) with hK | hK | hK | hK
    · have hz : ndS nd k = 0 := w0 hK
      have : inN nd a k = 0 := by unfold inN; rw [hz, Nat.zero_testBit, if_neg Bool.false_ne_true]
      rw [this, if_neg (by omega), if_neg (by omega), if_neg (by omega)]
    · rw [if_neg (by omega), if_pos hK, if_neg (by omega)]; omega
    · rw [if_pos hK, if_neg (by omega), if_neg (by omega)]; omega
    · rw [if_neg (by omega), if_neg (by omega), if_pos hK]; omega
  rw [sm_cong nd.length h2] at h1
  omega
/-- how many LABEL nodes have a label -/
def lfN (nd : List Nd) (a k : Nat) : Nat := sm (fun i => if ndK nd i = 1 ∧ loF (ndS nd i) = a then 1 else 0) k
/-- the labels of the ANY nodes -/
def anN (nd : List Nd) (k : Nat) : Nat := it (fun i s => if ndK nd i = 6 then s ||| ndS nd i else s) 0 k
theorem anN_s {nd : List Nd} {k : Nat} : anN nd (k + 1) = if ndK nd k = 6 then anN nd k ||| ndS nd k else anN nd k := rfl
theorem anN_bit {nd : List Nd} {a : Nat} : ∀ k, ((anN nd k).testBit a = true ↔ 0 < sm (fun i => if ndK nd i = 6 then inN nd a i else 0) k)
  | 0 => by
    show (0 : Nat).testBit a = true ↔ 0 < 0
    rw [Nat.zero_testBit]
    exact ⟨fun h => (by cases h), fun h => absurd h (Nat.lt_irrefl 0)⟩
  | k + 1 => by
    have ih := anN_bit (nd := nd) (a := a) k
    rw [anN_s, sm_s]
    by_cases h : ndK nd k = 6
    · rw [if_pos h, if_pos h, Nat.testBit_or]
      unfold inN at ih ⊢
      cases q : (ndS nd k).testBit a
      · rw [Bool.or_false, if_neg Bool.false_ne_true, Nat.add_zero]; exact ih
      · rw [Bool.or_true, if_pos rfl]; exact ⟨fun _ => Nat.succ_pos _, fun _ => rfl⟩
    · rw [if_neg h, if_neg h, Nat.add_zero]; exact ih
theorem anN_lt {nd : List Nd} (h : ∀ i, i < nd.length → ndS nd i < 256) : ∀ k, k ≤ nd.length → anN nd k < 256
  | 0, _ => by show 0 < 256; decide
  | k + 1, hk => by
    rw [anN_s]
    have ih := anN_lt h k (by omega)
    split
    · exact Nat.or_lt_two_pow (n := 8) ih (h k (by omega))
    · exact ih
theorem loF_pow {b : Nat} (hb : b < 8) : loF (2 ^ b) = b := by
  rcases (show b = 0 ∨ b = 1 ∨ b = 2 ∨ b = 3 ∨ b = 4 ∨ b = 5 ∨ b = 6 ∨ b = 7 by omega) with h | h | h | h | h | h | h | h <;> subst h <;> decide
theorem lf_one {nd : List Nd} (hG : Grown nd) {i : Nat} (hi : i < nd.length) (hK : ndK nd i = 1) : ∃ b, b < 8 ∧ ndS nd i = 2 ^ b := by
  obtain ⟨-, hs8, -, -, w1, -⟩ := hG.2.1 i hi
  obtain ⟨b, hb⟩ := one_pow hs8 (w1 hK)
  refine ⟨b, ?_, hb⟩
  refine bit8 hs8 ?_
  rw [hb]; exact Nat.testBit_two_pow_self
/-- each label is that of one LABEL, or in the set of an ANY and that of none -/
theorem leaf_law {nd : List Nd} (hG : Grown nd) {a : Nat} (ha : a < 8) : lfN nd a nd.length = if ((ndS nd 0).testBit a && !(anN nd nd.length).testBit a) = true then 1 else 0 := by
  have h := leaf_cnt hG a
  have h1 : lfN nd a nd.length = sm (fun k => if ndK nd k = 1 then inN nd a k else 0) nd.length := by
    refine sm_cong _ (fun i hi => ?_)
    by_cases hK : ndK nd i = 1
    · obtain ⟨b, hb, e⟩ := lf_one hG hi hK
      rw [if_pos hK]
      unfold inN
      rw [e, loF_pow hb]
      by_cases c : b = a
      · rw [if_pos ⟨hK, c⟩, c, if_pos Nat.testBit_two_pow_self]
      · rw [if_neg (fun q => c q.2), Nat.testBit_two_pow_of_ne c, if_neg Bool.false_ne_true]
    · rw [if_neg hK, if_neg (fun q => hK q.1)]
  rw [h1]
  have h2 := anN_bit (nd := nd) (a := a) nd.length
  generalize sm (fun k => if ndK nd k = 1 then inN nd a k else 0) nd.length = x at h
  generalize sm (fun k => if ndK nd k = 6 then inN nd a k else 0) nd.length = y at h h2
  unfold inN at h
  cases q : (ndS nd 0).testBit a
  · rw [q, if_neg Bool.false_ne_true] at h
    rw [Bool.false_and, if_neg Bool.false_ne_true]
    omega
  · rw [q, if_pos rfl] at h
    rw [Bool.true_and]
    cases q2 : (anN nd nd.length).testBit a
    · rw [Bool.not_false, if_pos rfl]
      have : ¬ 0 < y := fun h9 => by
        have := h2.mpr h9
        rw [q2] at this; cases this
      omega
    · rw [Bool.not_true, if_neg Bool.false_ne_true]
      have := h2.mp q2
      omega
theorem lfN_s {nd : List Nd} {a k : Nat} : lfN nd a (k + 1) = lfN nd a k + (if ndK nd k = 1 ∧ loF (ndS nd k) = a then 1 else 0) := rfl
end PCNT
