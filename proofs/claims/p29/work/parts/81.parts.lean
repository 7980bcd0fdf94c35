section PARTS1
theorem fiU_spec {f : Nat → Bool} : ∀ n, firstU f n ≤ n ∧ (firstU f n < n → f (firstU f n) = true) ∧ ∀ j, j < firstU f n → f j = false
  | 0 => ⟨Nat.le_refl _, fun h => absurd h (Nat.not_lt_zero _), fun j h => absurd h (Nat.not_lt_zero _)⟩
  | n + 1 => by
    obtain ⟨h1, h2, h3⟩ := fiU_spec (f := f) n
    rw [firstU]
    split
    · rename_i h
      exact ⟨by omega, fun _ => h2 h, h3⟩
    · have e : firstU f n = n := by omega
      rw [e] at h3
      split
      · rename_i h
        exact ⟨by omega, fun _ => h, h3⟩
      · rename_i h
        refine ⟨Nat.le_refl _, fun q => absurd q (by omega), fun j hj => ?_⟩
        by_cases q : j = n
        · rw [q]; exact eq_false_of_ne_true h
        · exact h3 j (by omega)
theorem loF_spec {m : Nat} (hm : m < 256) (h0 : 0 < m) : loF m < 8 ∧ m.testBit (loF m) = true ∧ ∀ j, j < loF m → m.testBit j = false := by
  obtain ⟨h1, h2, h3⟩ := fiU_spec (f := fun i => m.testBit i) 8
  have hlt : loF m < 8 := (ntz_ok m hm h0).1
  exact ⟨hlt, h2 hlt, h3⟩
theorem popc_le8 {m : Nat} (hm : m < 256) : popc m ≤ 8 := by
  have e : ∀ i, 8 ≤ i → m.testBit i = false := fun i hi => bit_lt (k := 8) hm hi
  have : popc m = pcI m 8 := by
    rw [popc_eq]
    show pcI m (11 + 1) = _
    rw [pcI_s, e 11 (by omega), if_neg (by decide)]
    show pcI m (10 + 1) = _
    rw [pcI_s, e 10 (by omega), if_neg (by decide)]
    show pcI m (9 + 1) = _
    rw [pcI_s, e 9 (by omega), if_neg (by decide)]
    show pcI m (8 + 1) = _
    rw [pcI_s, e 8 (by omega), if_neg (by decide)]
  rw [this]
  exact pcI_le 8
theorem popc_and {a b : Nat} : popc a = popc (a &&& b) + popc (andn a b) := by
  rw [popc_eq, popc_eq, popc_eq]
  refine pcI_add 12 (fun i _ => ?_)
  rw [andn_bit, Nat.testBit_and]
  cases a.testBit i <;> cases b.testBit i <;> simp
theorem popc_drop {a b i : Nat} (hi : i < 12) (ha : a.testBit i = true) (hb : b.testBit i = true) : popc (andn a b) + 1 ≤ popc a := by
  have h1 := popc_and (a := a) (b := b)
  have h2 : 1 ≤ popc (a &&& b) := by
    rw [popc_eq]
    exact pcI_pos 12 i hi (by rw [Nat.testBit_and, ha, hb]; rfl)
  omega
def paS (left : Nat) (jn : Nat → Nat) (a b part : Nat) : Nat := if left.testBit a && (left.testBit b && (((jn a).testBit b || (jn b).testBit a) && (part.testBit a || part.testBit b))) then part ||| (2 ^ a ||| 2 ^ b) else part
def paI (left : Nat) (jn : Nat → Nat) (a part k : Nat) : Nat := it (fun b p => paS left jn a b p) part k
def paA (left : Nat) (jn : Nat → Nat) (part k : Nat) : Nat := it (fun a p => paI left jn a p 8) part k
def paR (left : Nat) (jn : Nat → Nat) (part : Nat) : Nat := paA left jn part 8
def paJ (left : Nat) (jn : Nat → Nat) (k : Nat) : Nat := it (fun _ p => paR left jn p) (2 ^ loF left) k
/-- the part of a set's lowest label: what is joined, again and again -/
def paF (left : Nat) (jn : Nat → Nat) : Nat := paJ left jn 256
def paO (jn : Nat → Nat) : Nat → Nat → List Nat → List Nat
  | 0, _, ps => ps
  | f + 1, left, ps => if left = 0 then ps else paO jn f (andn left (paF left jn)) (ps ++ [paF left jn])
/-- the parts of a set -/
def paL (set : Nat) (jn : Nat → Nat) : List Nat := paO jn 8 set []
theorem paS_bit {left : Nat} {jn : Nat → Nat} {a b part i : Nat} (h : part.testBit i = true) : (paS left jn a b part).testBit i = true := by
  unfold paS
  split
  · rw [Nat.testBit_or, h, Bool.true_or]
  · exact h
theorem paS_lt {left : Nat} {jn : Nat → Nat} {a b part : Nat} (ha : a < 8) (hb : b < 8) (h : part < 256) : paS left jn a b part < 256 := by
  unfold paS
  split
  · exact or_lt8 h (or_lt8 (pow_lt8 ha) (pow_lt8 hb))
  · exact h
theorem paS_ge {left : Nat} {jn : Nat → Nat} {a b part : Nat} : part ≤ paS left jn a b part := by
  unfold paS
  split
  · exact Nat.left_le_or
  · exact Nat.le_refl _
theorem paI_lt {left : Nat} {jn : Nat → Nat} {a part k : Nat} (ha : a < 8) (hk : k ≤ 8) (h : part < 256) : paI left jn a part k < 256 :=
  it_inv (fun _ p => p < 256) k h (fun i p hi hp => paS_lt ha (by omega) hp)
theorem paA_lt {left : Nat} {jn : Nat → Nat} {part k : Nat} (hk : k ≤ 8) (h : part < 256) : paA left jn part k < 256 :=
  it_inv (fun _ p => p < 256) k h (fun i p hi hp => paI_lt (by omega) (Nat.le_refl _) hp)
theorem paR_bit {left : Nat} {jn : Nat → Nat} {part i : Nat} (h : part.testBit i = true) : (paR left jn part).testBit i = true :=
  it_inv (f := fun a p => paI left jn a p 8) (s := part) (fun _ p => Nat.testBit p i = true) 8 h (fun a p _ hp => it_inv (f := fun b p => paS left jn a b p) (s := p) (fun _ q => Nat.testBit q i = true) 8 hp (fun j q _ hq => paS_bit hq))
theorem paJ_lt {left : Nat} {jn : Nat → Nat} (hl : left < 256) (h0 : 0 < left) (k : Nat) : paJ left jn k < 256 :=
  it_inv (fun _ p => p < 256) k (pow_lt8 (loF_spec hl h0).1) (fun _ p _ hp => paA_lt (Nat.le_refl _) hp)
theorem paJ_bit {left : Nat} {jn : Nat → Nat} (k : Nat) : (paJ left jn k).testBit (loF left) = true :=
  it_inv (f := fun _ p => paR left jn p) (s := 2 ^ loF left) (fun _ p => Nat.testBit p (loF left) = true) k (by rw [pow_bit]; exact decide_eq_true rfl) (fun _ p _ hp => paR_bit hp)
theorem paO_0 {jn : Nat → Nat} {ps : List Nat} : ∀ f, paO jn f 0 ps = ps
  | 0 => rfl
  | f + 1 => by rw [paO, if_pos rfl]
end PARTS1
