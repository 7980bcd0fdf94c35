section ISW1
theorem pow12 {a : Nat} (ha : a < 12) : 2 ^ a < 4096 := Nat.pow_lt_pow_right (a := 2) (by omega) (show a < 12 from ha)
theorem or_lt12 {a b : Nat} (ha : a < 4096) (hb : b < 4096) : a ||| b < 4096 := Nat.or_lt_two_pow (n := 12) ha hb
theorem utF_lt {p k : Nat} (h : p < 4096) : utF p k < 4096 := Nat.lt_of_le_of_lt Nat.and_le_left h
theorem andn_lt12 {p q : Nat} (h : p < 4096) : andn p q < 4096 := Nat.xor_lt_two_pow (n := 12) h (Nat.lt_of_le_of_lt Nat.and_le_left h)
theorem plF_lt {w : Nat → Nat} {p l k : Nat} (hk : k ≤ 12) : plF w p l k < 4096 :=
  it_inv (fun _ s => s < 4096) k (by decide) (fun i s hi hs => by
    split
    · split
      · exact or_lt12 hs (pow12 (by omega))
      · exact hs
    · exact hs)
def pcI (m k : Nat) : Nat := it (fun i c => if m.testBit i then c + 1 else c) 0 k
theorem pcI_s {m k : Nat} : pcI m (k + 1) = if m.testBit k then pcI m k + 1 else pcI m k := rfl
theorem pcI_add {a b c : Nat} : ∀ k, (∀ i, i < k → (a.testBit i = (b.testBit i || c.testBit i)) ∧ (b.testBit i && c.testBit i) = false) → pcI a k = pcI b k + pcI c k
  | 0, _ => rfl
  | k + 1, h => by
    have ih := pcI_add (a := a) (b := b) (c := c) k (fun i hi => h i (by omega))
    obtain ⟨h1, h2⟩ := h k (by omega)
    rw [pcI_s, pcI_s, pcI_s, ih, h1]
    cases hb : b.testBit k <;> cases hc : c.testBit k <;> simp_all <;> omega
theorem pcI_pos {a : Nat} : ∀ k i, i < k → a.testBit i = true → 1 ≤ pcI a k
  | 0, _, h, _ => absurd h (Nat.not_lt_zero _)
  | k + 1, i, h, hb => by
    rw [pcI_s]
    by_cases e : i = k
    · subst e; rw [if_pos hb]; omega
    · have := pcI_pos (a := a) k i (by omega) hb
      split <;> omega
theorem pcI_le {a : Nat} : ∀ k, pcI a k ≤ k
  | 0 => Nat.le_refl _
  | k + 1 => by
    have := pcI_le (a := a) k
    rw [pcI_s]
    split <;> omega
theorem popc_eq (m : Nat) : popc m = pcI m 12 := rfl
theorem popc_le (m : Nat) : popc m ≤ 12 := pcI_le 12
theorem popc_pos {m : Nat} (h : m < 4096) (h0 : m ≠ 0) : 1 ≤ popc m := by
  rcases Nat.exists_testBit_of_ne_zero h0 with ⟨i, hi⟩
  rw [popc_eq]
  refine pcI_pos 12 i ?_ hi
  rcases Nat.lt_or_ge i 12 with q | q
  · exact q
  · rw [bit_lt (k := 12) h q] at hi; cases hi
theorem utF_bit (p k i : Nat) : (utF p k).testBit i = (p.testBit i && decide (i < k)) := by
  unfold utF
  rw [Nat.testBit_and, Nat.testBit_two_pow_sub_one]
theorem popc_split {p k : Nat} : popc p = popc (utF p k) + popc (andn p (utF p k)) := by
  rw [popc_eq, popc_eq, popc_eq]
  refine pcI_add 12 (fun i _ => ?_)
  rw [andn_bit, utF_bit]
  cases p.testBit i <;> cases decide (i < k) <;> simp
/-- the model's way to see whether the places of a set are a word, as equations -/
def IwEq (nd : List Nd) (w : Nat → Nat) (iw aw : Nat → Nat → Bool) (od : Nat → Nat → Nat → Bool) (ag : Nat → Nat → Bool) (go : Nat → Nat → Nat → Bool) : Prop :=
  (∀ (i p : Nat), i < nd.length → p < 4096 → iw i p = (decide (plF w p (ndS nd i) 12 = p) && (if ndK nd i = 0 then decide (p = 0) else if ndK nd i = 1 then decide (popc p = 1) else if ndK nd i = 6 then true else if ndK nd i = 3 then od i 0 p else if ndK nd i = 5 then ag i p else aw i p))) ∧
  (∀ (i p : Nat), i < nd.length → p < 4096 → aw i p = if ndK nd i = 2 then anyU (fun k => iw (gd (chl nd i) k) p) (chl nd i).length else !anyU (fun k => !iw (gd (chl nd i) k) (plF w p (ndS nd (gd (chl nd i) k)) 12)) (chl nd i).length) ∧
  (∀ (i k p : Nat), i < nd.length → k < (chl nd i).length → p < 4096 → od i k p = if k + 1 = (chl nd i).length then iw (gd (chl nd i) k) p else anyU (fun q => cuB p q && (iw (gd (chl nd i) k) (utF p q) && od i (k + 1) (andn p (utF p q)))) 13) ∧
  (∀ (i p : Nat), i < nd.length → p < 4096 → ag i p = (iw (gd (chl nd i) 0) p || anyU (fun q => cuB p q && (iw (gd (chl nd i) 0) (utF p q) && go i (utF p q) (andn p (utF p q)))) 13)) ∧
  (∀ (i t r : Nat), i < nd.length → t < 4096 → r < 4096 → go i t r = anyU (fun k => anyU (fun q => cuB r q && (decide (0 < (t ||| utF r q)) && (iw (gd (chl nd i) (1 + k)) (utF r q) && ag i (andn r (utF r q))))) 13) ((chl nd i).length - 1))
end ISW1
