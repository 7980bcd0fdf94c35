section ISW3
/-- a row of labels is laid into another one -/
def cwF (w E : Nat → Nat) (fr k : Nat) : Nat → Nat := it (fun i w => upN w i (E (fr + i))) w k
theorem cwF_lt {w E : Nat → Nat} {fr k : Nat} (hw : ∀ i, i < 12 → w i < 8) (hE : ∀ j, j < k → E (fr + j) < 8) : ∀ i, i < 12 → cwF w E fr k i < 8 :=
  it_inv (fun _ (w : Nat → Nat) => ∀ i, i < 12 → w i < 8) k hw (fun i w hi hw j hj => by
    by_cases e : j = i
    · subst e; rw [upN_s]; exact hE j hi
    · rw [upN_n e]; exact hw j hj)
/-- the equations, for each word -/
abbrev IwA8 (nd : List Nd) (iw aw : (Nat → Nat) → Nat → Nat → Bool) (od : (Nat → Nat) → Nat → Nat → Nat → Bool) (ag : (Nat → Nat) → Nat → Nat → Bool) (go : (Nat → Nat) → Nat → Nat → Nat → Bool) : Prop := ∀ w : Nat → Nat, (∀ i, i < 12 → w i < 8) → IwEq nd w (iw w) (aw w) (od w) (ag w) (go w)
/-- what the model's questions ask of its tree -/
abbrev NdQ (nd : List Nd) : Prop := 1 ≤ nd.length ∧ ShOk nd ∧ (∀ i, i < nd.length → (chl nd i).length ≤ 8) ∧ ∀ i, i < nd.length → ndS nd i < 256
theorem pow12' {x : Nat} (h : x ≤ 12) : 2 ^ x - 1 < 4096 := by
  have := Nat.pow_le_pow_right (n := 2) (by omega) h
  have h2 : 2 ^ 12 = 4096 := by decide
  have h3 := Nat.one_le_two_pow (n := x)
  omega
end ISW3
