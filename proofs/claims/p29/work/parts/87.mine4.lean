section MINE4
theorem egL_lt {tr : List (List Nat)} {e : Bool} (h : LabL tr) : egL tr e tr.length < 256 :=
  it_inv (f := fun t s => if 0 < (tr.getD t []).length then s ||| 2 ^ gd (tr.getD t []) (if e then (tr.getD t []).length - 1 else 0) else s) (s := 0) (fun _ s => s < 256) tr.length (by decide) (fun t s ht hs => by
    split
    · rename_i h9
      exact or_lt8 hs (pow_lt8 (h t ht _ (by split <;> omega)))
    · exact hs)
def flI (qs : List Nat) (k : Nat) : List Nat := it (fun i l => if gd qs i ≠ 0 then l ++ [gd qs i] else l) [] k
theorem flI_s {qs : List Nat} {k : Nat} : flI qs (k + 1) = if gd qs k ≠ 0 then flI qs k ++ [gd qs k] else flI qs k := rfl
theorem flI_eq {qs : List Nat} : ∀ k, k ≤ qs.length → flI qs k = (qs.take k).filter (fun x => decide (x ≠ 0))
  | 0, _ => rfl
  | k + 1, h => by
    have hk : k < qs.length := by omega
    have eg : gd qs k = qs[k] := by
      unfold gd
      rw [List.getD_eq_getElem?_getD, List.getElem?_eq_getElem hk]
      rfl
    rw [flI_s, flI_eq k (by omega), List.take_succ_eq_append_getElem hk, List.filter_append, eg]
    by_cases h0 : qs[k] = 0
    · rw [if_neg (by simpa using h0)]
      simp [h0]
    · rw [if_pos h0]
      simp [h0]
theorem agN_fix {be en : Nat} {fo : Nat → Nat} {s : Nat × List Nat} {j : Nat} (h : agP be en fo (agN be en fo s j) (agN be en fo s j).2.length = agN be en fo s j) : ∀ e, agN be en fo s (j + e) = agN be en fo s j
  | 0 => rfl
  | e + 1 => by
    show agP be en fo (agN be en fo s (j + e)) (agN be en fo s (j + e)).2.length = _
    rw [agN_fix h e]
    exact h
end MINE4
