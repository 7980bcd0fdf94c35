section MINE6
theorem lgN_12 {A : Nat → Nat → Nat} {S : Nat → Nat} (hok : MnOk A S) {k : Nat} (hk : k ≤ 10) : L12 (lgN A k) :=
  it_inv (f := fun t l => if 0 < A 4 t then l ++ [rwL A t (A 3 t)] else l) (s := []) (fun _ l => L12 l) k (fun t ht => absurd ht (Nat.not_lt_zero t)) (fun t l ht hl => by
    obtain ⟨-, -, -, -, hev, hle, -⟩ := hok
    have h3 := hle t (by omega)
    by_cases h : 0 < A 4 t
    · rw [if_pos h]
      exact hl.app (by rw [rwL_len]; exact h3)
    · rw [if_neg h]
      exact hl)
theorem lgOf_goodM {A : Nat → Nat → Nat} {S : Nat → Nat} (hok : MnOk A S) : GoodM (lgOf A S) := ⟨lgOf_good hok, lgN_12 hok hok.2.1⟩
end MINE6
