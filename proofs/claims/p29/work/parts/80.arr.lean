section BIT1
/-- the place of a set's lowest member -/
def loF (m : Nat) : Nat := firstU (fun i => m.testBit i) 8
theorem ntz_ok : ∀ m : Nat, m < 256 → 0 < m → loF m < 8 ∧ (iI (m : Int) ^^^ iI (-1)) &&& (iI (m : Int) - iI ((1 : Nat) : Int)) = iI ((2 ^ loF m - 1 : Nat) : Int) := by
  have h : (List.range 256).all (fun m => decide (m = 0) || (decide (loF m < 8) && decide ((iI (m : Int) ^^^ iI (-1)) &&& (iI (m : Int) - iI ((1 : Nat) : Int)) = iI ((2 ^ loF m - 1 : Nat) : Int)))) = true := by decide +kernel
  intro m hm h0
  have := List.all_eq_true.mp h m (List.mem_range.mpr hm)
  rw [decide_eq_false (by omega), Bool.false_or, Bool.and_eq_true] at this
  exact ⟨of_decide_eq_true this.1, of_decide_eq_true this.2⟩
end BIT1
