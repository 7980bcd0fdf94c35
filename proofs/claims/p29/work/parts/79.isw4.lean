section ISW4
/-- the word of a code: its digits to the base 8 -/
def cdF (w : Nat → Nat) (c k : Nat) : Nat → Nat := it (fun i w => upN w i ((c >>> (3 * i)) &&& 7)) w k
end ISW4
