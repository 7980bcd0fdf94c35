section MOD13
def utF (p k : Nat) : Nat := p &&& (2 ^ k - 1)
def cuB (p k : Nat) : Bool := decide (k = 0) || p.testBit (k - 1)
def plF (w : Nat → Nat) (p l k : Nat) : Nat := it (fun i s => if p.testBit i then (if l.testBit (w i) then s ||| 2 ^ i else s) else s) 0 k
end MOD13
