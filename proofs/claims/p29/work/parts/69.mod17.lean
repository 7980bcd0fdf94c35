section MOD17
def beC (part fi be en a b : Nat) : Bool := ((andn fi en).testBit a && part.testBit b) || (part.testBit a && (andn fi be).testBit b)
def beI (part fi be en : Nat) (fo : Nat → Nat) (a : Nat) (x : Bool) (k : Nat) : Bool := it (fun b x => if (fo a).testBit b then (x || beC part fi be en a b) else x) x k
def beF (part fi be en : Nat) (fo : Nat → Nat) (k : Nat) : Bool := it (fun a x => beI part fi be en fo a x 8) false k
end MOD17
