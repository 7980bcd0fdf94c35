section MOD15
def egL (tr : List (List Nat)) (e : Bool) (k : Nat) : Nat := it (fun t s => if 0 < (tr.getD t []).length then s ||| 2 ^ gd (tr.getD t []) (if e then (tr.getD t []).length - 1 else 0) else s) 0 k
end MOD15
