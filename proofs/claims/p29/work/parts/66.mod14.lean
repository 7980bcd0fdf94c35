section MOD14
def lbI (w : List Nat) (s k : Nat) : Nat := it (fun i s => s ||| 2 ^ gd w i) s k
/-- the labels of a log -/
def lbL (tr : List (List Nat)) (k : Nat) : Nat := it (fun t s => lbI (tr.getD t []) s (tr.getD t []).length) 0 k
end MOD14
