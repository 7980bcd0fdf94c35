section MINE2
theorem orM_s {rc : Nat → Nat} {ps : List Nat} {k : Nat} : orM rc ps (k + 1) = orI rc ps k (orM rc ps k) ps.length := rfl
end MINE2
