section ONLY1
theorem tkT_s {part : Nat} {sp : Bool} {s : List (List Nat) × List Nat} {t : List Nat} {k : Nat} : tkT part sp s t (k + 1) = tkS part sp (tkT part sp s t k) (gd t k) := rfl
end ONLY1
