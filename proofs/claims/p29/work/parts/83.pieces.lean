section PIECES1
/-- what is closed, when the open piece is closed too -/
def clS (s : List (List Nat) × List Nat) : List (List Nat) := if s.2.length ≠ 0 then s.1 ++ [s.2] else s.1
end PIECES1
