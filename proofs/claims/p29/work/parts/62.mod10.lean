section MOD10
/-- what a tree's shapes keep: leaves have no children, the others have some -/
def ShOk (nd : List Nd) : Prop := ∀ i, i < nd.length → ndK nd i ≤ 6 ∧ ((ndK nd i = 0 ∨ ndK nd i = 1 ∨ ndK nd i = 6) → (chl nd i).length = 0) ∧ ((ndK nd i = 2 ∨ ndK nd i = 3 ∨ ndK nd i = 4 ∨ ndK nd i = 5) → 1 ≤ (chl nd i).length)
end MOD10
