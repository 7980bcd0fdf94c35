section CATCH1
variable {g : GT} {ow : String} {cc : ByteArray} {nL d mc ms k z n pc : Nat} {M : AH} {L : List (Option Value)}
/-- caught here, by row x of the table; the rows ahead don't take it -/
theorem JX.take (G : Cx g ow cc nL d mc ms) {E name : String} {rest : List Value} (pre : List ExceptionTableEntry) (x : ExceptionTableEntry) (suf : List ExceptionTableEntry) (hsplit : (gc g).exceptionTable.toList = pre ++ x :: suf) (hpass : ∀ y ∈ pre, covers y pc = false ∨ (y.catchType ≠ 0 ∧ ∃ nm : String, Cond.classLink ow y.catchType nm ∈ wG ∧ (E, nm) ∈ nnG)) (hx : covers x pc = true) (h0 : x.catchType ≠ 0) (hlink : Cond.classLink ow x.catchType name ∈ wG) (hcast : (E, name) ∈ ncG) (kk : ∀ q : Nat, J g k z n M L x.handlerPc [.ref q]) : JX g k z n M L pc rest E := by
  intro H locs ls q ce hR hS hl hce hcv hcl
  obtain ⟨-, -, k3, -, -, k6, -⟩ := G.kw
  refine vx_catch G.own pre x suf hsplit (fun y hy => ?_) hx h0 (G.words _ hlink) ((k3 _ hcast).use rfl) hce hcv hcl (kk q H locs ls hR hS hl)
  rcases hpass y hy with h | ⟨h1, nm, h2, h3⟩
  · exact Or.inl h
  · exact Or.inr ⟨h1, nm, G.words _ h2, k6 _ h3⟩
end CATCH1
