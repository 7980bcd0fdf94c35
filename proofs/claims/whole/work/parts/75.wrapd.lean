section WRAPD
theorem J.dast {g : GT} {ow : String} {cc : ByteArray} {nL d mc ms k z n pc : Nat} {M : AH} {L : List (Option Value)} {st : List Value} (G : Cx g ow cc nL d mc ms) {a len : Nat} {f : Nat → UInt64} {zi : Int} {v : UInt64} (hd : decode cc pc = .ok (.dastore, 1)) (hM : M a = some (cD len f)) (j : Nat) (hz : zi = (j : Int)) (hj : j < len) (hN : len < 2147483648) (kk : ∀ M' : AH, M' a = some (cD len (vf_upd f j v)) → (∀ q, q ≠ a → M' q = M q) → J g k z n M' L (pc + 1) st) : J g k z n M L pc (.double v :: .int (iI zi) :: .ref a :: st) := by
  intro H locs ls hR hS hl
  subst hz
  have hin : vp_in (iI (j : Int)) len := iI_vp hj hN
  have hcell : H[a]? = some (vp_cell ((gE g).2 2) (len, .inr (.inr (.inr (.inl f))))) := (hR.2.2 a _ hM).2.2
  refine W.dast G.exec G.bytes hcell ((G.kw.1.2 2 _ rfl).1 len (fun j => .double (f j))) (fun q => by cases q) (by show ¬ (_ ∨ (arrV _ _ _).slots.size ≤ _); rw [arrV_size]; exact hin) rfl rfl hd fun H1 e zz oq => ?_
  refine kk (hset M a (cD len (vf_upd f j v))) hset_s (fun q hq => hset_n hq) H1 _ ls (hR.set hM ?_ zz oq) (hS.put zz oq (hR.2.2 a _ hM).1) hl
  show H1[a]? = some (vp_cell _ _)
  rw [e, vp_cell_d, vp_cell_d, arrV_store, iI_cl (by omega)]
  congr 2
  funext q
  by_cases hq : q = j
  · subst hq; simp [updV, vf_upd]
  · simp [updV, vf_upd, hq]
end WRAPD
