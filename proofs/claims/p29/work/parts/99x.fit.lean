section LAWF
theorem J.dcmp {g : GT} {ow : String} {cc : ByteArray} {nL d mc ms k z n pc : Nat} {M : AH} {L : List (Option Value)} {st : List Value} (G : Cx g ow cc nL d mc ms) {x y : UInt64} {op : CmpOp} (hd : decode cc pc = .ok (.dcmp op, 1)) (kk : J g k z n M L (pc + 1) (.int (Op.cmpValue (FP.dcmp x y) op) :: st)) : J g k z n M L pc (.double y :: .double x :: st) := by
  intro H locs ls hR hS hl
  exact lv_dcmp G.exec G.bytes hd (kk H locs ls hR hS hl)
end LAWF
