section LAW1
theorem J.slen {g : GT} {ow : String} {cc : ByteArray} {nL d mc ms k z n pc : Nat} {M : AH} {L : List (Option Value)} {st : List Value} (G : Cx g ow cc nL d mc ms) {b N : Nat} {xs : Nat → Int32} (hX : va_X b N xs (gs g) (gs g).heap) (hb : b < glo g) (hd : decode cc pc = .ok (.arraylength, 1)) (kk : J g k z n M L (pc + 1) (.int (iI (N : Int)) :: st)) : J g k z n M L pc (.ref b :: st) := by
  intro H locs ls hR hS hl
  refine va_slen G.exec G.bytes hX (Nat.lt_of_lt_of_le hb G.lo) (Nat.not_le.mpr hb) hS hd ?_
  have e : Int32.ofNat N = iI (N : Int) := by rw [iI_nat]; rfl
  rw [e]
  exact kk H locs ls hR hS hl
theorem J.sld {g : GT} {ow : String} {cc : ByteArray} {nL d mc ms k z n pc : Nat} {M : AH} {L : List (Option Value)} {st : List Value} (G : Cx g ow cc nL d mc ms) {b N : Nat} {xs : Nat → Int32} {zi : Int} (hX : va_X b N xs (gs g) (gs g).heap) (hb : b < glo g) (hd : decode cc pc = .ok (.iaload, 1)) (j : Nat) (hz : zi = (j : Int)) (hj : j < N) (hN : N < 2147483648) (kk : J g k z n M L (pc + 1) (.int (xs j) :: st)) : J g k z n M L pc (.int (iI zi) :: .ref b :: st) := by
  intro H locs ls hR hS hl
  subst hz
  refine va_sld G.exec G.bytes hX (Nat.lt_of_lt_of_le hb G.lo) (Nat.not_le.mpr hb) hS (iI_vp hj hN) hd ?_
  rw [iI_cl (by omega)]
  exact kk H locs ls hR hS hl
theorem int_self (x : Int32) : ∃ v : Int, x = iI v ∧ Rng v := ⟨x.toInt, (Int32.ofInt_toInt x).symm, Int32.le_toInt x, Int32.toInt_lt x⟩
/-! what the miner keeps -/
theorem MnOk.ev {A : Nat → Nat → Nat} {S : Nat → Nat} {v : Nat} (h : MnOk A S) (h1 : S 1 < 12) (hv : v < 8) : MnOk (evA A S v) (upN S 1 (S 1 + 1)) := by
  obtain ⟨a1, a5, a9, b1, b2, b3, b4⟩ := h
  refine ⟨?_, a5, a9, fun i hi => ?_, b2, b3, b4⟩
  · show S 1 + 1 ≤ 12; omega
  · show upN (A 1) (S 1) v i < 8
    by_cases e : i = S 1
    · rw [e, upN_s]; exact hv
    · rw [upN_n e]; exact b1 i hi
theorem MnOk.et {A : Nat → Nat → Nat} {S : Nat → Nat} {v : Nat} (h : MnOk A S) (h5 : S 5 < 10) (hv : v ≤ 99) : MnOk (etA A S v) (etS S) := by
  obtain ⟨a1, a5, a9, b1, b2, b3, b4⟩ := h
  refine ⟨Nat.zero_le _, ?_, Nat.zero_le _, b1, fun i hi => ?_, fun t ht => ?_, fun t ht => ?_⟩
  · show S 5 + 1 ≤ 10; omega
  · show etE A S (S 1) i < 8
    exact it_inv (fun _ (e : Nat → Nat) => ∀ i, i < 120 → e i < 8) (S 1) b2 (fun j e hj he i hi => by
      show upN e (S 5 * 12 + j) (A 1 j) i < 8
      by_cases q : i = S 5 * 12 + j
      · rw [q, upN_s]; exact b1 j (by omega)
      · rw [upN_n q]; exact he i hi) i hi
  · show upN (A 3) (S 5) (S 1) t ≤ 12
    by_cases q : t = S 5
    · rw [q, upN_s]; exact a1
    · rw [upN_n q]; exact b3 t ht
  · show upN (A 4) (S 5) v t ≤ 99
    by_cases q : t = S 5
    · rw [q, upN_s]; exact hv
    · rw [upN_n q]; exact b4 t ht
theorem MnOk.mi {A : Nat → Nat → Nat} {S : Nat → Nat} (h : MnOk A S) : MnOk A (upN S 9 1) := by
  obtain ⟨a1, a5, a9, b⟩ := h
  exact ⟨a1, a5, Nat.le_refl 1, b⟩
theorem trOf_grown {A : Nat → Nat → Nat} {S : Nat → Nat} (h : MnOk A S) : Grown (trOf A S) := (tree_grown (lgOf_goodM h)).2.1
/-! the miner's half and the model's half -/
def ClsI (M : AH) (ax : Nat) (A : Nat → Nat → Nat) (S : Nat → Nat) : Prop := Cl M ax (minC ax A S) ∧ MnOk A S ∧ LogsAt M (ax + 16) ∧ (∃ nd B P T, Cl M (ax + 7) (treeC (ax + 7) B P T) ∧ TreeIs B P T nd ∧ (nd = [] ∨ Grown nd) ∧ (S 9 = 1 → nd = trOf A S)) ∧ ∃ C Q, Cq M (ax + 6) (ax + 7) C Q ∧ Q 2 ≤ 12 ∧ (∀ i, i < 832 → C 2 i < 8192) ∧ ∀ i, i < 12 → C 1 i < 256
theorem ClsI.keep {M M' : AH} {ax : Nat} {A : Nat → Nat → Nat} {S : Nat → Nat} (h : ClsI M ax A S) (hq : ∀ q, ax ≤ q → q < ax + 128 → M' q = M q) : ClsI M' ax A S := by
  obtain ⟨h1, h2, h3, ⟨nd, B, P, T, h4, h5, h6, h7⟩, ⟨C, Q, h8, h9⟩⟩ := h
  refine ⟨h1.keep (fun q a1 a2 => hq q a1 (by simp at a2; omega)), h2, fun i hi => ?_, ⟨nd, B, P, T, h4.keep (fun q a1 a2 => hq q (by omega) (by simp at a2; omega)), h5, h6, h7⟩, ⟨C, Q, h8.keep (fun q a1 a2 => hq q (by omega) (by omega)), h9⟩⟩
  obtain ⟨A1, S1, h⟩ := h3 i hi
  exact ⟨A1, S1, h.keep (fun q a1 a2 => hq q (by omega) (by simp at a2; omega))⟩
theorem LogsAt.keep {M M' : AH} {lb : Nat} (h : LogsAt M lb) (hq : ∀ q, lb ≤ q → q < lb + 112 → M' q = M q) : LogsAt M' lb := by
  intro i hi
  obtain ⟨A1, S1, h⟩ := h i hi
  exact ⟨A1, S1, h.keep (fun q a1 a2 => hq q (by omega) (by simp at a2; omega))⟩
/-- the miner's own cell and rows changed, no more -/
theorem ClsI.put {M M' : AH} {ax : Nat} {A A' : Nat → Nat → Nat} {S S' : Nat → Nat} (h : ClsI M ax A S) (hX : Cl M' ax (minC ax A' S')) (hok : MnOk A' S') (hFr : Fr ax (ax + 5) M M') (h9 : S' 9 = 1 → S 9 = 1 ∧ trOf A' S' = trOf A S) : ClsI M' ax A' S' := by
  obtain ⟨h1, h2, h3, ⟨nd, B, P, T, h4, h5, h6, h7⟩, ⟨C, Q, h8, h10⟩⟩ := h
  refine ⟨hX, hok, h3.keep (fun q a1 a2 => hFr q (by omega)), ⟨nd, B, P, T, h4.keep (fun q a1 a2 => hFr q (by omega)), h5, h6, fun q => ?_⟩, ⟨C, Q, h8.keep (fun q a1 a2 => hFr q (by omega)), h10⟩⟩
  obtain ⟨a, b⟩ := h9 q
  rw [b]; exact h7 a
end LAW1
