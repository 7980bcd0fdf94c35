section PURE1
/-- what a counting loop does: f 0, then f 1, .. -/
def it {σ : Type} (f : Nat → σ → σ) (s : σ) : Nat → σ
  | 0 => s
  | n + 1 => f n (it f s n)
theorem it_s {σ : Type} {f : Nat → σ → σ} {s : σ} {n : Nat} : it f s (n + 1) = f n (it f s n) := rfl
/-- an invariant of such a loop -/
theorem it_inv {σ : Type} {f : Nat → σ → σ} {s : σ} (P : Nat → σ → Prop) (n : Nat) (h0 : P 0 s) (hs : ∀ i x, i < n → P i x → P (i + 1) (f i x)) : P n (it f s n) := by
  induction n with
  | zero => exact h0
  | succ n ih => exact hs n _ (Nat.lt_succ_self n) (ih (fun i x hi => hs i x (by omega)))
theorem it_cong {σ : Type} {f g : Nat → σ → σ} {s : σ} (n : Nat) (h : ∀ i x, i < n → f i x = g i x) : it f s n = it g s n := by
  induction n with
  | zero => rfl
  | succ n ih => rw [it_s, it_s, ih (fun i x hi => h i x (by omega)), h n _ (Nat.lt_succ_self n)]
def fillN (f old : Nat → Nat) (i : Nat) : Nat → Nat := fun j => if j < i then f j else old j
theorem fillN_0 (f old : Nat → Nat) : fillN f old 0 = old := by funext j; simp [fillN]
theorem fillN_s (f old : Nat → Nat) (i : Nat) : upN (fillN f old i) i (f i) = fillN f old (i + 1) := by
  funext j
  by_cases h : j = i
  · subst h; simp [fillN, upN]
  · by_cases h2 : j < i
    · simp [fillN, upN, h, h2, Nat.lt_succ_of_lt h2]
    · simp [fillN, upN, h, h2, show ¬ j < i + 1 by omega]
theorem fillN_in {f old : Nat → Nat} {i j : Nat} (h : j < i) : fillN f old i j = f j := by simp [fillN, h]
theorem upN2 (f : Nat → Nat) (j a b : Nat) : upN (upN f j a) j b = upN f j b := by
  funext q; by_cases h : q = j <;> simp [upN, h]
theorem upAN2 (A : Nat → Nat → Nat) (k : Nat) (f f' : Nat → Nat) : upAN (upAN A k f) k f' = upAN A k f' := by
  funext q; by_cases h : q = k <;> simp [upAN, h]
theorem upN_same {f : Nat → Nat} {j v : Nat} (h : f j = v) : upN f j v = f := by
  funext q; by_cases e : q = j
  · subst e; simp [upN, h]
  · simp [upN, e]
theorem upAN_same (A : Nat → Nat → Nat) (k : Nat) : upAN A k (A k) = A := by
  funext q; by_cases e : q = k
  · subst e; simp [upAN]
  · simp [upAN, e]
/-- a set without another one -/
def andn (a b : Nat) : Nat := a ^^^ (a &&& b)
theorem andn_bit (a b i : Nat) : (andn a b).testBit i = (a.testBit i && !b.testBit i) := by
  simp only [andn, Nat.testBit_xor, Nat.testBit_and]
  cases a.testBit i <;> cases b.testBit i <;> rfl
theorem lt_of_bits {x k : Nat} (h : ∀ i, k ≤ i → x.testBit i = false) : x < 2 ^ k := Nat.lt_pow_two_of_testBit x h
theorem bit_lt {x k i : Nat} (hx : x < 2 ^ k) (hi : k ≤ i) : x.testBit i = false := Nat.testBit_lt_two_pow (Nat.lt_of_lt_of_le hx (Nat.pow_le_pow_right (by omega) hi))
theorem or_lt8 {a b : Nat} (ha : a < 256) (hb : b < 256) : a ||| b < 256 := Nat.or_lt_two_pow (n := 8) ha hb
theorem and_lt8 {a b : Nat} (ha : a < 256) : a &&& b < 256 := Nat.lt_of_le_of_lt Nat.and_le_left ha
theorem andn_lt8 {a b : Nat} (ha : a < 256) : andn a b < 256 := Nat.xor_lt_two_pow (n := 8) ha (and_lt8 ha)
theorem pow_lt8 {a : Nat} (ha : a < 8) : 2 ^ a < 256 := Nat.pow_lt_pow_right (a := 2) (by omega) (show a < 8 from ha)
theorem pow_bit (a i : Nat) : (2 ^ a).testBit i = decide (a = i) := Nat.testBit_two_pow
theorem iI_andn {a b : Nat} : iI (a : Int) &&& (iI (b : Int) ^^^ iI (-1)) = iI ((andn a b : Nat) : Int) := by
  rw [iI_nat, iI_nat, iI_nat]
  apply Int32.toBitVec_inj.mp
  have h1 : (iI (-1)).toBitVec = BitVec.allOnes 32 := by decide +kernel
  show BitVec.ofNat 32 a &&& (BitVec.ofNat 32 b ^^^ (iI (-1)).toBitVec) = BitVec.ofNat 32 (andn a b)
  rw [h1]
  apply BitVec.eq_of_getLsbD_eq
  intro i hi
  simp only [BitVec.getLsbD_and, BitVec.getLsbD_xor, BitVec.getLsbD_ofNat, BitVec.getLsbD_allOnes, andn_bit, hi, decide_true, Bool.true_and]
  cases b.testBit i <;> simp
theorem J.andnN {g : GT} {ow : String} {cc : ByteArray} {nL d mc ms k z n pc : Nat} {M : AH} {L : List (Option Value)} {st : List Value} (G : Cx g ow cc nL d mc ms) {a b : Nat} (h0 : decode cc pc = .ok (.iconst (-1), 1)) (h1 : decode cc (pc + 1) = .ok (.ixor, 1)) (h2 : decode cc (pc + 2) = .ok (.iand, 1)) (kk : J g k z n M L (pc + 3) (.int (iI ((andn a b : Nat) : Int)) :: st)) : J g k z n M L pc (.int (iI (b : Int)) :: .int (iI (a : Int)) :: st) := by
  refine J.iconst G h0 ?_
  refine J.ixor_r G h1 ?_
  refine J.iand_r G h2 ?_
  rw [iI_andn]
  exact kk
theorem J.fgt {g : GT} {k z n pc : Nat} {M : AH} {L L' : List (Option Value)} {st : List Value} (i : Nat) (hL : L.set i none = L') (kk : J g k z n M L' pc st) : J g k z n M L pc st := by
  subst hL
  refine J.sub (List.length_set ..) (fun j v h => ?_) kk
  by_cases e : j = i
  · subst e
    by_cases hl : j < L.length
    · rw [List.getElem?_set_self hl] at h; cases h
    · rw [List.getElem?_eq_none (by simpa using hl)] at h; cases h
  · rw [List.getElem?_set_ne (fun q => e q.symm)] at h; exact h
/-! reach -/
def rstep (w a : Nat) (r : Nat → Nat) : Nat → Nat := if (r a).testBit w then upN r a (r a ||| r w) else r
def rall (f : Nat → Nat) : Nat → Nat := it (fun w r => it (fun a r => rstep w a r) r 8) f 8
theorem rstep_lt {w a : Nat} {r : Nat → Nat} (hw : w < 8) (h : ∀ j, j < 8 → r j < 256) : ∀ j, j < 8 → rstep w a r j < 256 := by
  intro j hj
  unfold rstep
  split
  · by_cases e : j = a
    · subst e; rw [upN_s]; exact or_lt8 (h _ hj) (h _ hw)
    · rw [upN_n e]; exact h _ hj
  · exact h _ hj
end PURE1
