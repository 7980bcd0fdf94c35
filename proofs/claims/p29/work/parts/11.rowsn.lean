section ROWN
variable {g : GT} {ow : String} {cc : ByteArray} {nL d mc ms k z n pc : Nat} {M : AH} {L : List (Option Value)} {st : List Value}
/-- a row of ints, none below 0 -/
abbrev cN (len : Nat) (f : Nat → Nat) : Ce := cA len (fun j => (f j : Int))
def upN (f : Nat → Nat) (j : Nat) (v : Nat) : Nat → Nat := fun k => if k = j then v else f k
theorem upN_s {f : Nat → Nat} {j : Nat} {v : Nat} : upN f j v j = v := by simp [upN]
theorem upN_n {f : Nat → Nat} {j k : Nat} {v : Nat} (h : k ≠ j) : upN f j v k = f k := by simp [upN, h]
theorem upN_upI (f : Nat → Nat) (j v : Nat) : upI (fun j => (f j : Int)) j (v : Int) = fun k => (upN f j v k : Int) := by
  funext q
  by_cases h : q = j <;> simp [upI, upN, h]
def upAN (A : Nat → Nat → Nat) (k : Nat) (f : Nat → Nat) : Nat → Nat → Nat := fun i => if i = k then f else A i
theorem upAN_s {A : Nat → Nat → Nat} {k : Nat} {f : Nat → Nat} : upAN A k f k = f := by simp [upAN]
theorem upAN_n {A : Nat → Nat → Nat} {k i : Nat} {f : Nat → Nat} (h : i ≠ k) : upAN A k f i = A i := by simp [upAN, h]
/-- a Log and its six rows -/
abbrev logC (a : Nat) (A : Nat → Nat → Nat) (S : Nat → Nat) : List Ce := [cO 0 [.ref (a + 1), .ref (a + 2), .int (iI (S 2 : Int)), .int (iI (S 3 : Int)), .int (iI (S 4 : Int)), .int (iI (S 5 : Int)), .int (iI (S 6 : Int)), .int (iI (S 7 : Int)), .ref (a + 3), .ref (a + 4), .ref (a + 5), .ref (a + 6), .int (iI (S 12 : Int))], cN 120 (A 1), cN 120 (A 2), cN 8 (A 3), cN 8 (A 4), cN 8 (A 5), cN 8 (A 6)]
/-- a Matcher and its two rows: its tree lies between it and them -/
def Cq (M : AH) (a t : Nat) (A : Nat → Nat → Nat) (S : Nat → Nat) : Prop := M a = some (cO 1 [.ref t, .ref (a + 8), .int (iI (S 2 : Int)), .ref (a + 9)]) ∧ M (a + 8) = some (cN 12 (A 1)) ∧ M (a + 9) = some (cN 832 (A 2))
/-- a Tree and its six rows -/
abbrev treeC (a : Nat) (A : Nat → Nat → Nat) (P : Nat → Int) (S : Nat → Nat) : List Ce := [cO 2 [.ref (a + 1), .ref (a + 2), .ref (a + 3), .ref (a + 4), .ref (a + 5), .ref (a + 6), .int (iI (S 6 : Int))], cN 64 (A 1), cN 64 (A 2), cA 64 P, cN 64 (A 4), cN 512 (A 5), cN 64 (A 6)]
/-- the miner, its four rows and its levels -/
abbrev minC (a : Nat) (A : Nat → Nat → Nat) (S : Nat → Nat) : List Ce := [cO 3 [.ref (a + 1), .int (iI (S 1 : Int)), .ref (a + 2), .ref (a + 3), .ref (a + 4), .int (iI (S 5 : Int)), .ref (a + 5), .ref (a + 6), .ref (a + 7), .int (iI (S 9 : Int))], cN 12 (A 1), cN 120 (A 2), cN 10 (A 3), cN 10 (A 4), cR 4 16 (fun i => some (a + 16 + 7 * i))]
theorem J.iconstN (G : Cx g ow cc nL d mc ms) {b : Int} (hd : decode cc pc = .ok (.iconst b, 1)) (m : Nat) (hm : b = (m : Int)) (kk : J g k z n M L (pc + 1) (.int (iI (m : Int)) :: st)) : J g k z n M L pc st := J.iconst G hd (hm ▸ kk)
theorem J.bipushN (G : Cx g ow cc nL d mc ms) {b : Int} (hd : decode cc pc = .ok (.bipush b, 2)) (m : Nat) (hm : (Int8.ofInt b).toInt32 = iI (m : Int)) (kk : J g k z n M L (pc + 2) (.int (iI (m : Int)) :: st)) : J g k z n M L pc st := by
  intro H locs ls hR hS hl
  exact lv_bipush G.exec G.bytes hd hm (kk H locs ls hR hS hl)
theorem J.sipushN (G : Cx g ow cc nL d mc ms) {b : Int} (hd : decode cc pc = .ok (.sipush b, 3)) (m : Nat) (hm : (Int16.ofInt b).toInt32 = iI (m : Int)) (kk : J g k z n M L (pc + 3) (.int (iI (m : Int)) :: st)) : J g k z n M L pc st := by
  intro H locs ls hR hS hl
  exact lv_sipush G.exec G.bytes hd hm (kk H locs ls hR hS hl)
theorem J.iaddN (G : Cx g ow cc nL d mc ms) {a b : Nat} (hd : decode cc pc = .ok (.iadd, 1)) (kk : J g k z n M L (pc + 1) (.int (iI ((a + b : Nat) : Int)) :: st)) : J g k z n M L pc (.int (iI (b : Int)) :: .int (iI (a : Int)) :: st) := J.iadd G hd (by rw [← Int.natCast_add]; exact kk)
theorem J.imulN (G : Cx g ow cc nL d mc ms) {a b : Nat} (hd : decode cc pc = .ok (.imul, 1)) (kk : J g k z n M L (pc + 1) (.int (iI ((a * b : Nat) : Int)) :: st)) : J g k z n M L pc (.int (iI (b : Int)) :: .int (iI (a : Int)) :: st) := J.imul G hd (by rw [← Int.natCast_mul]; exact kk)
theorem J.isubN (G : Cx g ow cc nL d mc ms) {a b : Nat} (hd : decode cc pc = .ok (.isub, 1)) (h : b ≤ a) (kk : J g k z n M L (pc + 1) (.int (iI ((a - b : Nat) : Int)) :: st)) : J g k z n M L pc (.int (iI (b : Int)) :: .int (iI (a : Int)) :: st) := J.isub G hd (by rw [← Int.natCast_sub h]; exact kk)
theorem J.iorN (G : Cx g ow cc nL d mc ms) {a b : Nat} (hd : decode cc pc = .ok (.ior, 1)) (kk : J g k z n M L (pc + 1) (.int (iI ((a ||| b : Nat) : Int)) :: st)) : J g k z n M L pc (.int (iI (b : Int)) :: .int (iI (a : Int)) :: st) := J.ior G hd kk
theorem J.iandN (G : Cx g ow cc nL d mc ms) {a b : Nat} (hd : decode cc pc = .ok (.iand, 1)) (kk : J g k z n M L (pc + 1) (.int (iI ((a &&& b : Nat) : Int)) :: st)) : J g k z n M L pc (.int (iI (b : Int)) :: .int (iI (a : Int)) :: st) := J.iand G hd kk
theorem J.ishl1 (G : Cx g ow cc nL d mc ms) {b : Nat} (hd : decode cc pc = .ok (.ishl, 1)) (h : b < 31) (kk : J g k z n M L (pc + 1) (.int (iI ((2 ^ b : Nat) : Int)) :: st)) : J g k z n M L pc (.int (iI (b : Int)) :: .int (iI ((1 : Nat) : Int)) :: st) := by
  refine J.ishl_r G hd ?_
  have : (((1 : Nat) : Int)) = 1 := rfl
  rw [this, iI_shl h]
  exact kk
theorem J.ishrN (G : Cx g ow cc nL d mc ms) {a b : Nat} (hd : decode cc pc = .ok (.ishr, 1)) (ha : a < 2147483648) (h : b < 32) (kk : J g k z n M L (pc + 1) (.int (iI ((a >>> b : Nat) : Int)) :: st)) : J g k z n M L pc (.int (iI (b : Int)) :: .int (iI (a : Int)) :: st) := by
  refine J.ishr_r G hd ?_
  rw [iI_shr ha h]
  exact kk
theorem J.iincN (G : Cx g ow cc nL d mc ms) {i a : Nat} {b : Int} {L' : List (Option Value)} (hd : decode cc pc = .ok (.iinc i b, 3)) (m : Nat) (hm : b = (m : Int)) (h : L[i]? = some (some (.int (iI (a : Int))))) (hok : ok1 L i = true) (hL : L.set i (some (.int (iI ((a + m : Nat) : Int)))) = L') (kk : J g k z n M L' (pc + 3) st) : J g k z n M L pc st := by
  refine J.iinc G hd h hok ?_ kk
  rw [hm, ← Int.natCast_add]
  exact hL
theorem J.ialdN (G : Cx g ow cc nL d mc ms) {a len j : Nat} {f : Nat → Nat} (hd : decode cc pc = .ok (.iaload, 1)) (hM : M a = some (cN len f)) (hj : j < len) (hN : len < 2147483648) (kk : J g k z n M L (pc + 1) (.int (iI (f j : Int)) :: st)) : J g k z n M L pc (.int (iI (j : Int)) :: .ref a :: st) := J.iald G hd hM j rfl hj hN kk
theorem J.iastN (G : Cx g ow cc nL d mc ms) {a len j v : Nat} {f : Nat → Nat} (hd : decode cc pc = .ok (.iastore, 1)) (hM : M a = some (cN len f)) (hj : j < len) (hN : len < 2147483648) (kk : ∀ M' : AH, M' a = some (cN len (upN f j v)) → (∀ q, q ≠ a → M' q = M q) → J g k z n M' L (pc + 1) st) : J g k z n M L pc (.int (iI (v : Int)) :: .int (iI (j : Int)) :: .ref a :: st) := by
  refine J.iast G hd hM j rfl hj hN (fun M' h1 h2 => kk M' ?_ h2)
  rw [h1, upN_upI]
theorem J.icmp_eqN (G : Cx g ow cc nL d mc ms) {a b : Nat} {off : Int} {tgt : Nat} (hd : decode cc pc = .ok (.if_icmp .eq off, 3)) (ht : (pc : Int) + off = (tgt : Int)) (ha : a < 2147483648) (hb : b < 2147483648) (kt : a = b → J g k z n M L tgt st) (kf : a ≠ b → J g k z n M L (pc + 3) st) : J g k z n M L pc (.int (iI (b : Int)) :: .int (iI (a : Int)) :: st) :=
  J.icmp_eq G hd ht (by omega) (by omega) (by omega) (by omega) (fun h => kt (by omega)) (fun h => kf (by omega))
theorem J.if_eqN (G : Cx g ow cc nL d mc ms) {a : Nat} {off : Int} {tgt : Nat} (hd : decode cc pc = .ok (.ifCond .eq off, 3)) (ht : (pc : Int) + off = (tgt : Int)) (ha : a < 2147483648) (kt : a = 0 → J g k z n M L tgt st) (kf : 0 < a → J g k z n M L (pc + 3) st) : J g k z n M L pc (.int (iI (a : Int)) :: st) :=
  J.if_eq G hd ht (by omega) (by omega) (fun h => kt (by omega)) (fun h => kf (by omega))
theorem J.icmp_neN (G : Cx g ow cc nL d mc ms) {a b : Nat} {off : Int} {tgt : Nat} (hd : decode cc pc = .ok (.if_icmp .ne off, 3)) (ht : (pc : Int) + off = (tgt : Int)) (ha : a < 2147483648) (hb : b < 2147483648) (kt : a ≠ b → J g k z n M L tgt st) (kf : a = b → J g k z n M L (pc + 3) st) : J g k z n M L pc (.int (iI (b : Int)) :: .int (iI (a : Int)) :: st) :=
  J.icmp_ne G hd ht (by omega) (by omega) (by omega) (by omega) (fun h => kt (by omega)) (fun h => kf (by omega))
theorem J.if_neN (G : Cx g ow cc nL d mc ms) {a : Nat} {off : Int} {tgt : Nat} (hd : decode cc pc = .ok (.ifCond .ne off, 3)) (ht : (pc : Int) + off = (tgt : Int)) (ha : a < 2147483648) (kt : 0 < a → J g k z n M L tgt st) (kf : a = 0 → J g k z n M L (pc + 3) st) : J g k z n M L pc (.int (iI (a : Int)) :: st) :=
  J.if_ne G hd ht (by omega) (by omega) (fun h => kt (by omega)) (fun h => kf (by omega))
theorem J.icmp_ltN (G : Cx g ow cc nL d mc ms) {a b : Nat} {off : Int} {tgt : Nat} (hd : decode cc pc = .ok (.if_icmp .lt off, 3)) (ht : (pc : Int) + off = (tgt : Int)) (ha : a < 2147483648) (hb : b < 2147483648) (kt : a < b → J g k z n M L tgt st) (kf : b ≤ a → J g k z n M L (pc + 3) st) : J g k z n M L pc (.int (iI (b : Int)) :: .int (iI (a : Int)) :: st) :=
  J.icmp_lt G hd ht (by omega) (by omega) (by omega) (by omega) (fun h => kt (by omega)) (fun h => kf (by omega))
theorem J.icmp_geN (G : Cx g ow cc nL d mc ms) {a b : Nat} {off : Int} {tgt : Nat} (hd : decode cc pc = .ok (.if_icmp .ge off, 3)) (ht : (pc : Int) + off = (tgt : Int)) (ha : a < 2147483648) (hb : b < 2147483648) (kt : b ≤ a → J g k z n M L tgt st) (kf : a < b → J g k z n M L (pc + 3) st) : J g k z n M L pc (.int (iI (b : Int)) :: .int (iI (a : Int)) :: st) :=
  J.icmp_ge G hd ht (by omega) (by omega) (by omega) (by omega) (fun h => kt (by omega)) (fun h => kf (by omega))
theorem J.icmp_gtN (G : Cx g ow cc nL d mc ms) {a b : Nat} {off : Int} {tgt : Nat} (hd : decode cc pc = .ok (.if_icmp .gt off, 3)) (ht : (pc : Int) + off = (tgt : Int)) (ha : a < 2147483648) (hb : b < 2147483648) (kt : b < a → J g k z n M L tgt st) (kf : a ≤ b → J g k z n M L (pc + 3) st) : J g k z n M L pc (.int (iI (b : Int)) :: .int (iI (a : Int)) :: st) :=
  J.icmp_gt G hd ht (by omega) (by omega) (by omega) (by omega) (fun h => kt (by omega)) (fun h => kf (by omega))
theorem J.if_gtN (G : Cx g ow cc nL d mc ms) {a : Nat} {off : Int} {tgt : Nat} (hd : decode cc pc = .ok (.ifCond .gt off, 3)) (ht : (pc : Int) + off = (tgt : Int)) (ha : a < 2147483648) (kt : 0 < a → J g k z n M L tgt st) (kf : a = 0 → J g k z n M L (pc + 3) st) : J g k z n M L pc (.int (iI (a : Int)) :: st) :=
  J.if_gt G hd ht (by omega) (by omega) (fun h => kt (by omega)) (fun h => kf (by omega))
theorem J.icmp_leN (G : Cx g ow cc nL d mc ms) {a b : Nat} {off : Int} {tgt : Nat} (hd : decode cc pc = .ok (.if_icmp .le off, 3)) (ht : (pc : Int) + off = (tgt : Int)) (ha : a < 2147483648) (hb : b < 2147483648) (kt : a ≤ b → J g k z n M L tgt st) (kf : b < a → J g k z n M L (pc + 3) st) : J g k z n M L pc (.int (iI (b : Int)) :: .int (iI (a : Int)) :: st) :=
  J.icmp_le G hd ht (by omega) (by omega) (by omega) (by omega) (fun h => kt (by omega)) (fun h => kf (by omega))
theorem J.if_leN (G : Cx g ow cc nL d mc ms) {a : Nat} {off : Int} {tgt : Nat} (hd : decode cc pc = .ok (.ifCond .le off, 3)) (ht : (pc : Int) + off = (tgt : Int)) (ha : a < 2147483648) (kt : a = 0 → J g k z n M L tgt st) (kf : 0 < a → J g k z n M L (pc + 3) st) : J g k z n M L pc (.int (iI (a : Int)) :: st) :=
  J.if_le G hd ht (by omega) (by omega) (fun h => kt (by omega)) (fun h => kf (by omega))
/-- booleans put together out of constants -/
theorem J.zret1 (G : Cx g ow cc nL d mc ms) {post : Option Value → Nat → AH → Prop} (hO : Ro g (some .boolean) mc ms post) (hd : decode cc pc = .ok (.ireturn, 1)) (hk : k ≤ mc) (hz : z ≤ ms) (hp : post (some (.int (bI true))) n M) : J g k z n M L pc [.int (iI ((1 : Nat) : Int))] := J.topv (show iI ((1 : Nat) : Int) = bI true by decide +kernel) (J.zret G hO hd hk hz hp)
theorem J.zret0 (G : Cx g ow cc nL d mc ms) {post : Option Value → Nat → AH → Prop} (hO : Ro g (some .boolean) mc ms post) (hd : decode cc pc = .ok (.ireturn, 1)) (hk : k ≤ mc) (hz : z ≤ ms) (hp : post (some (.int (bI false))) n M) : J g k z n M L pc [.int (iI ((0 : Nat) : Int))] := J.topv (show iI ((0 : Nat) : Int) = bI false by decide +kernel) (J.zret G hO hd hk hz hp)
/-- induction on a measure, for loops -/
theorem loopJ {σ : Type} (μ : σ → Nat) (I P : σ → Prop) (step : ∀ s, I s → (∀ s', I s' → μ s' < μ s → P s') → P s) : ∀ s, I s → P s := by
  intro s
  induction h : μ s using Nat.strongRecOn generalizing s with
  | ind m ih =>
    intro hI
    exact step s hI (fun s' h1 h2 => ih (μ s') (by omega) s' rfl h1)
end ROWN
