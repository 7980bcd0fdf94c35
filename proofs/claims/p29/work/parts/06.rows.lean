section BASE3
abbrev GT : Type := Program × Launch × Env × Room × State × MethodId × Array Value × List Frame × Method × Code × (State → Prop) × En × Nat
abbrev gp (g : GT) := g.1
abbrev gl (g : GT) := g.2.1
abbrev ge (g : GT) := g.2.2.1
abbrev gR (g : GT) := g.2.2.2.1
abbrev gs (g : GT) := g.2.2.2.2.1
abbrev gm (g : GT) := g.2.2.2.2.2.1
abbrev ga (g : GT) := g.2.2.2.2.2.2.1
abbrev gb (g : GT) := g.2.2.2.2.2.2.2.1
abbrev gM (g : GT) := g.2.2.2.2.2.2.2.2.1
abbrev gc (g : GT) := g.2.2.2.2.2.2.2.2.2.1
abbrev gQ (g : GT) := g.2.2.2.2.2.2.2.2.2.2.1
abbrev gE (g : GT) := g.2.2.2.2.2.2.2.2.2.2.2.1
abbrev glo (g : GT) := g.2.2.2.2.2.2.2.2.2.2.2.2
/-- the judgement: at pc, over any heap that holds M -/
def J (g : GT) (k z n : Nat) (M : AH) (L : List (Option Value)) (pc : Nat) (st : List Value) : Prop :=
  ∀ (H : Heap) (locs : List Loc) (ls : Array Slot), Rp (gE g) (glo g) n M H → va_S (fun q => glo g ≤ q) (gs g).heap H locs → LH ls L → W (gp g) (gl g) (ge g) (gR g) (gs g) (gm g) (ga g) (gb g) (gM g) (gc g) H locs k z (gQ g) (F0 (gm g) pc ls st)
/-- what stands fast in a method's body -/
def Cx (g : GT) (own : String) (cc : ByteArray) (nL d mc ms : Nat) : Prop :=
  (gp g).tables.exec = Jvm.exec ∧ (gc g).code = cc ∧ (gc g).maxLocals = nL ∧ (gs g).vm.findClass own = some (gm g).cls ∧ (∀ w ∈ wG, w.before (ga g) (gs g) = true) ∧ KW (gE g) (glo g) (gs g) ∧ (gM g).locks = false ∧ d ≤ (gR g).frames ∧ 40 * d ≤ (gR g).locals ∧ mc ≤ (gR g).cells ∧ ms ≤ (gR g).slots ∧ (gl g).stackTraces = false ∧ glo g ≤ (gs g).heap.size
variable {g : GT} {ow : String} {cc : ByteArray} {nL d mc ms k z n pc : Nat} {M : AH} {L : List (Option Value)} {st : List Value}
theorem Cx.exec (G : Cx g ow cc nL d mc ms) : (gp g).tables.exec = Jvm.exec := G.1
theorem Cx.bytes (G : Cx g ow cc nL d mc ms) : (gc g).code = cc := G.2.1
theorem Cx.maxl (G : Cx g ow cc nL d mc ms) : (gc g).maxLocals = nL := G.2.2.1
theorem Cx.own (G : Cx g ow cc nL d mc ms) : (gs g).vm.findClass ow = some (gm g).cls := G.2.2.2.1
theorem Cx.words (G : Cx g ow cc nL d mc ms) : ∀ w ∈ wG, w.before (ga g) (gs g) = true := G.2.2.2.2.1
theorem Cx.kw (G : Cx g ow cc nL d mc ms) : KW (gE g) (glo g) (gs g) := G.2.2.2.2.2.1
theorem Cx.locks (G : Cx g ow cc nL d mc ms) : (gM g).locks = false := G.2.2.2.2.2.2.1
theorem Cx.frames (G : Cx g ow cc nL d mc ms) : d ≤ (gR g).frames := G.2.2.2.2.2.2.2.1
theorem Cx.locals (G : Cx g ow cc nL d mc ms) : 40 * d ≤ (gR g).locals := G.2.2.2.2.2.2.2.2.1
theorem Cx.cells (G : Cx g ow cc nL d mc ms) : mc ≤ (gR g).cells := G.2.2.2.2.2.2.2.2.2.1
theorem Cx.slots (G : Cx g ow cc nL d mc ms) : ms ≤ (gR g).slots := G.2.2.2.2.2.2.2.2.2.2.1
theorem Cx.notr (G : Cx g ow cc nL d mc ms) : (gl g).stackTraces = false := G.2.2.2.2.2.2.2.2.2.2.2.1
theorem Cx.lo (G : Cx g ow cc nL d mc ms) : glo g ≤ (gs g).heap.size := G.2.2.2.2.2.2.2.2.2.2.2.2
theorem J.stk {st' : List Value} (e : st = st') (kk : J g k z n M L pc st') : J g k z n M L pc st := e ▸ kk
theorem J.top {a b : Int} (e : a = b) (kk : J g k z n M L pc (.int (iI b) :: st)) : J g k z n M L pc (.int (iI a) :: st) := e ▸ kk
theorem J.topv {a b : Int32} (e : a = b) (kk : J g k z n M L pc (.int b :: st)) : J g k z n M L pc (.int a :: st) := e ▸ kk
theorem J.loc {L' : List (Option Value)} (e : L = L') (kk : J g k z n M L' pc st) : J g k z n M L pc st := e ▸ kk
theorem J.hp {M' : AH} (e : M = M') (kk : J g k z n M' L pc st) : J g k z n M L pc st := e ▸ kk
/-- fewer locals are known -/
theorem J.sub {L' : List (Option Value)} (hlen : L'.length = L.length) (h : ∀ (i : Nat) (v : Value), L'[i]? = some (some v) → L[i]? = some (some v)) (kk : J g k z n M L' pc st) : J g k z n M L pc st := by
  intro H locs ls hR hS hl
  refine kk H locs ls hR hS ⟨by rw [hlen]; exact hl.1, hl.2.1, fun q hq => ?_⟩
  obtain ⟨i, h1, h2⟩ := asl_of _ 0 q hq
  have := hl.at (h i q.2 h2)
  rw [h1, Nat.zero_add]; exact this
/-- more room is asked -/
theorem J.wid {k' z' : Nat} (h1 : k ≤ k') (h2 : z ≤ z') (kk : J g k' z' n M L pc st) : J g k z n M L pc st := by
  intro H locs ls hR hS hl
  exact W.widen h1 h2 (kk H locs ls hR hS hl)
/-- less of the heap is known -/
theorem J.less {M' : AH} (h : ∀ a x, M' a = some x → M a = some x) (kk : J g k z n M' L pc st) : J g k z n M L pc st := by
  intro H locs ls hR hS hl
  exact kk H locs ls ⟨hR.1, hR.2.1, fun a x hx => hR.2.2 a x (h a x hx)⟩ hS hl
/-- the address of a known cell -/
theorem J.lt {a : Nat} {x : Ce} (hM : M a = some x) (kk : a < n → J g k z n M L pc st) : J g k z n M L pc st := by
  intro H locs ls hR hS hl
  exact kk (hR.2.2 a x hM).2.1 H locs ls hR hS hl

theorem J.iload_n (G : Cx g ow cc nL d mc ms) {i : Fin 4} {x : Int32} (hd : decode cc pc = .ok (.iload_n i, 1)) (h : L[(i : Nat)]? = some (some (.int x))) (kk : J g k z n M L (pc + 1) (.int x :: st)) : J g k z n M L pc st := by
  intro H locs ls hR hS hl
  exact lv_iload_n G.exec G.bytes hd rfl (hl.at h) (kk H locs ls hR hS hl)
theorem J.iload (G : Cx g ow cc nL d mc ms) {i : Nat} {x : Int32} (hd : decode cc pc = .ok (.iload i, 2)) (h : L[i]? = some (some (.int x))) (kk : J g k z n M L (pc + 2) (.int x :: st)) : J g k z n M L pc st := by
  intro H locs ls hR hS hl
  exact lv_iload G.exec G.bytes hd (hl.at h) (kk H locs ls hR hS hl)
theorem J.aload_n (G : Cx g ow cc nL d mc ms) {i : Fin 4} {x : Nat} (hd : decode cc pc = .ok (.aload_n i, 1)) (h : L[(i : Nat)]? = some (some (.ref x))) (kk : J g k z n M L (pc + 1) (.ref x :: st)) : J g k z n M L pc st := by
  intro H locs ls hR hS hl
  exact lv_aload_n G.exec G.bytes hd rfl (hl.at h) (kk H locs ls hR hS hl)
theorem J.aload (G : Cx g ow cc nL d mc ms) {i : Nat} {x : Nat} (hd : decode cc pc = .ok (.aload i, 2)) (h : L[i]? = some (some (.ref x))) (kk : J g k z n M L (pc + 2) (.ref x :: st)) : J g k z n M L pc st := by
  intro H locs ls hR hS hl
  exact lv_aload G.exec G.bytes hd (hl.at h) (kk H locs ls hR hS hl)
theorem J.lload_n (G : Cx g ow cc nL d mc ms) {i : Fin 4} {x : Int64} (hd : decode cc pc = .ok (.lload_n i, 1)) (h : L[(i : Nat)]? = some (some (.long x))) (kk : J g k z n M L (pc + 1) (.long x :: st)) : J g k z n M L pc st := by
  intro H locs ls hR hS hl
  exact lv_lload_n G.exec G.bytes hd rfl (hl.at h) (kk H locs ls hR hS hl)
theorem J.lload (G : Cx g ow cc nL d mc ms) {i : Nat} {x : Int64} (hd : decode cc pc = .ok (.lload i, 2)) (h : L[i]? = some (some (.long x))) (kk : J g k z n M L (pc + 2) (.long x :: st)) : J g k z n M L pc st := by
  intro H locs ls hR hS hl
  exact lv_lload G.exec G.bytes hd (hl.at h) (kk H locs ls hR hS hl)
theorem J.dload_n (G : Cx g ow cc nL d mc ms) {i : Fin 4} {x : UInt64} (hd : decode cc pc = .ok (.dload_n i, 1)) (h : L[(i : Nat)]? = some (some (.double x))) (kk : J g k z n M L (pc + 1) (.double x :: st)) : J g k z n M L pc st := by
  intro H locs ls hR hS hl
  exact lv_dload_n G.exec G.bytes hd rfl (hl.at h) (kk H locs ls hR hS hl)
theorem J.dload (G : Cx g ow cc nL d mc ms) {i : Nat} {x : UInt64} (hd : decode cc pc = .ok (.dload i, 2)) (h : L[i]? = some (some (.double x))) (kk : J g k z n M L (pc + 2) (.double x :: st)) : J g k z n M L pc st := by
  intro H locs ls hR hS hl
  exact lv_dload G.exec G.bytes hd (hl.at h) (kk H locs ls hR hS hl)
theorem J.istore_n (G : Cx g ow cc nL d mc ms) {i : Fin 4} {x : Int32} {L' : List (Option Value)} (hd : decode cc pc = .ok (.istore_n i, 1)) (hok : ok1 L i = true) (hi : (i : Nat) < L.length) (hL : L.set i (some (.int x)) = L') (kk : J g k z n M L' (pc + 1) st) : J g k z n M L pc (.int x :: st) := by
  intro H locs ls hR hS hl
  exact lv_istore_n G.exec G.bytes hd rfl hl hi rfl (fun ls' h' => kk H locs ls' hR hS (hL ▸ LH.st1 hok h'))
theorem J.istore (G : Cx g ow cc nL d mc ms) {i : Nat} {x : Int32} {L' : List (Option Value)} (hd : decode cc pc = .ok (.istore i, 2)) (hok : ok1 L i = true) (hi : i < L.length) (hL : L.set i (some (.int x)) = L') (kk : J g k z n M L' (pc + 2) st) : J g k z n M L pc (.int x :: st) := by
  intro H locs ls hR hS hl
  exact lv_istore G.exec G.bytes hd hl hi rfl (fun ls' h' => kk H locs ls' hR hS (hL ▸ LH.st1 hok h'))
theorem J.astore_n (G : Cx g ow cc nL d mc ms) {i : Fin 4} {x : Nat} {L' : List (Option Value)} (hd : decode cc pc = .ok (.astore_n i, 1)) (hok : ok1 L i = true) (hi : (i : Nat) < L.length) (hL : L.set i (some (.ref x)) = L') (kk : J g k z n M L' (pc + 1) st) : J g k z n M L pc (.ref x :: st) := by
  intro H locs ls hR hS hl
  exact lv_astore_n G.exec G.bytes hd rfl hl hi rfl (fun ls' h' => kk H locs ls' hR hS (hL ▸ LH.st1 hok h'))
theorem J.astore (G : Cx g ow cc nL d mc ms) {i : Nat} {x : Nat} {L' : List (Option Value)} (hd : decode cc pc = .ok (.astore i, 2)) (hok : ok1 L i = true) (hi : i < L.length) (hL : L.set i (some (.ref x)) = L') (kk : J g k z n M L' (pc + 2) st) : J g k z n M L pc (.ref x :: st) := by
  intro H locs ls hR hS hl
  exact lv_astore G.exec G.bytes hd hl hi rfl (fun ls' h' => kk H locs ls' hR hS (hL ▸ LH.st1 hok h'))
theorem J.lstore_n (G : Cx g ow cc nL d mc ms) {i : Fin 4} {x : Int64} {L' : List (Option Value)} (hd : decode cc pc = .ok (.lstore_n i, 1)) (hok : ok1 L i = true) (hi : (i : Nat) + 1 < L.length) (hL : (L.set i (some (.long x))).set ((i : Nat) + 1) none = L') (kk : J g k z n M L' (pc + 1) st) : J g k z n M L pc (.long x :: st) := by
  intro H locs ls hR hS hl
  exact lv_lstore_n G.exec G.bytes hd rfl hl hi rfl (fun ls' h' => kk H locs ls' hR hS (hL ▸ LH.st2 hok h'))
theorem J.lstore (G : Cx g ow cc nL d mc ms) {i : Nat} {x : Int64} {L' : List (Option Value)} (hd : decode cc pc = .ok (.lstore i, 2)) (hok : ok1 L i = true) (hi : i + 1 < L.length) (hL : (L.set i (some (.long x))).set (i + 1) none = L') (kk : J g k z n M L' (pc + 2) st) : J g k z n M L pc (.long x :: st) := by
  intro H locs ls hR hS hl
  exact lv_lstore G.exec G.bytes hd hl hi rfl (fun ls' h' => kk H locs ls' hR hS (hL ▸ LH.st2 hok h'))
theorem J.dstore_n (G : Cx g ow cc nL d mc ms) {i : Fin 4} {x : UInt64} {L' : List (Option Value)} (hd : decode cc pc = .ok (.dstore_n i, 1)) (hok : ok1 L i = true) (hi : (i : Nat) + 1 < L.length) (hL : (L.set i (some (.double x))).set ((i : Nat) + 1) none = L') (kk : J g k z n M L' (pc + 1) st) : J g k z n M L pc (.double x :: st) := by
  intro H locs ls hR hS hl
  exact lv_dstore_n G.exec G.bytes hd rfl hl hi rfl (fun ls' h' => kk H locs ls' hR hS (hL ▸ LH.st2 hok h'))
theorem J.dstore (G : Cx g ow cc nL d mc ms) {i : Nat} {x : UInt64} {L' : List (Option Value)} (hd : decode cc pc = .ok (.dstore i, 2)) (hok : ok1 L i = true) (hi : i + 1 < L.length) (hL : (L.set i (some (.double x))).set (i + 1) none = L') (kk : J g k z n M L' (pc + 2) st) : J g k z n M L pc (.double x :: st) := by
  intro H locs ls hR hS hl
  exact lv_dstore G.exec G.bytes hd hl hi rfl (fun ls' h' => kk H locs ls' hR hS (hL ▸ LH.st2 hok h'))
theorem J.iinc (G : Cx g ow cc nL d mc ms) {i : Nat} {a b : Int} {L' : List (Option Value)} (hd : decode cc pc = .ok (.iinc i b, 3)) (h : L[i]? = some (some (.int (iI a)))) (hok : ok1 L i = true) (hL : L.set i (some (.int (iI (a + b)))) = L') (kk : J g k z n M L' (pc + 3) st) : J g k z n M L pc st := by
  intro H locs ls hR hS hl
  obtain ⟨j, hj⟩ := List.getElem?_of_mem (asl_in L 0 i _ h)
  rw [Nat.zero_add] at hj
  exact lv_iinc G.exec G.bytes hd hl hj (iI_add a b) (List.getElem?_eq_some_iff.mp h).1 rfl (fun ls' h' => kk H locs ls' hR hS (hL ▸ LH.st1 hok h'))
theorem J.iconst (G : Cx g ow cc nL d mc ms) {b : Int} (hd : decode cc pc = .ok (.iconst b, 1)) (kk : J g k z n M L (pc + 1) (.int (iI b) :: st)) : J g k z n M L pc (st) := by
  intro H locs ls hR hS hl
  refine lv_iconst G.exec G.bytes hd rfl ?_
  exact kk H locs ls hR hS hl
theorem J.bipush (G : Cx g ow cc nL d mc ms) {b : Int} (hd : decode cc pc = .ok (.bipush b, 2)) (hv : (Int8.ofInt b).toInt32 = iI b) (kk : J g k z n M L (pc + 2) (.int (iI b) :: st)) : J g k z n M L pc (st) := by
  intro H locs ls hR hS hl
  refine lv_bipush G.exec G.bytes hd hv ?_
  exact kk H locs ls hR hS hl
theorem J.sipush (G : Cx g ow cc nL d mc ms) {b : Int} (hd : decode cc pc = .ok (.sipush b, 3)) (hv : (Int16.ofInt b).toInt32 = iI b) (kk : J g k z n M L (pc + 3) (.int (iI b) :: st)) : J g k z n M L pc (st) := by
  intro H locs ls hR hS hl
  refine lv_sipush G.exec G.bytes hd hv ?_
  exact kk H locs ls hR hS hl
theorem J.iadd (G : Cx g ow cc nL d mc ms) {a b : Int} (hd : decode cc pc = .ok (.iadd, 1)) (kk : J g k z n M L (pc + 1) (.int (iI (a + b)) :: st)) : J g k z n M L pc (.int (iI b) :: .int (iI a) :: st) := by
  intro H locs ls hR hS hl
  refine lv_iadd G.exec G.bytes hd ?_
  rw [iI_add]; exact kk H locs ls hR hS hl
theorem J.isub (G : Cx g ow cc nL d mc ms) {a b : Int} (hd : decode cc pc = .ok (.isub, 1)) (kk : J g k z n M L (pc + 1) (.int (iI (a - b)) :: st)) : J g k z n M L pc (.int (iI b) :: .int (iI a) :: st) := by
  intro H locs ls hR hS hl
  refine lv_isub G.exec G.bytes hd ?_
  rw [iI_sub]; exact kk H locs ls hR hS hl
theorem J.imul (G : Cx g ow cc nL d mc ms) {a b : Int} (hd : decode cc pc = .ok (.imul, 1)) (kk : J g k z n M L (pc + 1) (.int (iI (a * b)) :: st)) : J g k z n M L pc (.int (iI b) :: .int (iI a) :: st) := by
  intro H locs ls hR hS hl
  refine lv_imul G.exec G.bytes hd ?_
  rw [iI_mul]; exact kk H locs ls hR hS hl
theorem J.ineg (G : Cx g ow cc nL d mc ms) {a : Int} (hd : decode cc pc = .ok (.ineg, 1)) (kk : J g k z n M L (pc + 1) (.int (iI (-a)) :: st)) : J g k z n M L pc (.int (iI a) :: st) := by
  intro H locs ls hR hS hl
  refine lv_ineg G.exec G.bytes hd ?_
  rw [iI_neg]; exact kk H locs ls hR hS hl
theorem J.ior (G : Cx g ow cc nL d mc ms) {a b : Nat} (hd : decode cc pc = .ok (.ior, 1)) (kk : J g k z n M L (pc + 1) (.int (iI ((a ||| b : Nat) : Int)) :: st)) : J g k z n M L pc (.int (iI (b : Int)) :: .int (iI (a : Int)) :: st) := by
  intro H locs ls hR hS hl
  refine lv_ior G.exec G.bytes hd ?_
  rw [iI_or]; exact kk H locs ls hR hS hl
theorem J.iand (G : Cx g ow cc nL d mc ms) {a b : Nat} (hd : decode cc pc = .ok (.iand, 1)) (kk : J g k z n M L (pc + 1) (.int (iI ((a &&& b : Nat) : Int)) :: st)) : J g k z n M L pc (.int (iI (b : Int)) :: .int (iI (a : Int)) :: st) := by
  intro H locs ls hR hS hl
  refine lv_iand G.exec G.bytes hd ?_
  rw [iI_and]; exact kk H locs ls hR hS hl
theorem J.iadd_r (G : Cx g ow cc nL d mc ms) {x y : Int32} (hd : decode cc pc = .ok (.iadd, 1)) (kk : J g k z n M L (pc + 1) (.int (x + y) :: st)) : J g k z n M L pc (.int y :: .int x :: st) := by
  intro H locs ls hR hS hl
  refine lv_iadd G.exec G.bytes hd ?_
  exact kk H locs ls hR hS hl
theorem J.isub_r (G : Cx g ow cc nL d mc ms) {x y : Int32} (hd : decode cc pc = .ok (.isub, 1)) (kk : J g k z n M L (pc + 1) (.int (x - y) :: st)) : J g k z n M L pc (.int y :: .int x :: st) := by
  intro H locs ls hR hS hl
  refine lv_isub G.exec G.bytes hd ?_
  exact kk H locs ls hR hS hl
theorem J.imul_r (G : Cx g ow cc nL d mc ms) {x y : Int32} (hd : decode cc pc = .ok (.imul, 1)) (kk : J g k z n M L (pc + 1) (.int (x * y) :: st)) : J g k z n M L pc (.int y :: .int x :: st) := by
  intro H locs ls hR hS hl
  refine lv_imul G.exec G.bytes hd ?_
  exact kk H locs ls hR hS hl
theorem J.ior_r (G : Cx g ow cc nL d mc ms) {x y : Int32} (hd : decode cc pc = .ok (.ior, 1)) (kk : J g k z n M L (pc + 1) (.int (x ||| y) :: st)) : J g k z n M L pc (.int y :: .int x :: st) := by
  intro H locs ls hR hS hl
  refine lv_ior G.exec G.bytes hd ?_
  exact kk H locs ls hR hS hl
theorem J.iand_r (G : Cx g ow cc nL d mc ms) {x y : Int32} (hd : decode cc pc = .ok (.iand, 1)) (kk : J g k z n M L (pc + 1) (.int (x &&& y) :: st)) : J g k z n M L pc (.int y :: .int x :: st) := by
  intro H locs ls hR hS hl
  refine lv_iand G.exec G.bytes hd ?_
  exact kk H locs ls hR hS hl
theorem J.ixor_r (G : Cx g ow cc nL d mc ms) {x y : Int32} (hd : decode cc pc = .ok (.ixor, 1)) (kk : J g k z n M L (pc + 1) (.int (x ^^^ y) :: st)) : J g k z n M L pc (.int y :: .int x :: st) := by
  intro H locs ls hR hS hl
  refine lv_ixor G.exec G.bytes hd ?_
  exact kk H locs ls hR hS hl
theorem J.ishl_r (G : Cx g ow cc nL d mc ms) {x y : Int32} (hd : decode cc pc = .ok (.ishl, 1)) (kk : J g k z n M L (pc + 1) (.int (x <<< (y &&& 31)) :: st)) : J g k z n M L pc (.int y :: .int x :: st) := by
  intro H locs ls hR hS hl
  refine lv_ishl G.exec G.bytes hd ?_
  exact kk H locs ls hR hS hl
theorem J.ishr_r (G : Cx g ow cc nL d mc ms) {x y : Int32} (hd : decode cc pc = .ok (.ishr, 1)) (kk : J g k z n M L (pc + 1) (.int (x >>> (y &&& 31)) :: st)) : J g k z n M L pc (.int y :: .int x :: st) := by
  intro H locs ls hR hS hl
  refine lv_ishr G.exec G.bytes hd ?_
  exact kk H locs ls hR hS hl
theorem J.iushr_r (G : Cx g ow cc nL d mc ms) {x y : Int32} (hd : decode cc pc = .ok (.iushr, 1)) (kk : J g k z n M L (pc + 1) (.int (x.toUInt32 >>> (y.toUInt32 &&& Int32.toUInt32 31)).toInt32 :: st)) : J g k z n M L pc (.int y :: .int x :: st) := by
  intro H locs ls hR hS hl
  refine lv_iushr G.exec G.bytes hd rfl ?_
  exact kk H locs ls hR hS hl
theorem J.i2l (G : Cx g ow cc nL d mc ms) {x : Int32} (hd : decode cc pc = .ok (.i2l, 1)) (kk : J g k z n M L (pc + 1) (.long x.toInt64 :: st)) : J g k z n M L pc (.int x :: st) := by
  intro H locs ls hR hS hl
  refine lv_i2l G.exec G.bytes hd rfl ?_
  exact kk H locs ls hR hS hl
theorem J.ladd (G : Cx g ow cc nL d mc ms) {x y : Int64} (hd : decode cc pc = .ok (.ladd, 1)) (kk : J g k z n M L (pc + 1) (.long (x + y) :: st)) : J g k z n M L pc (.long y :: .long x :: st) := by
  intro H locs ls hR hS hl
  refine lv_ladd G.exec G.bytes hd ?_
  exact kk H locs ls hR hS hl
theorem J.lmul (G : Cx g ow cc nL d mc ms) {x y : Int64} (hd : decode cc pc = .ok (.lmul, 1)) (kk : J g k z n M L (pc + 1) (.long (x * y) :: st)) : J g k z n M L pc (.long y :: .long x :: st) := by
  intro H locs ls hR hS hl
  refine lv_lmul G.exec G.bytes hd ?_
  exact kk H locs ls hR hS hl
theorem J.lconst (G : Cx g ow cc nL d mc ms) {b : Fin 2} (hd : decode cc pc = .ok (.lconst b, 1)) (kk : J g k z n M L (pc + 1) (.long (Int64.ofNat (b : Nat)) :: st)) : J g k z n M L pc (st) := by
  intro H locs ls hR hS hl
  refine lv_lconst G.exec G.bytes hd rfl ?_
  exact kk H locs ls hR hS hl
theorem J.dup (G : Cx g ow cc nL d mc ms) {v : Value} (hd : decode cc pc = .ok (.dup, 1)) (hv : v.category = 1) (kk : J g k z n M L (pc + 1) (v :: v :: st)) : J g k z n M L pc (v :: st) := by
  intro H locs ls hR hS hl
  refine lv_dup G.exec G.bytes hd hv ?_
  exact kk H locs ls hR hS hl
theorem J.dup2 (G : Cx g ow cc nL d mc ms) {v w : Value} (hd : decode cc pc = .ok (.dup2, 1)) (hv : v.category = 1) (hw : w.category = 1) (kk : J g k z n M L (pc + 1) (v :: w :: v :: w :: st)) : J g k z n M L pc (v :: w :: st) := by
  intro H locs ls hR hS hl
  refine lv_dup2_11 G.exec G.bytes hd hv hw ?_
  exact kk H locs ls hR hS hl
theorem J.pop (G : Cx g ow cc nL d mc ms) {v : Value} (hd : decode cc pc = .ok (.pop, 1)) (hv : v.category = 1) (kk : J g k z n M L (pc + 1) (st)) : J g k z n M L pc (v :: st) := by
  intro H locs ls hR hS hl
  refine lv_pop G.exec G.bytes hd hv ?_
  exact kk H locs ls hR hS hl
theorem J.goto (G : Cx g ow cc nL d mc ms) {off : Int} {tgt : Nat} (hd : decode cc pc = .ok (.goto off, 3)) (ht : (pc : Int) + off = (tgt : Int)) (kk : J g k z n M L tgt st) : J g k z n M L pc st := by
  intro H locs ls hR hS hl
  exact lv_goto G.exec G.bytes hd ht (kk H locs ls hR hS hl)
theorem J.icmp_eq (G : Cx g ow cc nL d mc ms) {a b : Int} {off : Int} {tgt : Nat} (hd : decode cc pc = .ok (.if_icmp .eq off, 3)) (ht : (pc : Int) + off = (tgt : Int)) (ha1 : -2147483648 ≤ a) (ha2 : a < 2147483648) (hb1 : -2147483648 ≤ b) (hb2 : b < 2147483648) (kt : a = b → J g k z n M L tgt st) (kf : a ≠ b → J g k z n M L (pc + 3) st) : J g k z n M L pc (.int (iI b) :: .int (iI a) :: st) := by
  intro H locs ls hR hS hl
  exact lv_icmp_eq G.exec G.bytes hd ht (fun h => kt ((iI_eq ha1 ha2 hb1 hb2).mp h) H locs ls hR hS hl) (fun h => kf (fun q => h ((iI_eq ha1 ha2 hb1 hb2).mpr q)) H locs ls hR hS hl)
theorem J.if_eq (G : Cx g ow cc nL d mc ms) {a : Int} {off : Int} {tgt : Nat} (hd : decode cc pc = .ok (.ifCond .eq off, 3)) (ht : (pc : Int) + off = (tgt : Int)) (ha1 : -2147483648 ≤ a) (ha2 : a < 2147483648) (kt : a = 0 → J g k z n M L tgt st) (kf : a ≠ 0 → J g k z n M L (pc + 3) st) : J g k z n M L pc (.int (iI a) :: st) := by
  have hb1 : -2147483648 ≤ (0 : Int) := by decide
  have hb2 : (0 : Int) < 2147483648 := by decide
  intro H locs ls hR hS hl
  refine lv_if_eq G.exec G.bytes hd ht (fun h => ?_) (fun h => ?_) <;> rw [← iI_0] at h
  · exact kt ((iI_eq ha1 ha2 hb1 hb2).mp h) H locs ls hR hS hl
  · exact kf (fun q => h ((iI_eq ha1 ha2 hb1 hb2).mpr q)) H locs ls hR hS hl
theorem J.icmp_ne (G : Cx g ow cc nL d mc ms) {a b : Int} {off : Int} {tgt : Nat} (hd : decode cc pc = .ok (.if_icmp .ne off, 3)) (ht : (pc : Int) + off = (tgt : Int)) (ha1 : -2147483648 ≤ a) (ha2 : a < 2147483648) (hb1 : -2147483648 ≤ b) (hb2 : b < 2147483648) (kt : a ≠ b → J g k z n M L tgt st) (kf : a = b → J g k z n M L (pc + 3) st) : J g k z n M L pc (.int (iI b) :: .int (iI a) :: st) := by
  intro H locs ls hR hS hl
  exact lv_icmp_ne G.exec G.bytes hd ht (fun h => kt (fun q => h ((iI_eq ha1 ha2 hb1 hb2).mpr q)) H locs ls hR hS hl) (fun h => kf ((iI_eq ha1 ha2 hb1 hb2).mp h) H locs ls hR hS hl)
theorem J.if_ne (G : Cx g ow cc nL d mc ms) {a : Int} {off : Int} {tgt : Nat} (hd : decode cc pc = .ok (.ifCond .ne off, 3)) (ht : (pc : Int) + off = (tgt : Int)) (ha1 : -2147483648 ≤ a) (ha2 : a < 2147483648) (kt : a ≠ 0 → J g k z n M L tgt st) (kf : a = 0 → J g k z n M L (pc + 3) st) : J g k z n M L pc (.int (iI a) :: st) := by
  have hb1 : -2147483648 ≤ (0 : Int) := by decide
  have hb2 : (0 : Int) < 2147483648 := by decide
  intro H locs ls hR hS hl
  refine lv_if_ne G.exec G.bytes hd ht (fun h => ?_) (fun h => ?_) <;> rw [← iI_0] at h
  · exact kt (fun q => h ((iI_eq ha1 ha2 hb1 hb2).mpr q)) H locs ls hR hS hl
  · exact kf ((iI_eq ha1 ha2 hb1 hb2).mp h) H locs ls hR hS hl
theorem J.icmp_lt (G : Cx g ow cc nL d mc ms) {a b : Int} {off : Int} {tgt : Nat} (hd : decode cc pc = .ok (.if_icmp .lt off, 3)) (ht : (pc : Int) + off = (tgt : Int)) (ha1 : -2147483648 ≤ a) (ha2 : a < 2147483648) (hb1 : -2147483648 ≤ b) (hb2 : b < 2147483648) (kt : a < b → J g k z n M L tgt st) (kf : b ≤ a → J g k z n M L (pc + 3) st) : J g k z n M L pc (.int (iI b) :: .int (iI a) :: st) := by
  intro H locs ls hR hS hl
  exact lv_icmp_lt G.exec G.bytes hd ht (fun h => kt ((iI_lt ha1 ha2 hb1 hb2).mp h) H locs ls hR hS hl) (fun h => kf (Int.not_lt.mp (fun q => h ((iI_lt ha1 ha2 hb1 hb2).mpr q))) H locs ls hR hS hl)
theorem J.if_lt (G : Cx g ow cc nL d mc ms) {a : Int} {off : Int} {tgt : Nat} (hd : decode cc pc = .ok (.ifCond .lt off, 3)) (ht : (pc : Int) + off = (tgt : Int)) (ha1 : -2147483648 ≤ a) (ha2 : a < 2147483648) (kt : a < 0 → J g k z n M L tgt st) (kf : 0 ≤ a → J g k z n M L (pc + 3) st) : J g k z n M L pc (.int (iI a) :: st) := by
  have hb1 : -2147483648 ≤ (0 : Int) := by decide
  have hb2 : (0 : Int) < 2147483648 := by decide
  intro H locs ls hR hS hl
  refine lv_if_lt G.exec G.bytes hd ht (fun h => ?_) (fun h => ?_) <;> rw [← iI_0] at h
  · exact kt ((iI_lt ha1 ha2 hb1 hb2).mp h) H locs ls hR hS hl
  · exact kf (Int.not_lt.mp (fun q => h ((iI_lt ha1 ha2 hb1 hb2).mpr q))) H locs ls hR hS hl
theorem J.icmp_ge (G : Cx g ow cc nL d mc ms) {a b : Int} {off : Int} {tgt : Nat} (hd : decode cc pc = .ok (.if_icmp .ge off, 3)) (ht : (pc : Int) + off = (tgt : Int)) (ha1 : -2147483648 ≤ a) (ha2 : a < 2147483648) (hb1 : -2147483648 ≤ b) (hb2 : b < 2147483648) (kt : b ≤ a → J g k z n M L tgt st) (kf : a < b → J g k z n M L (pc + 3) st) : J g k z n M L pc (.int (iI b) :: .int (iI a) :: st) := by
  intro H locs ls hR hS hl
  exact lv_icmp_ge G.exec G.bytes hd ht (fun h => kt ((iI_le hb1 hb2 ha1 ha2).mp h) H locs ls hR hS hl) (fun h => kf (Int.not_le.mp (fun q => h ((iI_le hb1 hb2 ha1 ha2).mpr q))) H locs ls hR hS hl)
theorem J.if_ge (G : Cx g ow cc nL d mc ms) {a : Int} {off : Int} {tgt : Nat} (hd : decode cc pc = .ok (.ifCond .ge off, 3)) (ht : (pc : Int) + off = (tgt : Int)) (ha1 : -2147483648 ≤ a) (ha2 : a < 2147483648) (kt : 0 ≤ a → J g k z n M L tgt st) (kf : a < 0 → J g k z n M L (pc + 3) st) : J g k z n M L pc (.int (iI a) :: st) := by
  have hb1 : -2147483648 ≤ (0 : Int) := by decide
  have hb2 : (0 : Int) < 2147483648 := by decide
  intro H locs ls hR hS hl
  refine lv_if_ge G.exec G.bytes hd ht (fun h => ?_) (fun h => ?_) <;> rw [← iI_0] at h
  · exact kt ((iI_le hb1 hb2 ha1 ha2).mp h) H locs ls hR hS hl
  · exact kf (Int.not_le.mp (fun q => h ((iI_le hb1 hb2 ha1 ha2).mpr q))) H locs ls hR hS hl
theorem J.icmp_gt (G : Cx g ow cc nL d mc ms) {a b : Int} {off : Int} {tgt : Nat} (hd : decode cc pc = .ok (.if_icmp .gt off, 3)) (ht : (pc : Int) + off = (tgt : Int)) (ha1 : -2147483648 ≤ a) (ha2 : a < 2147483648) (hb1 : -2147483648 ≤ b) (hb2 : b < 2147483648) (kt : b < a → J g k z n M L tgt st) (kf : a ≤ b → J g k z n M L (pc + 3) st) : J g k z n M L pc (.int (iI b) :: .int (iI a) :: st) := by
  intro H locs ls hR hS hl
  exact lv_icmp_gt G.exec G.bytes hd ht (fun h => kt ((iI_lt hb1 hb2 ha1 ha2).mp h) H locs ls hR hS hl) (fun h => kf (Int.not_lt.mp (fun q => h ((iI_lt hb1 hb2 ha1 ha2).mpr q))) H locs ls hR hS hl)
theorem J.if_gt (G : Cx g ow cc nL d mc ms) {a : Int} {off : Int} {tgt : Nat} (hd : decode cc pc = .ok (.ifCond .gt off, 3)) (ht : (pc : Int) + off = (tgt : Int)) (ha1 : -2147483648 ≤ a) (ha2 : a < 2147483648) (kt : 0 < a → J g k z n M L tgt st) (kf : a ≤ 0 → J g k z n M L (pc + 3) st) : J g k z n M L pc (.int (iI a) :: st) := by
  have hb1 : -2147483648 ≤ (0 : Int) := by decide
  have hb2 : (0 : Int) < 2147483648 := by decide
  intro H locs ls hR hS hl
  refine lv_if_gt G.exec G.bytes hd ht (fun h => ?_) (fun h => ?_) <;> rw [← iI_0] at h
  · exact kt ((iI_lt hb1 hb2 ha1 ha2).mp h) H locs ls hR hS hl
  · exact kf (Int.not_lt.mp (fun q => h ((iI_lt hb1 hb2 ha1 ha2).mpr q))) H locs ls hR hS hl
theorem J.icmp_le (G : Cx g ow cc nL d mc ms) {a b : Int} {off : Int} {tgt : Nat} (hd : decode cc pc = .ok (.if_icmp .le off, 3)) (ht : (pc : Int) + off = (tgt : Int)) (ha1 : -2147483648 ≤ a) (ha2 : a < 2147483648) (hb1 : -2147483648 ≤ b) (hb2 : b < 2147483648) (kt : a ≤ b → J g k z n M L tgt st) (kf : b < a → J g k z n M L (pc + 3) st) : J g k z n M L pc (.int (iI b) :: .int (iI a) :: st) := by
  intro H locs ls hR hS hl
  exact lv_icmp_le G.exec G.bytes hd ht (fun h => kt ((iI_le ha1 ha2 hb1 hb2).mp h) H locs ls hR hS hl) (fun h => kf (Int.not_le.mp (fun q => h ((iI_le ha1 ha2 hb1 hb2).mpr q))) H locs ls hR hS hl)
theorem J.if_le (G : Cx g ow cc nL d mc ms) {a : Int} {off : Int} {tgt : Nat} (hd : decode cc pc = .ok (.ifCond .le off, 3)) (ht : (pc : Int) + off = (tgt : Int)) (ha1 : -2147483648 ≤ a) (ha2 : a < 2147483648) (kt : a ≤ 0 → J g k z n M L tgt st) (kf : 0 < a → J g k z n M L (pc + 3) st) : J g k z n M L pc (.int (iI a) :: st) := by
  have hb1 : -2147483648 ≤ (0 : Int) := by decide
  have hb2 : (0 : Int) < 2147483648 := by decide
  intro H locs ls hR hS hl
  refine lv_if_le G.exec G.bytes hd ht (fun h => ?_) (fun h => ?_) <;> rw [← iI_0] at h
  · exact kt ((iI_le ha1 ha2 hb1 hb2).mp h) H locs ls hR hS hl
  · exact kf (Int.not_le.mp (fun q => h ((iI_le ha1 ha2 hb1 hb2).mpr q))) H locs ls hR hS hl
/-- a boolean -/
abbrev bI (b : Bool) : Int32 := if b then 1 else 0
theorem J.if_eq_b (G : Cx g ow cc nL d mc ms) {b : Bool} {off : Int} {tgt : Nat} (hd : decode cc pc = .ok (.ifCond .eq off, 3)) (ht : (pc : Int) + off = (tgt : Int)) (kt : b = false → J g k z n M L tgt st) (kf : b = true → J g k z n M L (pc + 3) st) : J g k z n M L pc (.int (bI b) :: st) := by
  intro H locs ls hR hS hl
  refine lv_if_eq G.exec G.bytes hd ht (fun h => ?_) (fun h => ?_)
  · cases b
    · exact kt rfl H locs ls hR hS hl
    · exact absurd h (by decide +kernel)
  · cases b
    · exact absurd rfl h
    · exact kf rfl H locs ls hR hS hl
theorem J.if_ne_b (G : Cx g ow cc nL d mc ms) {b : Bool} {off : Int} {tgt : Nat} (hd : decode cc pc = .ok (.ifCond .ne off, 3)) (ht : (pc : Int) + off = (tgt : Int)) (kt : b = true → J g k z n M L tgt st) (kf : b = false → J g k z n M L (pc + 3) st) : J g k z n M L pc (.int (bI b) :: st) := by
  intro H locs ls hR hS hl
  refine lv_if_ne G.exec G.bytes hd ht (fun h => ?_) (fun h => ?_)
  · cases b
    · exact absurd rfl h
    · exact kt rfl H locs ls hR hS hl
  · cases b
    · exact kf rfl H locs ls hR hS hl
    · exact absurd h (by decide +kernel)
theorem J.ldc (G : Cx g ow cc nL d mc ms) {index : Nat} {v : Int32} (hw : Cond.constant ow index v ∈ wG) (hd : decode cc pc = .ok (.ldc index, 2)) (kk : J g k z n M L (pc + 2) (.int v :: st)) : J g k z n M L pc st := by
  intro H locs ls hR hS hl
  exact lv_ldc G.exec G.bytes G.own (G.words _ hw) hd (kk H locs ls hR hS hl)
theorem J.ldcw (G : Cx g ow cc nL d mc ms) {index : Nat} {v : Int32} (hw : Cond.constant ow index v ∈ wG) (hd : decode cc pc = .ok (.ldc_w index, 3)) (kk : J g k z n M L (pc + 3) (.int v :: st)) : J g k z n M L pc st := by
  intro H locs ls hR hS hl
  exact lv_ldcw G.exec G.bytes G.own (G.words _ hw) hd (kk H locs ls hR hS hl)
theorem J.ldc2 (G : Cx g ow cc nL d mc ms) {index : Nat} {v : Int64} (hw : Cond.constantLong ow index v ∈ wG) (hd : decode cc pc = .ok (.ldc2_w index, 3)) (kk : J g k z n M L (pc + 3) (.long v :: st)) : J g k z n M L pc st := by
  intro H locs ls hR hS hl
  exact lv_ldc2 G.exec G.bytes G.own (G.words _ hw) hd (kk H locs ls hR hS hl)
theorem J.lcmp (G : Cx g ow cc nL d mc ms) {x y : Int64} (hd : decode cc pc = .ok (.lcmp, 1)) (kk : J g k z n M L (pc + 1) (.int (lg_cmp x y) :: st)) : J g k z n M L pc (.long y :: .long x :: st) := by
  intro H locs ls hR hS hl
  exact W.lcmp G.exec G.bytes hd (kk H locs ls hR hS hl)
end BASE3
