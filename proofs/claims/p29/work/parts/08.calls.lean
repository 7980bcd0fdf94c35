section CALL1
variable {g : GT} {ow : String} {cc : ByteArray} {nL d mc ms k z n pc : Nat} {M : AH} {L : List (Option Value)} {st : List Value}
def PcF (E : En) (lo : Nat) (av : List Value) (n : Nat) (M : AH) : Array Value → State → Prop := fun v U => v = av.toArray ∧ Rp E lo n M U.heap ∧ KW E lo U
def QcF (E : En) (lo : Nat) (post : Option Value → Nat → AH → Prop) : Array Value → State → Outcome → State → Prop := fun _ s0 oc t => ∃ r n' M', oc = .returned r ∧ post r n' M' ∧ Rp E lo n' M' t.heap ∧ va_F (fun q => lo ≤ q) s0 t
def XcF (E : En) (lo : Nat) (xpost : String → Nat → AH → Prop) : String → State → State → Prop := fun ex s0 t => ∃ n' M', xpost ex n' M' ∧ Rp E lo n' M' t.heap ∧ va_F (fun q => lo ≤ q) s0 t
abbrev rmF (d mc ms : Nat) : Room := { frames := d, cells := mc, slots := ms, locals := 40 * d }
/-- a method that returns: over any heap that holds M, with these arguments, it returns r, and the heap holds M' -/
def Fn (y : MethodName) (cc : ByteArray) (nL : Nat) (ret : Option FieldType) (d : Nat) (av : List Value) (n : Nat) (M : AH) (mc ms : Nat) (post : Option Value → Nat → AH → Prop) : Prop :=
  ∀ (l : Launch), l.stackTraces = false → ∀ (E : En) (lo : Nat), Met l y (.code y cc nL ret :: wG) (rmF d mc ms) (PcF E lo av n M) (QcF E lo post) mc ms (fun q => lo ≤ q)
/-- a method that returns or throws -/
def Fx (y : MethodName) (cc : ByteArray) (nL : Nat) (ret : Option FieldType) (d : Nat) (av : List Value) (n : Nat) (M : AH) (mc ms : Nat) (post : Option Value → Nat → AH → Prop) (xpost : String → Nat → AH → Prop) : Prop :=
  ∀ (l : Launch), l.stackTraces = false → ∀ (E : En) (lo : Nat), vx_Met l y (.code y cc nL ret :: wG) (rmF d mc ms) (PcF E lo av n M) (QcF E lo post) (XcF E lo xpost) mc ms (fun q => lo ≤ q)
/-- how a body may end: by a return -/
def Ro (g : GT) (ret : Option FieldType) (mc ms : Nat) (post : Option Value → Nat → AH → Prop) : Prop :=
  (gM g).sig.returnType = ret ∧ ∀ (H : Heap) (locs : List Loc) (k z : Nat) (F : JFrame), W (gp g) (gl g) (ge g) (gR g) (gs g) (gm g) (ga g) (gb g) (gM g) (gc g) H locs k z (MQ (gb g) (QcF (gE g) (glo g) post) (ga g) (gs g) mc ms (fun q => glo g ≤ q)) F → W (gp g) (gl g) (ge g) (gR g) (gs g) (gm g) (ga g) (gb g) (gM g) (gc g) H locs k z (gQ g) F
theorem PcF.blind {E : En} {lo : Nat} {av : List Value} {n : Nat} {M : AH} : FrameBlind (PcF E lo av n M) := fun _ _ _ _ h => ⟨h.1, h.2.1, KW.blind h.2.2⟩
theorem Fn.of {y : MethodName} {cc : ByteArray} {nL : Nat} {ret : Option FieldType} {d : Nat} {av : List Value} {n : Nat} {M : AH} {mc ms : Nat} {post : Option Value → Nat → AH → Prop} (hy : plainName y.cls = true) (L0 : List (Option Value)) (hL : asl 0 L0 = lv_args 0 av) (hlen : L0.length = nL) (hsl : (lg_sl av).length ≤ nL) (body : ∀ g : GT, Cx g y.cls cc nL d mc ms → (gM g).name = y.name → Ro g ret mc ms post → J g 0 0 n M L0 0 []) : Fn y cc nL ret d av n M mc ms post := by
  intro l hl E lo
  refine Met.ofW (cc := cc) (maxL := nL) (ret := ret) hy rfl ?_
  intro p e s m args below meth c s₁ B hml hv
  obtain ⟨rfl, hR, hK⟩ := hv
  rw [lg_entry_eq]
  have hts := atoms_spec (ws := .code y cc nL ret :: wG) B.pre
  refine body (p, l, e, (headSpec (.code y cc nL ret :: wG) (rmF d mc ms)).room, s, m, av.toArray, below, meth, c, MQ below (QcF E lo post) av.toArray s mc ms (fun q => lo ≤ q), E, lo) ⟨B.exec, B.bytes, hml, findClass_of_methodNamed B.named, fun w h => hts w (List.mem_cons_of_mem _ h), hK, B.notSynchronized, Nat.le_refl _, Nat.le_refl _, Nat.le_refl _, Nat.le_refl _, hl, by rw [hR.1]; exact hR.2.1⟩ (name_of_methodNamed B.named B.method).1 ⟨B.returns, fun _ _ _ _ _ h => h⟩ s.heap [] _ hR va_S.rf ?_
  unfold LH
  rw [hL, hlen]
  exact lv_entry av hsl
theorem Fx.of {y : MethodName} {cc : ByteArray} {nL : Nat} {ret : Option FieldType} {d : Nat} {av : List Value} {n : Nat} {M : AH} {mc ms : Nat} {post : Option Value → Nat → AH → Prop} {xpost : String → Nat → AH → Prop} (hy : plainName y.cls = true) (L0 : List (Option Value)) (hL : asl 0 L0 = lv_args 0 av) (hlen : L0.length = nL) (hsl : (lg_sl av).length ≤ nL) (body : ∀ g : GT, Cx g y.cls cc nL d mc ms → Ro g ret mc ms post → gQ g = vx_MQ (gb g) (QcF (gE g) (glo g) post) (XcF (gE g) (glo g) xpost) (ga g) (gs g) mc ms (fun q => glo g ≤ q) → (∀ x ∈ (gc g).exceptionTable.toList, False) → J g 0 0 n M L0 0 []) : Fx y cc nL ret d av n M mc ms post xpost := by
  intro l hl E lo
  refine vx_ofW (cc := cc) (maxL := nL) (ret := ret) hy rfl ?_
  intro p e s m args below meth c s₁ B hml htab hv
  obtain ⟨rfl, hR, hK⟩ := hv
  rw [lg_entry_eq]
  have hts := atoms_spec (ws := .code y cc nL ret :: wG) B.pre
  refine body (p, l, e, (headSpec (.code y cc nL ret :: wG) (rmF d mc ms)).room, s, m, av.toArray, below, meth, c, vx_MQ below (QcF E lo post) (XcF E lo xpost) av.toArray s mc ms (fun q => lo ≤ q), E, lo) ⟨B.exec, B.bytes, hml, findClass_of_methodNamed B.named, fun w h => hts w (List.mem_cons_of_mem _ h), hK, B.notSynchronized, Nat.le_refl _, Nat.le_refl _, Nat.le_refl _, Nat.le_refl _, hl, by rw [hR.1]; exact hR.2.1⟩ ⟨B.returns, fun _ _ _ _ _ h => vx_ret h⟩ rfl htab s.heap [] _ hR va_S.rf ?_
  unfold LH
  rw [hL, hlen]
  exact lv_entry av hsl
theorem Fn.post {y : MethodName} {cc : ByteArray} {nL : Nat} {ret : Option FieldType} {d : Nat} {av : List Value} {n : Nat} {M : AH} {mc ms : Nat} {post post' : Option Value → Nat → AH → Prop} (h : Fn y cc nL ret d av n M mc ms post) (hp : ∀ r n' M', post r n' M' → post' r n' M') : Fn y cc nL ret d av n M mc ms post' := by
  intro l hl E lo p e h1 h2 h3 s m args below hf hS hP hK
  obtain ⟨i, o, a1, a2, a3, ⟨r, n', M', b1, b2, b3⟩, a5⟩ := h l hl E lo p e h1 h2 h3 s m args below hf hS hP hK
  exact ⟨i, o, a1, a2, a3, ⟨r, n', M', b1, hp _ _ _ b2, b3⟩, a5⟩
/-! ends -/
theorem J.vret (G : Cx g ow cc nL d mc ms) {post : Option Value → Nat → AH → Prop} (hO : Ro g none mc ms post) (hd : decode cc pc = .ok (.return_, 1)) (hk : k ≤ mc) (hz : z ≤ ms) (hp : post none n M) : J g k z n M L pc [] := by
  intro H locs ls hR hS hl
  refine hO.2 _ _ _ _ _ (W.widen hk hz ?_)
  exact W.vret G.exec G.bytes hO.1 (fun t ht hW => ⟨none, n, M, rfl, hp, by rw [ht]; exact hR, hS.F ht⟩) hS.2.2 hd G.locks
theorem J.iret (G : Cx g ow cc nL d mc ms) {post : Option Value → Nat → AH → Prop} {x : Int32} (hO : Ro g (some .int) mc ms post) (hd : decode cc pc = .ok (.ireturn, 1)) (hk : k ≤ mc) (hz : z ≤ ms) (hp : post (some (.int x)) n M) : J g k z n M L pc [.int x] := by
  intro H locs ls hR hS hl
  refine hO.2 _ _ _ _ _ (W.widen hk hz ?_)
  exact W.iret G.exec G.bytes hO.1 (fun t ht hW => ⟨_, n, M, rfl, hp, by rw [ht]; exact hR, hS.F ht⟩) hS.2.2 hd G.locks
theorem bI_nar (b : Bool) : narrow .boolean (.int (bI b)) = .int (bI b) := by cases b <;> decide +kernel
theorem J.zret (G : Cx g ow cc nL d mc ms) {post : Option Value → Nat → AH → Prop} {b : Bool} (hO : Ro g (some .boolean) mc ms post) (hd : decode cc pc = .ok (.ireturn, 1)) (hk : k ≤ mc) (hz : z ≤ ms) (hp : post (some (.int (bI b))) n M) : J g k z n M L pc [.int (bI b)] := by
  intro H locs ls hR hS hl
  refine hO.2 _ _ _ _ _ (W.widen hk hz ?_)
  exact W.zret G.exec G.bytes hO.1 (bI_nar b) (fun t ht hW => ⟨_, n, M, rfl, hp, by rw [ht]; exact hR, hS.F ht⟩) hS.2.2 hd G.locks
theorem J.lret (G : Cx g ow cc nL d mc ms) {post : Option Value → Nat → AH → Prop} {x : Int64} (hO : Ro g (some .long) mc ms post) (hd : decode cc pc = .ok (.lreturn, 1)) (hk : k ≤ mc) (hz : z ≤ ms) (hp : post (some (.long x)) n M) : J g k z n M L pc [.long x] := by
  intro H locs ls hR hS hl
  refine hO.2 _ _ _ _ _ (W.widen hk hz ?_)
  exact W.lret G.exec G.bytes hO.1 (fun t ht hW => ⟨_, n, M, rfl, hp, by rw [ht]; exact hR, hS.F ht⟩) hS.2.2 hd G.locks
theorem J.dret (G : Cx g ow cc nL d mc ms) {post : Option Value → Nat → AH → Prop} {x : UInt64} (hO : Ro g (some .double) mc ms post) (hd : decode cc pc = .ok (.dreturn, 1)) (hk : k ≤ mc) (hz : z ≤ ms) (hp : post (some (.double x)) n M) : J g k z n M L pc [.double x] := by
  intro H locs ls hR hS hl
  refine hO.2 _ _ _ _ _ (W.widen hk hz ?_)
  exact W.dret G.exec G.bytes hO.1 (fun t ht hW => ⟨_, n, M, rfl, hp, by rw [ht]; exact hR, hS.F ht⟩) hS.2.2 hd G.locks
theorem J.aret (G : Cx g ow cc nL d mc ms) {post : Option Value → Nat → AH → Prop} {a : Nat} {rt : FieldType} (hrt : (∃ n, rt = .object n) ∨ ∃ t, rt = .array t) (hO : Ro g (some rt) mc ms post) (hd : decode cc pc = .ok (.areturn, 1)) (hk : k ≤ mc) (hz : z ≤ ms) (hp : post (some (.ref a)) n M) : J g k z n M L pc [.ref a] := by
  intro H locs ls hR hS hl
  refine hO.2 _ _ _ _ _ (W.widen hk hz ?_)
  exact W.aret G.exec G.bytes hO.1 hrt (Or.inr ⟨a, rfl⟩) (fun t ht hW => ⟨_, n, M, rfl, hp, by rw [ht]; exact hR, hS.F ht⟩) hS.2.2 hd G.locks
/-! calls -/
/-- behind a call: the callee's heap, seen from the caller's start -/
theorem va_S.behind {A : Nat → Prop} {H0 H : Heap} {locs L : List Loc} {st₀ t : State} (hS : va_S A H0 H locs) (h0 : st₀.heap = H) (hF : va_F A st₀ t) (hL : ∀ q ∈ L, A q.base) : va_S A H0 t.heap (locs ++ L) := by
  obtain ⟨hz, hk⟩ := hF
  rw [h0] at hz hk
  refine ⟨Nat.le_trans hS.1 hz, fun q h1 h2 => by rw [hk q (Nat.lt_of_lt_of_le h1 hS.1) h2]; exact hS.2.1 q h1 h2, fun q hq => ?_⟩
  rcases List.mem_append.mp hq with h | h
  · exact hS.2.2 q h
  · exact hL q h
theorem J.ofRun {mc' ms' : Nat} {rest st0 : List Value} {a : Array Value} {post : Option Value → Nat → AH → Prop} (hr : ∀ (H : Heap) (locs : List Loc) (ls : Array Slot), Rp (gE g) (glo g) n M H → va_S (fun q => glo g ≤ q) (gs g).heap H locs → LH ls L → va_Run (gp g) (gl g) (ge g) (gR g) (gs g) (gm g) (ga g) (gb g) (gM g) (gc g) H locs k z mc' ms' (F0 (gm g) pc ls st0) rest (QcF (gE g) (glo g) post a) (fun q => glo g ≤ q))
    (kk : ∀ r n' M', post r n' M' → J g (k + mc') (z + ms') n' M' L (pc + 3) (r.toList ++ rest)) : J g k z n M L pc st0 := by
  intro H locs ls hR hS hl T hT X
  obtain ⟨v, st₀, t, T', L9, h0, X', hL, e1, e2, ⟨r, n', M', hv, hp, hR', hF⟩, stp⟩ := hr H locs ls hR hS hl T hT X
  cases hv
  have hS' : va_S (fun q => glo g ≤ q) (gs g).heap T'.heap (locs ++ L9) := by rw [e1]; exact hS.behind h0 hF hL
  obtain ⟨t2, a1, b1⟩ := kk v n' M' hp T'.heap (locs ++ L9) ls (by rw [e1]; exact hR') hS' hl T' rfl X'
  exact ⟨t2, stp t2 a1, b1⟩
/-- what a call asks of room -/
abbrev RmOk (d d' nL' k mc' mc z ms' ms : Nat) : Prop := d' + 1 ≤ d ∧ nL' ≤ 21 ∧ k + mc' ≤ mc ∧ z + ms' ≤ ms
theorem J.callBx (G : Cx g ow cc nL d mc ms) {y : MethodName} {yc : ByteArray} {yn : Nat} {yr : Option FieldType} {d' mc' ms' idx na : Nat} (hwl : Cond.methodLink ow idx y ∈ wG) (hwc : Cond.code y yc yn yr ∈ wG) (hwi : Cond.initialized y.cls ∈ wG) (hq : y.cls ≠ "java/lang/invoke/MethodHandle" ∧ y.cls ≠ "java/lang/invoke/VarHandle" ∧ (parseMethodDescriptor y.desc).map (fun d => d.parameters.length) = some na) (hroom : RmOk d d' yn k mc' mc z ms' ms) : CallB (gR g) (gs g) (ga g) ow idx y yc yn yr (.code y yc yn yr :: wG) (rmF d' mc' ms') mc' ms' na := by
  refine callB_of (ws' := wG) (Ts := wG) na G.words (fun w h => ?_) rfl rfl rfl (G.words _ hwi) (G.words _ hwl) hq ⟨Nat.le_trans hroom.1 G.frames, Nat.le_trans ?_ G.locals⟩
  · rcases List.mem_cons.mp h with h | h
    · rw [h]; exact ⟨hwc, wG_ok _ hwc⟩
    · exact ⟨h, wG_ok _ h⟩
  · show 8 + (yn + 11) + 40 * d' ≤ 40 * d
    have h1 := hroom.1
    have h2 := hroom.2.1
    omega
theorem J.preS {av : List Value} {H : Heap} {locs : List Loc} (G : Cx g ow cc nL d mc ms) (hR : Rp (gE g) (glo g) n M H) (hS : va_S (fun q => glo g ≤ q) (gs g).heap H locs) : PreS (gs g) H (PcF (gE g) (glo g) av n M) av := ⟨PcF.blind, fun U hU hW => ⟨rfl, by rw [hU]; exact hR, G.kw.to hW (by rw [hU]; exact hS)⟩⟩
theorem J.callS (G : Cx g ow cc nL d mc ms) {y : MethodName} {yc : ByteArray} {yn : Nat} {yr : Option FieldType} {d' mc' ms' idx na : Nat} {As : List Value} {post : Option Value → Nat → AH → Prop} (hF : Fn y yc yn yr d' As n M mc' ms' post) (hwl : Cond.methodLink ow idx y ∈ wG) (hws : Cond.static y ∈ wG) (hwc : Cond.code y yc yn yr ∈ wG) (hwi : Cond.initialized y.cls ∈ wG) (hq : y.cls ≠ "java/lang/invoke/MethodHandle" ∧ y.cls ≠ "java/lang/invoke/VarHandle" ∧ (parseMethodDescriptor y.desc).map (fun d => d.parameters.length) = some na) (hd : decode cc pc = .ok (.invokestatic idx, 3)) (hlen : As.length = na) (hst : (st.map fun v => v.category).sum ≤ 8) (hnL : L.length = nL) (hroom : RmOk d d' yn k mc' mc z ms' ms)
    (kk : ∀ r n' M', post r n' M' → J g (k + mc') (z + ms') n' M' L (pc + 3) (r.toList ++ st)) : J g k z n M L pc (As.reverse ++ st) := by
  refine J.ofRun (a := As.toArray) (fun H locs ls hR hS hl => ?_) kk
  exact va_runS (As := As) (rest := st) ⟨G.exec, G.bytes, G.maxl, G.own, G.words⟩ (hF (gl g) G.notr (gE g) (glo g)) ⟨J.callBx G hwl hwc hwi hq hroom, G.words _ hws⟩ (J.preS G hR hS) rfl hlen (hl.1.trans hnL) rfl (lv_room hst) hd ⟨Nat.le_trans hroom.2.2.1 G.cells, Nat.le_trans hroom.2.2.2 G.slots⟩
theorem J.callV (G : Cx g ow cc nL d mc ms) {C : String} {T : u_T} {N ci b : Nat} {fs : List Value} {y : MethodName} {yc : ByteArray} {yn : Nat} {yr : Option FieldType} {d' mc' ms' idx na : Nat} {As : List Value} {post : Option Value → Nat → AH → Prop} (hF : Fn y yc yn yr d' (.ref b :: As) n M mc' ms' post) (hwl : Cond.methodLink ow idx y ∈ wG) (hwn : Cond.instanceMethod y ∈ wG) (hwv : Cond.selects C y y ∈ wG) (hwc : Cond.code y yc yn yr ∈ wG) (hwi : Cond.initialized y.cls ∈ wG) (hq : y.cls ≠ "java/lang/invoke/MethodHandle" ∧ y.cls ≠ "java/lang/invoke/VarHandle" ∧ (parseMethodDescriptor y.desc).map (fun d => d.parameters.length) = some na) (hd : decode cc pc = .ok (.invokevirtual idx, 3)) (hM : M b = some (cO ci fs)) (hc : vwCl[ci]? = some (C, T, N)) (hlen : As.length = na) (hst : (st.map fun v => v.category).sum ≤ 8) (hnL : L.length = nL) (hroom : RmOk d d' yn k mc' mc z ms' ms)
    (kk : ∀ r n' M', post r n' M' → J g (k + mc') (z + ms') n' M' L (pc + 3) (r.toList ++ st)) : J g k z n M L pc (As.reverse ++ .ref b :: st) := by
  refine J.ofRun (a := (Value.ref b :: As).toArray) (fun H locs ls hR hS hl => ?_) kk
  have hp := J.preS (av := .ref b :: As) G hR hS
  exact va_runV (C := C) (As := As) (rest := st) ⟨G.exec, G.bytes, G.maxl, G.own, G.words⟩ (hF (gl g) G.notr (gE g) (glo g)) ⟨J.callBx G hwl hwc hwi hq hroom, G.words _ hwn, G.words _ hwv⟩ ⟨hp.1, va_recv (q0 := 0) (fs := fs) G.kw.1 (P1 (hR.2.2 b _ hM).2.2) hc rfl, hp.2⟩ rfl hlen (hl.1.trans hnL) rfl (lv_room hst) hd ⟨Nat.le_trans hroom.2.2.1 G.cells, Nat.le_trans hroom.2.2.2 G.slots⟩
theorem J.callI (G : Cx g ow cc nL d mc ms) {b : Nat} {y : MethodName} {yc : ByteArray} {yn : Nat} {d' mc' ms' idx na : Nat} {As : List Value} {post : Option Value → Nat → AH → Prop} (hF : Fn y yc yn none d' (.ref b :: As) n M mc' ms' post) (hwl : Cond.methodLink ow idx y ∈ wG) (hwn : Cond.instanceMethod y ∈ wG) (hwc : Cond.code y yc yn none ∈ wG) (hwi : Cond.initialized y.cls ∈ wG) (hyn : y.name = "<init>") (hq : y.cls ≠ "java/lang/invoke/MethodHandle" ∧ y.cls ≠ "java/lang/invoke/VarHandle" ∧ (parseMethodDescriptor y.desc).map (fun d => d.parameters.length) = some na) (hd : decode cc pc = .ok (.invokespecial idx, 3)) (hlen : As.length = na) (hst : (st.map fun v => v.category).sum ≤ 8) (hnL : L.length = nL) (hroom : RmOk d d' yn k mc' mc z ms' ms)
    (kk : ∀ r n' M', post r n' M' → J g (k + mc') (z + ms') n' M' L (pc + 3) (r.toList ++ st)) : J g k z n M L pc (As.reverse ++ .ref b :: st) := by
  refine J.ofRun (a := (Value.ref b :: As).toArray) (fun H locs ls hR hS hl => ?_) kk
  exact va_runI (As := As) (rest := st) ⟨G.exec, G.bytes, G.maxl, G.own, G.words⟩ (hF (gl g) G.notr (gE g) (glo g)) ⟨J.callBx G hwl hwc hwi hq hroom, hyn, G.words _ hwn⟩ (J.preS G hR hS) rfl hlen (hl.1.trans hnL) rfl (lv_room hst) hd ⟨Nat.le_trans hroom.2.2.1 G.cells, Nat.le_trans hroom.2.2.2 G.slots⟩
theorem J.callNx (G : Cx g ow cc nL d mc ms) {y : MethodName} {yc : ByteArray} {yn : Nat} {yr : Option FieldType} {d' mc' ms' idx na : Nat} {host : String} (hwl : Cond.methodLinkNest ow idx y host ∈ nwG) (hwc : Cond.code y yc yn yr ∈ wG) (hwi : Cond.initialized y.cls ∈ wG) (hq : y.cls ≠ "java/lang/invoke/MethodHandle" ∧ y.cls ≠ "java/lang/invoke/VarHandle" ∧ (parseMethodDescriptor y.desc).map (fun d => d.parameters.length) = some na) (hroom : RmOk d d' yn k mc' mc z ms' ms) : va_CN (gR g) (gs g) (ga g) ow idx y host yc yn yr (.code y yc yn yr :: wG) (rmF d' mc' ms') mc' ms' na := by
  refine va_cnB (ws' := wG) (Ts := wG) na G.words (fun w h => ?_) rfl rfl rfl (G.kw.2.1 _ _ _ _ hwl) (G.words _ hwi) hq ⟨Nat.le_trans hroom.1 G.frames, Nat.le_trans ?_ G.locals⟩
  · rcases List.mem_cons.mp h with h | h
    · rw [h]; exact ⟨hwc, wG_ok _ hwc⟩
    · exact ⟨h, wG_ok _ h⟩
  · show 8 + (yn + 11) + 40 * d' ≤ 40 * d
    have h1 := hroom.1
    have h2 := hroom.2.1
    omega
theorem J.callSN (G : Cx g ow cc nL d mc ms) {y : MethodName} {yc : ByteArray} {yn : Nat} {yr : Option FieldType} {d' mc' ms' idx na : Nat} {host : String} {As : List Value} {post : Option Value → Nat → AH → Prop} (hF : Fn y yc yn yr d' As n M mc' ms' post) (hwl : Cond.methodLinkNest ow idx y host ∈ nwG) (hws : Cond.static y ∈ wG) (hwc : Cond.code y yc yn yr ∈ wG) (hwi : Cond.initialized y.cls ∈ wG) (hq : y.cls ≠ "java/lang/invoke/MethodHandle" ∧ y.cls ≠ "java/lang/invoke/VarHandle" ∧ (parseMethodDescriptor y.desc).map (fun d => d.parameters.length) = some na) (hd : decode cc pc = .ok (.invokestatic idx, 3)) (hlen : As.length = na) (hst : (st.map fun v => v.category).sum ≤ 8) (hnL : L.length = nL) (hroom : RmOk d d' yn k mc' mc z ms' ms)
    (kk : ∀ r n' M', post r n' M' → J g (k + mc') (z + ms') n' M' L (pc + 3) (r.toList ++ st)) : J g k z n M L pc (As.reverse ++ st) := by
  refine J.ofRun (a := As.toArray) (fun H locs ls hR hS hl => ?_) kk
  exact va_runSN (As := As) (rest := st) ⟨G.exec, G.bytes, G.maxl, G.own, G.words⟩ (hF (gl g) G.notr (gE g) (glo g)) ⟨J.callNx G hwl hwc hwi hq hroom, G.words _ hws, trivial⟩ (J.preS G hR hS) rfl hlen (hl.1.trans hnL) rfl (lv_room hst) hd ⟨Nat.le_trans hroom.2.2.1 G.cells, Nat.le_trans hroom.2.2.2 G.slots⟩
theorem J.callIN (G : Cx g ow cc nL d mc ms) {b : Nat} {y : MethodName} {yc : ByteArray} {yn : Nat} {d' mc' ms' idx na : Nat} {host : String} {As : List Value} {post : Option Value → Nat → AH → Prop} (hF : Fn y yc yn none d' (.ref b :: As) n M mc' ms' post) (hwl : Cond.methodLinkNest ow idx y host ∈ nwG) (hwn : Cond.instanceMethod y ∈ wG) (hwc : Cond.code y yc yn none ∈ wG) (hwi : Cond.initialized y.cls ∈ wG) (hyn : y.name = "<init>") (hq : y.cls ≠ "java/lang/invoke/MethodHandle" ∧ y.cls ≠ "java/lang/invoke/VarHandle" ∧ (parseMethodDescriptor y.desc).map (fun d => d.parameters.length) = some na) (hd : decode cc pc = .ok (.invokespecial idx, 3)) (hlen : As.length = na) (hst : (st.map fun v => v.category).sum ≤ 8) (hnL : L.length = nL) (hroom : RmOk d d' yn k mc' mc z ms' ms)
    (kk : ∀ r n' M', post r n' M' → J g (k + mc') (z + ms') n' M' L (pc + 3) (r.toList ++ st)) : J g k z n M L pc (As.reverse ++ .ref b :: st) := by
  refine J.ofRun (a := (Value.ref b :: As).toArray) (fun H locs ls hR hS hl => ?_) kk
  exact va_runIN (As := As) (rest := st) ⟨G.exec, G.bytes, G.maxl, G.own, G.words⟩ (hF (gl g) G.notr (gE g) (glo g)) ⟨J.callNx G hwl hwc hwi hq hroom, hyn, G.words _ hwn⟩ (J.preS G hR hS) rfl hlen (hl.1.trans hnL) rfl (lv_room hst) hd ⟨Nat.le_trans hroom.2.2.1 G.cells, Nat.le_trans hroom.2.2.2 G.slots⟩
end CALL1
