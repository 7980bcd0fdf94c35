section THROW2
/-- an exception stands at pc: q is thrown, of class E -/
def JX (g : GT) (k z n : Nat) (M : AH) (L : List (Option Value)) (pc : Nat) (rest : List Value) (E : String) : Prop :=
  ∀ (H : Heap) (locs : List Loc) (ls : Array Slot) (q : Addr) (ce : Cell), Rp (gE g) (glo g) n M H → va_S (fun q => glo g ≤ q) (gs g).heap H locs → LH ls L → H[q]? = some ce → ce.vm = .none → (gs g).vm.findClass E = some ce.cls → vx_W (gp g) (gl g) (ge g) (gR g) (gs g) (gm g) (ga g) (gb g) (gM g) (gc g) H locs k z (gQ g) (F0 (gm g) pc ls rest) q
variable {g : GT} {ow : String} {cc : ByteArray} {nL d mc ms k z n pc : Nat} {M : AH} {L : List (Option Value)} {st : List Value}
theorem J.ofRunX {mc' ms' : Nat} {rest st0 : List Value} {a : Array Value} {post : Option Value → Nat → AH → Prop} {xpost : String → Nat → AH → Prop} (hr : ∀ (H : Heap) (locs : List Loc) (ls : Array Slot), Rp (gE g) (glo g) n M H → va_S (fun q => glo g ≤ q) (gs g).heap H locs → LH ls L → vx_Run (gp g) (gl g) (ge g) (gR g) (gs g) (gm g) (ga g) (gb g) (gM g) (gc g) H locs k z mc' ms' (F0 (gm g) pc ls st0) rest (QcF (gE g) (glo g) post a) (XcF (gE g) (glo g) xpost) (fun q => glo g ≤ q))
    (kx : ∀ E n' M', xpost E n' M' → JX g (k + mc') (z + ms') n' M' L pc rest E)
    (kk : ∀ r n' M', post r n' M' → J g (k + mc') (z + ms') n' M' L (pc + 3) (r.toList ++ rest)) : J g k z n M L pc st0 := by
  intro H locs ls hR hS hl T hT X
  rcases hr H locs ls hR hS hl T hT X with ⟨v, st₀, t, T', L9, h0, X', hL, e1, e2, ⟨r, n', M', hv, hp, hR', hF⟩, stp⟩ | ⟨q, st₀, t, T', L9, E, ce, h0, X', hL, e1, e2, ⟨n', M', hp, hR', hF⟩, hce, hcv, hcl, stp⟩
  · cases hv
    have hS' : va_S (fun q => glo g ≤ q) (gs g).heap T'.heap (locs ++ L9) := by rw [e1]; exact hS.behind h0 hF hL
    obtain ⟨t2, a1, b1⟩ := kk v n' M' hp T'.heap (locs ++ L9) ls (by rw [e1]; exact hR') hS' hl T' rfl X'
    exact ⟨t2, stp t2 a1, b1⟩
  · have hS' : va_S (fun q => glo g ≤ q) (gs g).heap T'.heap (locs ++ L9) := by rw [e1]; exact hS.behind h0 hF hL
    obtain ⟨t2, a1, b1⟩ := kx E n' M' hp T'.heap (locs ++ L9) ls q ce (by rw [e1]; exact hR') hS' hl (by rw [e1]; exact hce) hcv hcl T' rfl X'
    exact ⟨t2, stp.trans a1, b1⟩
/-- it goes on to the caller -/
theorem JX.out (G : Cx g ow cc nL d mc ms) {post : Option Value → Nat → AH → Prop} {xpost : String → Nat → AH → Prop} (hT : gQ g = vx_MQ (gb g) (QcF (gE g) (glo g) post) (XcF (gE g) (glo g) xpost) (ga g) (gs g) mc ms (fun q => glo g ≤ q)) (htab : ∀ x ∈ (gc g).exceptionTable.toList, False) {E : String} {rest : List Value} (hk : k ≤ mc) (hz : z ≤ ms) (hx : xpost E n M) : JX g k z n M L pc rest E := by
  intro H locs ls q ce hR hS hl hce hcv hcl
  rw [hT]
  exact vx_out (fun x h => (htab x h).elim) G.locks hce hcv hcl (fun t ht _ => ⟨n, M, hx, by rw [ht]; exact hR, hS.F ht⟩) hS.2.2 hk hz
theorem J.callXS (G : Cx g ow cc nL d mc ms) {y : MethodName} {yc : ByteArray} {yn : Nat} {yr : Option FieldType} {d' mc' ms' idx na : Nat} {As : List Value} {post : Option Value → Nat → AH → Prop} {xpost : String → Nat → AH → Prop} (hF : Fx y yc yn yr d' As n M mc' ms' post xpost) (hwl : Cond.methodLink ow idx y ∈ wG) (hws : Cond.static y ∈ wG) (hwc : Cond.code y yc yn yr ∈ wG) (hwi : Cond.initialized y.cls ∈ wG) (hq : y.cls ≠ "java/lang/invoke/MethodHandle" ∧ y.cls ≠ "java/lang/invoke/VarHandle" ∧ (parseMethodDescriptor y.desc).map (fun d => d.parameters.length) = some na) (hd : decode cc pc = .ok (.invokestatic idx, 3)) (hlen : As.length = na) (hst : (st.map fun v => v.category).sum ≤ 8) (hnL : L.length = nL) (hroom : RmOk d d' yn k mc' mc z ms' ms)
    (kx : ∀ E n' M', xpost E n' M' → JX g (k + mc') (z + ms') n' M' L pc st E)
    (kk : ∀ r n' M', post r n' M' → J g (k + mc') (z + ms') n' M' L (pc + 3) (r.toList ++ st)) : J g k z n M L pc (As.reverse ++ st) := by
  refine J.ofRunX (a := As.toArray) (fun H locs ls hR hS hl => ?_) kx kk
  exact vx_runS (As := As) (rest := st) ⟨G.exec, G.bytes, G.maxl, G.own, G.words⟩ (hF (gl g) G.notr (gE g) (glo g)) ⟨J.callBx G hwl hwc hwi hq hroom, G.words _ hws⟩ (J.preS G hR hS) rfl hlen (hl.1.trans hnL) rfl (lv_room hst) hd ⟨Nat.le_trans hroom.2.2.1 G.cells, Nat.le_trans hroom.2.2.2 G.slots⟩
theorem J.callXV (G : Cx g ow cc nL d mc ms) {C : String} {T : u_T} {N ci b : Nat} {fs : List Value} {y : MethodName} {yc : ByteArray} {yn : Nat} {yr : Option FieldType} {d' mc' ms' idx na : Nat} {As : List Value} {post : Option Value → Nat → AH → Prop} {xpost : String → Nat → AH → Prop} (hF : Fx y yc yn yr d' (.ref b :: As) n M mc' ms' post xpost) (hwl : Cond.methodLink ow idx y ∈ wG) (hwn : Cond.instanceMethod y ∈ wG) (hwv : Cond.selects C y y ∈ wG) (hwc : Cond.code y yc yn yr ∈ wG) (hwi : Cond.initialized y.cls ∈ wG) (hq : y.cls ≠ "java/lang/invoke/MethodHandle" ∧ y.cls ≠ "java/lang/invoke/VarHandle" ∧ (parseMethodDescriptor y.desc).map (fun d => d.parameters.length) = some na) (hd : decode cc pc = .ok (.invokevirtual idx, 3)) (hM : M b = some (cO ci fs)) (hc : vwCl[ci]? = some (C, T, N)) (hlen : As.length = na) (hst : (st.map fun v => v.category).sum ≤ 8) (hnL : L.length = nL) (hroom : RmOk d d' yn k mc' mc z ms' ms)
    (kx : ∀ E n' M', xpost E n' M' → JX g (k + mc') (z + ms') n' M' L pc st E)
    (kk : ∀ r n' M', post r n' M' → J g (k + mc') (z + ms') n' M' L (pc + 3) (r.toList ++ st)) : J g k z n M L pc (As.reverse ++ .ref b :: st) := by
  refine J.ofRunX (a := (Value.ref b :: As).toArray) (fun H locs ls hR hS hl => ?_) kx kk
  have hp := J.preS (av := .ref b :: As) G hR hS
  exact vx_runV (C := C) (As := As) (rest := st) ⟨G.exec, G.bytes, G.maxl, G.own, G.words⟩ (hF (gl g) G.notr (gE g) (glo g)) ⟨J.callBx G hwl hwc hwi hq hroom, G.words _ hwn, G.words _ hwv⟩ ⟨hp.1, va_recv (q0 := 0) (fs := fs) G.kw.1 (P1 (hR.2.2 b _ hM).2.2) hc rfl, hp.2⟩ rfl hlen (hl.1.trans hnL) rfl (lv_room hst) hd ⟨Nat.le_trans hroom.2.2.1 G.cells, Nat.le_trans hroom.2.2.2 G.slots⟩
abbrev IOB : String := "java/lang/IndexOutOfBoundsException"
abbrev ISE : String := "java/lang/IllegalStateException"
abbrev IAE : String := "java/lang/IllegalArgumentException"
end THROW2
section CHECKS
abbrev Rng (v : Int) : Prop := -2147483648 ≤ v ∧ v < 2147483648
set_option maxRecDepth 100000 in
set_option maxHeartbeats 4000000 in
theorem c_checkLabel (n : Nat) (M : AH) {v : Int} (hv : Rng v) : Fx yX3_checkLabel cX3_checkLabel 1 none 6 [.int (iI v)] n M 1 6 (fun r n' M' => r = none ∧ n' = n ∧ M' = M ∧ 0 ≤ v ∧ v < 8) (fun E n' M' => E = IOB ∧ n ≤ n' ∧ M' = M ∧ ¬ (0 ≤ v ∧ v < 8)) := by
  refine Fx.of (by decide) [some _] rfl rfl (Nat.le_of_ble_eq_true rfl) ?_
  intro g G hO hT htab
  obtain ⟨hv1, hv2⟩ := hv
  have kx : ¬ (0 ≤ v ∧ v < 8) → J g 0 0 n M [some (.int (iI v))] 10 [] := fun h => J.throwS (pc := 10) G hT htab twI (text := "no such label") (by decide) dX3_checkLabel_10 dX3_checkLabel_13 dX3_checkLabel_14 dX3_checkLabel_16 dX3_checkLabel_19 (Nat.le_refl _) (Nat.le_refl _) (Nat.le_refl _) (by decide) rfl (fun n' hn => ⟨rfl, hn, rfl, h⟩)
  refine J.iload_n (pc := 0) G dX3_checkLabel_0 rfl ?_
  refine J.if_lt (pc := 1) (tgt := 10) G dX3_checkLabel_1 (by decide) hv1 hv2 (fun h => kx (by omega)) (fun h => ?_)
  refine J.iload_n (pc := 4) G dX3_checkLabel_4 rfl ?_
  refine J.bipushN (pc := 5) G dX3_checkLabel_5 8 (by decide +kernel) ?_
  refine J.icmp_lt (pc := 7) (tgt := 20) G dX3_checkLabel_7 (by decide) hv1 hv2 (by omega) (by omega) (fun h2 => ?_) (fun h2 => kx (by omega))
  exact J.vret (pc := 20) G hO dX3_checkLabel_20 (by decide) (by decide) ⟨rfl, rfl, rfl, h, by omega⟩
end CHECKS
