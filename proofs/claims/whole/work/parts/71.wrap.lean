section WRAP1
/-- a method with a table of handlers that always returns -/
def Fw (y : MethodName) (cc : ByteArray) (nL : Nat) (ret : Option FieldType) (hh : List (Nat × Nat × Nat × Nat)) (d : Nat) (av : List Value) (n : Nat) (M : AH) (mc ms : Nat) (post : Option Value → Nat → AH → Prop) : Prop :=
  ∀ (l : Launch), l.stackTraces = false → ∀ (E : En) (lo : Nat), Met l y (.codeWith y cc nL ret hh :: wG) (rmF d mc ms) (PcF E lo av n M) (QcF E lo post) mc ms (fun q => lo ≤ q)
theorem Fw.of {y : MethodName} {cc : ByteArray} {nL : Nat} {ret : Option FieldType} {hh : List (Nat × Nat × Nat × Nat)} {d : Nat} {av : List Value} {n : Nat} {M : AH} {mc ms : Nat} {post : Option Value → Nat → AH → Prop} (hy : plainName y.cls = true) (L0 : List (Option Value)) (hL : asl 0 L0 = lv_args 0 av) (hlen : L0.length = nL) (hsl : (lg_sl av).length ≤ nL) (body : ∀ g : GT, Cx g y.cls cc nL d mc ms → Ro g ret mc ms post → (gc g).exceptionTable.toList = tableOf hh → J g 0 0 n M L0 0 []) : Fw y cc nL ret hh d av n M mc ms post := by
  intro l hl E lo
  refine va_MetW (cc := cc) (maxL := nL) (ret := ret) (hh := hh) hy rfl ?_
  intro p e s m args below meth c s₁ B hml hv
  obtain ⟨rfl, hR, hK⟩ := hv
  rw [lg_entry_eq]
  have hts := atoms_spec (ws := .codeWith y cc nL ret hh :: wG) B.pre
  have htab := vx_table (x := y) B (hts _ List.mem_cons_self)
  refine body (p, l, e, (headSpec (.codeWith y cc nL ret hh :: wG) (rmF d mc ms)).room, s, m, av.toArray, below, meth, c, MQ below (QcF E lo post) av.toArray s mc ms (fun q => lo ≤ q), E, lo) ⟨B.exec, B.bytes, hml, findClass_of_methodNamed B.named, fun w h => hts w (List.mem_cons_of_mem _ h), hK, B.notSynchronized, Nat.le_refl _, Nat.le_refl _, Nat.le_refl _, Nat.le_refl _, hl, by rw [hR.1]; exact hR.2.1⟩ ⟨B.returns, fun _ _ _ _ _ h => h⟩ htab s.heap [] _ hR va_S.rf ?_
  unfold LH
  rw [hL, hlen]
  exact lv_entry av hsl
theorem J.callW {g : GT} {ow : String} {cc : ByteArray} {nL d mc ms k z n pc : Nat} {M : AH} {L : List (Option Value)} {st : List Value} (G : Cx g ow cc nL d mc ms) {y : MethodName} {yc : ByteArray} {yn : Nat} {yr : Option FieldType} {hh : List (Nat × Nat × Nat × Nat)} {d' mc' ms' idx na : Nat} {As : List Value} {post : Option Value → Nat → AH → Prop} (hF : Fw y yc yn yr hh d' As n M mc' ms' post) (hwl : Cond.methodLink ow idx y ∈ wG) (hws : Cond.static y ∈ wG) (hwc : Cond.codeWith y yc yn yr hh ∈ wG) (hwi : Cond.initialized y.cls ∈ wG) (hq : y.cls ≠ "java/lang/invoke/MethodHandle" ∧ y.cls ≠ "java/lang/invoke/VarHandle" ∧ (parseMethodDescriptor y.desc).map (fun d => d.parameters.length) = some na) (hd : decode cc pc = .ok (.invokestatic idx, 3)) (hlen : As.length = na) (hst : (st.map fun v => v.category).sum ≤ 8) (hnL : L.length = nL) (hroom : RmOk d d' yn k mc' mc z ms' ms)
    (kk : ∀ r n' M', post r n' M' → J g (k + mc') (z + ms') n' M' L (pc + 3) (r.toList ++ st)) : J g k z n M L pc (As.reverse ++ st) := by
  refine J.ofRun (a := As.toArray) (fun H locs ls hR hS hl => ?_) kk
  refine vx_runSW (hh := hh) (As := As) (rest := st) ⟨G.exec, G.bytes, G.maxl, G.own, G.words⟩ (hF (gl g) G.notr (gE g) (glo g)) (vx_cwSW (ws' := wG) (Ts := wG) na G.words (fun w h => ?_) rfl rfl rfl hq ⟨Nat.le_trans hroom.1 G.frames, Nat.le_trans ?_ G.locals⟩) (J.preS G hR hS) rfl hlen (hl.1.trans hnL) rfl (lv_room hst) hd ⟨Nat.le_trans hroom.2.2.1 G.cells, Nat.le_trans hroom.2.2.2 G.slots⟩
  · have hin : w ∈ wG := by
      unfold va_wsS at h
      rcases List.mem_append.mp h with h | h
      · rcases List.mem_cons.mp h with h | h
        · rw [h]; exact hwl
        · rcases List.mem_cons.mp h with h | h
          · rw [h]; exact hws
          · rcases List.mem_cons.mp h with h | h
            · rw [h]; exact hwi
            · exact absurd h List.not_mem_nil
      · rcases List.mem_cons.mp h with h | h
        · rw [h]; exact hwc
        · exact h
    exact ⟨hin, wG_ok w hin⟩
  · show 8 + (yn + 11) + 40 * d' ≤ 40 * d
    have h1 := hroom.1
    have h2 := hroom.2.1
    omega
end WRAP1
