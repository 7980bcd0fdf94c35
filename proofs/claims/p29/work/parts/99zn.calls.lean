section PCALL
theorem J.irem_r {g : GT} {ow : String} {cc : ByteArray} {nL d mc ms k z n pc : Nat} {M : AH} {L : List (Option Value)} {st : List Value} (G : Cx g ow cc nL d mc ms) {x y : Int32} (hd : decode cc pc = .ok (.irem, 1)) (hne : ¬ y = 0) (kk : J g k z n M L (pc + 1) (.int (x - x / y * y) :: st)) : J g k z n M L pc (.int y :: .int x :: st) := by
  intro H locs ls hR hS hl
  exact lv_irem G.exec G.bytes hd hne (kk H locs ls hR hS hl)
theorem iI_rem {a m : Nat} (ha : a < 2147483648) (h0 : 0 < m) (hm : m < 2147483648) : iI (a : Int) - iI (a : Int) / iI (m : Int) * iI (m : Int) = iI ((a % m : Nat) : Int) := by
  rw [iI_nat, iI_nat, iI_nat]
  exact pk_rem ha h0 hm
theorem iI_ne {m : Nat} (h0 : 0 < m) (hm : m < 2147483648) : ¬ iI (m : Int) = 0 := fun h => by
  have := (iI_eq (a := (m : Int)) (b := 0) (by omega) (by omega) (by omega) (by omega)).mp (h.trans iI_0.symm)
  omega
theorem J.iremN {g : GT} {ow : String} {cc : ByteArray} {nL d mc ms k z n pc : Nat} {M : AH} {L : List (Option Value)} {st : List Value} (G : Cx g ow cc nL d mc ms) {a m : Nat} (hd : decode cc pc = .ok (.irem, 1)) (ha : a < 2147483648) (h0 : 0 < m) (hm : m < 2147483648) (kk : J g k z n M L (pc + 1) (.int (iI ((a % m : Nat) : Int)) :: st)) : J g k z n M L pc (.int (iI (m : Int)) :: .int (iI (a : Int)) :: st) := by
  refine J.irem_r G hd (iI_ne h0 hm) ?_
  rw [iI_rem ha h0 hm]
  exact kk
theorem iI_xor (a b : Nat) : iI (a : Int) ^^^ iI (b : Int) = iI ((a ^^^ b : Nat) : Int) := by
  rw [iI_nat, iI_nat, iI_nat]
  apply Int32.toBitVec_inj.mp
  show BitVec.ofNat 32 a ^^^ BitVec.ofNat 32 b = BitVec.ofNat 32 (a ^^^ b)
  exact BitVec.ofNat_xor.symm
theorem J.ixorN {g : GT} {ow : String} {cc : ByteArray} {nL d mc ms k z n pc : Nat} {M : AH} {L : List (Option Value)} {st : List Value} (G : Cx g ow cc nL d mc ms) {a b : Nat} (hd : decode cc pc = .ok (.ixor, 1)) (kk : J g k z n M L (pc + 1) (.int (iI ((a ^^^ b : Nat) : Int)) :: st)) : J g k z n M L pc (.int (iI (b : Int)) :: .int (iI (a : Int)) :: st) := by
  refine J.ixor_r G hd ?_
  rw [iI_xor]
  exact kk
theorem and_max (x : Int32) : ∃ j : Nat, j < 2147483648 ∧ x &&& 2147483647 = iI (j : Int) := by
  obtain ⟨j, h1, h2⟩ := pk_andE x (m := 2147483647) 31 (by decide)
  exact ⟨j, h1, by rw [h2, iI_nat]⟩
/-- a number below another one -/
theorem c_below (n : Nat) (M : AH) {v : Int32} {m : Nat} (h0 : 0 < m) (hm : m < 2147483648) : Fn yL_below cL_below 2 (some .int) 0 [.int v, .int (iI (m : Int))] n M 0 0 (fun r n' M' => (∃ j : Nat, j < m ∧ r = some (.int (iI (j : Int)))) ∧ n' = n ∧ M' = M) := by
  refine Fn.of (by decide) [some _, some _] rfl rfl (Nat.le_of_ble_eq_true rfl) ?_
  intro g G hin hO
  obtain ⟨j, hj, e⟩ := and_max v
  refine J.iload_n (pc := 0) G dL_below_0 rfl ?_
  refine J.ldc (pc := 1) G q1005 dL_below_1 ?_
  refine J.iand_r (pc := 3) G dL_below_3 ?_
  rw [e]
  refine J.iload_n (pc := 4) G dL_below_4 rfl ?_
  refine J.iremN (pc := 5) G dL_below_5 hj h0 hm ?_
  exact J.iret (pc := 6) G hO dL_below_6 (by decide) (by decide) ⟨⟨_, Nat.mod_lt _ h0, rfl⟩, rfl, rfl⟩
/-! methods that read the script -/
def Fs (b N : Nat) (xs : Nat → Int32) (y : MethodName) (cc : ByteArray) (nL : Nat) (ret : Option FieldType) (d : Nat) (av : List Value) (n : Nat) (M : AH) (mc ms : Nat) (post : Option Value → Nat → AH → Prop) : Prop :=
  ∀ (l : Launch), l.stackTraces = false → ∀ (E : En) (lo : Nat), b < lo → Met l y (.code y cc nL ret :: wG) (rmF d mc ms) (fun v U => PcF E lo av n M v U ∧ va_X b N xs U U.heap) (QcF E lo post) mc ms (fun q => lo ≤ q)
theorem Fs.of {b N : Nat} {xs : Nat → Int32} {y : MethodName} {cc : ByteArray} {nL : Nat} {ret : Option FieldType} {d : Nat} {av : List Value} {n : Nat} {M : AH} {mc ms : Nat} {post : Option Value → Nat → AH → Prop} (hy : plainName y.cls = true) (L0 : List (Option Value)) (hL : asl 0 L0 = lv_args 0 av) (hlen : L0.length = nL) (hsl : (lg_sl av).length ≤ nL) (body : ∀ g : GT, Cx g y.cls cc nL d mc ms → Ro g ret mc ms post → va_X b N xs (gs g) (gs g).heap → b < glo g → J g 0 0 n M L0 0 []) : Fs b N xs y cc nL ret d av n M mc ms post := by
  intro l hl E lo hb
  refine Met.ofW (cc := cc) (maxL := nL) (ret := ret) hy rfl ?_
  intro p e s m args below meth c s₁ B hml hv
  obtain ⟨⟨rfl, hR, hK⟩, hX⟩ := hv
  rw [lg_entry_eq]
  have hts := atoms_spec (ws := .code y cc nL ret :: wG) B.pre
  refine body (p, l, e, (headSpec (.code y cc nL ret :: wG) (rmF d mc ms)).room, s, m, av.toArray, below, meth, c, MQ below (QcF E lo post) av.toArray s mc ms (fun q => lo ≤ q), E, lo) ⟨B.exec, B.bytes, hml, findClass_of_methodNamed B.named, fun w h => hts w (List.mem_cons_of_mem _ h), hK, B.notSynchronized, Nat.le_refl _, Nat.le_refl _, Nat.le_refl _, Nat.le_refl _, hl, by rw [hR.1]; exact hR.2.1⟩ ⟨B.returns, fun _ _ _ _ _ h => h⟩ hX hb s.heap [] _ hR va_S.rf ?_
  unfold LH
  rw [hL, hlen]
  exact lv_entry av hsl
theorem J.callFs {g : GT} {ow : String} {cc : ByteArray} {nL d mc ms k z n pc : Nat} {M : AH} {L : List (Option Value)} {st : List Value} (G : Cx g ow cc nL d mc ms) {b N : Nat} {xs : Nat → Int32} {y : MethodName} {yc : ByteArray} {yn : Nat} {yr : Option FieldType} {d' mc' ms' idx na : Nat} {As : List Value} {post : Option Value → Nat → AH → Prop} (hF : Fs b N xs y yc yn yr d' As n M mc' ms' post) (hX : va_X b N xs (gs g) (gs g).heap) (hb : b < glo g) (hwl : Cond.methodLink ow idx y ∈ wG) (hws : Cond.static y ∈ wG) (hwc : Cond.code y yc yn yr ∈ wG) (hwi : Cond.initialized y.cls ∈ wG) (hq : y.cls ≠ "java/lang/invoke/MethodHandle" ∧ y.cls ≠ "java/lang/invoke/VarHandle" ∧ (parseMethodDescriptor y.desc).map (fun d => d.parameters.length) = some na) (hd : decode cc pc = .ok (.invokestatic idx, 3)) (hlen : As.length = na) (hst : (st.map fun v => v.category).sum ≤ 8) (hnL : L.length = nL) (hroom : RmOk d d' yn k mc' mc z ms' ms)
    (kk : ∀ r n' M', post r n' M' → J g (k + mc') (z + ms') n' M' L (pc + 3) (r.toList ++ st)) : J g k z n M L pc (As.reverse ++ st) := by
  refine J.ofRun (a := As.toArray) (fun H locs ls hR hS hl => ?_) kk
  exact va_runS (As := As) (rest := st) ⟨G.exec, G.bytes, G.maxl, G.own, G.words⟩ (hF (gl g) G.notr (gE g) (glo g) hb) ⟨J.callBx G hwl hwc hwi hq hroom, G.words _ hws⟩ ⟨fun _ U _ _ h => ⟨PcF.blind _ _ _ _ h.1, va_X.moved (Vm.Alike.refl U.vm) h.2⟩, fun U hU hW => ⟨⟨rfl, by rw [hU]; exact hR, G.kw.to hW (by rw [hU]; exact hS)⟩, by rw [hU]; exact va_X.moved hW.alike (hX.kept (hS.2.1 b (Nat.lt_of_lt_of_le hb G.lo) (Nat.not_le.mpr hb)))⟩⟩ rfl hlen (hl.1.trans hnL) rfl (lv_room hst) hd ⟨Nat.le_trans hroom.2.2.1 G.cells, Nat.le_trans hroom.2.2.2 G.slots⟩
theorem c_cell (n : Nat) (M : AH) {b N : Nat} {xs : Nat → Int32} {i : Nat} (hN : N ≤ 260) (hi : i < 1000) : Fs b N xs yL_cell cL_cell 2 (some .int) 0 [.ref b, .int (iI (i : Int))] n M 0 0 (fun r n' M' => (∃ x : Int32, r = some (.int x)) ∧ n' = n ∧ M' = M) := by
  refine Fs.of (by decide) [some _, some _] rfl rfl (Nat.le_of_ble_eq_true rfl) ?_
  intro g G hO hXs hbs
  refine J.iload_n (pc := 0) G dL_cell_0 rfl ?_
  refine J.aload_n (pc := 1) G dL_cell_1 rfl ?_
  refine J.slen (pc := 2) G hXs hbs dL_cell_2 ?_
  refine J.icmp_geN (pc := 3) (tgt := 12) G dL_cell_3 (by decide) (by omega) (by omega) (fun h => ?_) (fun h => ?_)
  · refine J.ldc (pc := 12) G q1001 dL_cell_12 ?_
    refine J.iload_n (pc := 14) G dL_cell_14 rfl ?_
    refine J.iconstN (pc := 15) G dL_cell_15 3 rfl ?_
    refine J.iaddN (pc := 16) G dL_cell_16 ?_
    refine J.imul_r (pc := 17) G dL_cell_17 ?_
    exact J.iret (pc := 18) G hO dL_cell_18 (by decide) (by decide) ⟨⟨_, rfl⟩, rfl, rfl⟩
  · refine J.aload_n (pc := 6) G dL_cell_6 rfl ?_
    refine J.iload_n (pc := 7) G dL_cell_7 rfl ?_
    refine J.sld (pc := 8) G hXs hbs dL_cell_8 i rfl h (by omega) ?_
    refine J.goto (pc := 9) (tgt := 18) G dL_cell_9 (by decide) ?_
    exact J.iret (pc := 18) G hO dL_cell_18 (by decide) (by decide) ⟨⟨_, rfl⟩, rfl, rfl⟩
end PCALL
