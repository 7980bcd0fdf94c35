section ARR1
variable {g : GT} {ow : String} {cc : ByteArray} {nL d mc ms k z n pc : Nat} {M : AH} {L : List (Option Value)} {st : List Value}
theorem iI_pos {m : Nat} (h : m < 2147483648) : ¬ iI (m : Int) < 0 := by rw [iI_nat]; exact nI_pos (by omega)
/-- a stretch of a row of ints is copied into another one -/
theorem J.copyI (G : Cx g ow cc nL d mc ms) {idx a0 b n0 n1 sp dp m : Nat} {f h : Nat → Nat} (hwl : Cond.methodLink ow idx arraycopyName ∈ wG) (hwn : Cond.native arraycopyName ∈ wG) (hws : Cond.static arraycopyName ∈ wG) (hwi : Cond.initialized "java/lang/System" ∈ wG) (hd : decode cc pc = .ok (.invokestatic idx, 3)) (hdp : 1 ≤ d) (hst : (st.map fun v => v.category).sum ≤ 8) (hnL : L.length = nL) (ha : M a0 = some (cN n0 f)) (hb : M b = some (cN n1 h)) (hs : sp + m ≤ n0) (hdd : dp + m ≤ n1) (hN : n0 < 2147483648) (hN1 : n1 < 2147483648) (kk : ∀ M' : AH, M' b = some (cN n1 (va_cpy f h sp dp m)) → (∀ q, q ≠ b → M' q = M q) → J g k z n M' L (pc + 3) st) : J g k z n M L pc (.int (iI (m : Int)) :: .int (iI (dp : Int)) :: .ref b :: .int (iI (sp : Int)) :: .ref a0 :: st) := by
  intro H locs ls hR hS hl T hT X
  have c1 : (iI (sp : Int)).toNatClampNeg = sp := iI_cl (by omega)
  have c2 : (iI (dp : Int)).toNatClampNeg = dp := iI_cl (by omega)
  have c3 : (iI (m : Int)).toNatClampNeg = m := iI_cl (by omega)
  have i1 : (iI (sp : Int)).toInt = (sp : Int) := iI_toInt (by omega) (by omega)
  have i2 : (iI (dp : Int)).toInt = (dp : Int) := iI_toInt (by omega) (by omega)
  have i3 : (iI (m : Int)).toInt = (m : Int) := iI_toInt (by omega) (by omega)
  have hc0 : H[a0]? = some (vp_cell ((gE g).2 0) (n0, .inl (fun j => iI (f j : Int)))) := (hR.2.2 a0 _ ha).2.2
  have hc1 : H[b]? = some (vp_cell ((gE g).2 0) (n1, .inl (fun j => iI (h j : Int)))) := (hR.2.2 b _ hb).2.2
  obtain ⟨-, k0, hk0, cm0, hkk0⟩ := (G.kw.1.2 0 _ rfl).1 n0 (fun j => .int (iI (f j : Int)))
  obtain ⟨-, k1, hk1, cm1, hkk1⟩ := (G.kw.1.2 0 _ rfl).1 n1 (fun j => .int (iI (h j : Int)))
  have hfr : nativeFrameWords "java/lang/System" "arraycopy" 5 ≤ 7 := by decide
  have hloc := G.locals
  obtain ⟨vm', X', step⟩ := X.arraycopy G.exec G.own (G.words _ hwl) (G.words _ hwn) (G.words _ hws) (G.words _ hwi) (src := a0) (dst := b) (cs := vp_cell ((gE g).2 0) (n0, .inl (fun j => iI (f j : Int)))) (cd := vp_cell ((gE g).2 0) (n1, .inl (fun j => iI (h j : Int)))) (srcPos := iI (sp : Int)) (destPos := iI (dp : Int)) (n := iI (m : Int)) (by rw [hT]; exact hc0) (by rw [hT]; exact hc1)
    (fun _ h => by cases h) (fun _ h => by cases h) (fun h => by cases h) (fun h => by cases h) hk0 hk1 hkk0 hkk1 (by simp [refKind]) (iI_pos (by omega)) (iI_pos (by omega)) (iI_pos (by omega))
    (by rw [i1, i3]; show ¬ _ > ((arrV _ n0 (fun j => Value.int (iI (f j : Int)))).slots.size : Int); rw [arrV_size]; omega)
    (by rw [i2, i3]; show ¬ _ > ((arrV _ n1 (fun j => Value.int (iI (h j : Int)))).slots.size : Int); rw [arrV_size]; omega)
    (fun vm₁ _ i hi => by
      rw [c3] at hi
      have e : (vp_cell ((gE g).2 0) (n0, .inl (fun j => iI (f j : Int)))).slots.getD ((iI (sp : Int)).toNatClampNeg + i) .null = .int (iI (f (sp + i) : Int)) := by
        rw [c1]
        show (arrV _ n0 (fun j => Value.int (iI (f j : Int)))).slots.getD _ _ = _
        rw [Array.getD_eq_getD_getElem?, arrV_read _ _ (by omega)]
        rfl
      exact ⟨by rw [e]; rfl, by rw [e]; exact trivial⟩)
    (g := F0 (gm g) pc ls (.int (iI (m : Int)) :: .int (iI (dp : Int)) :: .ref b :: .int (iI (sp : Int)) :: .ref a0 :: st)) rfl (by rw [G.maxl]; exact hl.1.trans hnL) (rest := st) rfl (by rw [G.bytes]; exact hd) (Nat.le_trans hdp G.frames) (by show 2 * 0 + _ + _ ≤ _; omega)
  have e1 : copied (vp_cell ((gE g).2 0) (n0, .inl (fun j => iI (f j : Int)))) (vp_cell ((gE g).2 0) (n1, .inl (fun j => iI (h j : Int)))) (iI (sp : Int)) (iI (dp : Int)) (iI (m : Int)) = vp_cell ((gE g).2 0) (n1, .inl (fun j => iI ((va_cpy f h sp dp m j : Nat) : Int))) := by
    have := va_copied (n1 := n1) (dp := dp) (fun z => Value.int z) ((gE g).2 0) ((gE g).2 0) (fun j => iI (f j : Int)) (fun j => iI (h j : Int)) hs
    unfold copied
    rw [c1, c2, c3]
    refine Eq.trans this ?_
    rw [vp_cell_i]
    congr 1
    funext j
    unfold va_cpy
    split <;> rfl
  rw [e1] at X' step
  have hl9 : b < H.size := (Array.getElem?_eq_some_iff.mp hc1).1
  generalize hx : vp_cell ((gE g).2 0) (n1, .inl (fun j => iI ((va_cpy f h sp dp m j : Nat) : Int))) = x9 at X' step
  have oq : ∀ q : Nat, q ≠ b → (H.setIfInBounds b x9)[q]? = H[q]? := fun q hq => by simp [Array.getElem?_setIfInBounds, Ne.symm hq]
  have ob : (H.setIfInBounds b x9)[b]? = some x9 := by simp [Array.getElem?_setIfInBounds, hl9]
  have hheap : ((T.setVm vm').setCell b x9).heap = H.setIfInBounds b x9 := by rw [← hT]; rfl
  have hA := (hR.2.2 b _ hb).1
  obtain ⟨t, a1, b1⟩ := kk (hset M b (cN n1 (va_cpy f h sp dp m))) hset_s (fun q hq => hset_n hq) (H.setIfInBounds b x9) _ ls (hR.set hb (by show _ = some (vp_cell _ _); rw [ob, ← hx]) (by simp) oq) ⟨by simp; exact hS.1, fun q g1 g2 => by
      rw [oq q (fun e => g2 (by rw [e]; exact hA))]
      exact hS.2.1 q g1 g2, fun q hq => by
      rcases List.mem_append.mp hq with h | h
      · exact hS.2.2 q h
      · obtain ⟨z, -, hz⟩ := List.mem_map.mp h
        rw [← hz]
        exact hA⟩ hl _ hheap X'
  exact ⟨t, step t a1, b1⟩
/-- a row of ints is cloned -/
theorem J.cloneI (G : Cx g ow cc nL d mc ms) {idx a N : Nat} {f : Nat → Nat} (hwl : Cond.methodLink ow idx ⟨"[I", "clone", "()Ljava/lang/Object;"⟩ ∈ wG) (hd : decode cc pc = .ok (.invokevirtual idx, 3)) (hdp : 1 ≤ d) (hst : (st.map fun v => v.category).sum ≤ 8) (hnL : L.length = nL) (ha : M a = some (cN N f)) (hk : k + 1 ≤ mc) (hz : z + N ≤ ms) (kk : ∀ M' : AH, M' n = some (cN N f) → (∀ q, q ≠ n → M' q = M q) → J g (k + 1) (z + N) (n + 1) M' L (pc + 3) (.ref n :: st)) : J g k z n M L pc (.ref a :: st) := by
  intro H locs ls hR hS hl T hT X
  generalize hx : vp_cell ((gE g).2 0) (N, .inl (fun j => iI (f j : Int))) = x
  have hsz : x.slots.size = N := by rw [← hx]; exact arrV_size _ _ _
  have hvm0 : x.vm = .none := by rw [← hx]; rfl
  have hcl0 : x.cls = (gE g).2 0 := by rw [← hx]; rfl
  have hcellE : ({ cls := x.cls, slots := x.slots } : Cell) = x := by rw [← hx]; rfl
  have hnm : (gs g).vm.findClass "[I" = some ((gE g).2 0) := (G.kw.1.2 0 _ rfl).2
  obtain ⟨c0, t0', f1, f2, f3⟩ := Cond.castable_spec (va_Nw.use (A := ga g) rfl (G.kw.2.2.1 ("[I", "java/lang/Cloneable") (by decide)))
  cases hnm.symm.trans f1
  have hcell : H[a]? = some x := by rw [← hx]; exact (hR.2.2 a _ ha).2.2
  have hcellT : T.heap[a]? = some x := by rw [hT]; exact hcell
  obtain ⟨-, kA, hkA, comp, hkind⟩ := State.isArrayOf_alike X.warmed.alike ((G.kw.1.2 0 _ rfl).1 0 (fun _ => .null))
  obtain ⟨-, kS, hkS, compS, hkindS⟩ := (G.kw.1.2 0 _ rfl).1 0 (fun _ => .null)
  have hloc := G.locals
  obtain ⟨vm', X', step⟩ := X.cloneArray G.exec G.own (G.words _ hwl) (G.words _ q857) (G.words _ q858) (G.words _ q859) (G.words _ q860) (a := a) (cell := x) hcellT (fun k h => by rw [hvm0] at h; cases h) (by rw [hvm0]; exact fun h => by cases h) (by rw [hcl0]; exact hnm) f2 (by rw [hcl0]; exact f3)
    (fun i v hv => by
      rw [hcl0]
      have hk' : T.vm.classes[(gE g).2 0]? = some kA := hkA
      have hv2 : ∃ w : Int32, v = .int w := by
        rw [← hx] at hv
        have hi : i < N := by
          have := (Array.getElem?_eq_some_iff.mp hv).1
          rw [hx, hsz] at this
          exact this
        have hv3 : (arrV ((gE g).2 0) N (fun j => Value.int (iI (f j : Int)))).slots[i]? = some v := hv
        rw [arrV_read _ _ hi] at hv3
        exact ⟨_, (Option.some.inj hv3).symm⟩
      obtain ⟨w, rfl⟩ := hv2
      simp [State.fitsSlot, State.slotType?, hk', hkind, fits])
    (g := F0 (gm g) pc ls (.ref a :: st)) rfl (by rw [G.maxl]; exact hl.1.trans hnL) rfl (by rw [G.bytes]; exact hd) (Nat.le_trans hdp G.frames) (by show 2 * 0 + _ + 14 ≤ _; omega) (Nat.le_trans hk G.cells) (by rw [hsz]; exact Nat.le_trans hz G.slots) (hloader := by rw [hcl0]; exact Vm.clonesLoader_of_array hkS hkindS)
  rw [hcellE, hsz] at X'
  generalize hH1 : H.push x = H1
  have z1 : H1.size = H.size + 1 := by rw [← hH1, Array.size_push]
  have e1 : H1[H.size]? = some x := by rw [← hH1, Array.getElem?_push_size]
  have o1 : ∀ q : Nat, q < H.size → H1[q]? = H[q]? := fun q hq => by rw [← hH1, Array.getElem?_push, if_neg (Nat.ne_of_lt hq)]
  have hS1 := hS.grow z1 o1
  rw [hR.1] at z1 e1 o1
  obtain ⟨t, b1, b2⟩ := kk (hset M n (cN N f)) hset_s (fun q hq => hset_n hq) H1 locs ls (hR.new (by show _ = some (vp_cell _ _); rw [e1, ← hx]) z1 o1) hS1 hl ((T.setVm vm').pushCell x) (by rw [← hH1, ← hT]; rfl) X'
  refine ⟨t, step t ?_, b2⟩
  rw [hcellE, hT, hR.1]
  exact b1
/-- a cast of a row of ints to int[] -/
theorem J.castI (G : Cx g ow cc nL d mc ms) {idx a N : Nat} {f : Nat → Int32} (hw : Cond.classLink ow idx "[I" ∈ wG) (hd : decode cc pc = .ok (.checkcast idx, 3)) (ha : M a = some (.inr (0, N, .inl f))) (kk : J g k z n M L (pc + 3) (.ref a :: st)) : J g k z n M L pc (.ref a :: st) := by
  intro H locs ls hR hS hl
  exact va_castA G.exec G.bytes G.own (G.words _ hw) (P1 (hR.2.2 a _ ha).2.2) 0 rfl (G.kw.1.2 0 _ rfl).2 hd (kk H locs ls hR hS hl)
end ARR1
section BIT1
/-- the place of a set's lowest member -/
def loF (m : Nat) : Nat := firstU (fun i => m.testBit i) 8
theorem low_ok : ∀ m : Nat, m < 256 → 0 < m → iI (m : Int) &&& - iI (m : Int) = iI ((2 ^ loF m : Nat) : Int) := by
  have h : (List.range 256).all (fun m => decide (m = 0) || decide (iI (m : Int) &&& - iI (m : Int) = iI ((2 ^ loF m : Nat) : Int))) = true := by decide +kernel
  intro m hm h0
  have := List.all_eq_true.mp h m (List.mem_range.mpr hm)
  rw [decide_eq_false (by omega), Bool.false_or] at this
  exact of_decide_eq_true this
theorem ntz_ok : ∀ m : Nat, m < 256 → 0 < m → loF m < 8 ∧ (iI (m : Int) ^^^ iI (-1)) &&& (iI (m : Int) - iI ((1 : Nat) : Int)) = iI ((2 ^ loF m - 1 : Nat) : Int) := by
  have h : (List.range 256).all (fun m => decide (m = 0) || (decide (loF m < 8) && decide ((iI (m : Int) ^^^ iI (-1)) &&& (iI (m : Int) - iI ((1 : Nat) : Int)) = iI ((2 ^ loF m - 1 : Nat) : Int)))) = true := by decide +kernel
  intro m hm h0
  have := List.all_eq_true.mp h m (List.mem_range.mpr hm)
  rw [decide_eq_false (by omega), Bool.false_or, Bool.and_eq_true] at this
  exact ⟨of_decide_eq_true this.1, of_decide_eq_true this.2⟩
set_option maxRecDepth 100000 in
set_option maxHeartbeats 4000000 in
theorem c_lowestOneBit (n : Nat) (M : AH) {m : Nat} (hm : m < 256) (h0 : 0 < m) : Fn yJ6_lowestOneBit_0f7a4 cJ6_lowestOneBit_0f7a4 1 (some .int) 0 [.int (iI (m : Int))] n M 0 0 (fun r n' M' => r = some (.int (iI ((2 ^ loF m : Nat) : Int))) ∧ n' = n ∧ M' = M) := by
  refine Fn.of (by decide) [some _] rfl rfl (Nat.le_of_ble_eq_true rfl) ?_
  intro g G hin hO
  have e := low_ok m hm h0
  refine J.iload_n (pc := 0) G dJ6_lowestOneBit_0f7a4_0 rfl ?_
  refine J.iload_n (pc := 1) G dJ6_lowestOneBit_0f7a4_1 rfl ?_
  refine J.ineg (pc := 2) G dJ6_lowestOneBit_0f7a4_2 ?_
  refine J.iand_r (pc := 3) G dJ6_lowestOneBit_0f7a4_3 ?_
  rw [← iI_neg, e]
  exact J.iret (pc := 4) G hO dJ6_lowestOneBit_0f7a4_4 (by decide) (by decide) ⟨rfl, rfl, rfl⟩
set_option maxRecDepth 100000 in
set_option maxHeartbeats 4000000 in
theorem c_ntz (n : Nat) (M : AH) {m : Nat} (hm : m < 256) (h0 : 0 < m) : Fn yJ6_numberOfTrailingZeros_0f7a4 cJ6_numberOfTrailingZeros_0f7a4 2 (some .int) 0 [.int (iI (m : Int))] n M 0 0 (fun r n' M' => r = some (.int (iI ((loF m : Nat) : Int))) ∧ n' = n ∧ M' = M) := by
  refine Fn.of (by decide) [some _, none] rfl rfl (Nat.le_of_ble_eq_true rfl) ?_
  intro g G hin hO
  obtain ⟨h8, e2⟩ := ntz_ok m hm h0
  generalize iI (m : Int) = x0 at e2 ⊢
  refine J.iload_n (pc := 0) G dJ6_numberOfTrailingZeros_0f7a4_0 rfl ?_
  refine J.iconst (pc := 1) G dJ6_numberOfTrailingZeros_0f7a4_1 ?_
  refine J.ixor_r (pc := 2) G dJ6_numberOfTrailingZeros_0f7a4_2 ?_
  refine J.iload_n (pc := 3) G dJ6_numberOfTrailingZeros_0f7a4_3 rfl ?_
  refine J.iconstN (pc := 4) G dJ6_numberOfTrailingZeros_0f7a4_4 1 rfl ?_
  refine J.isub_r (pc := 5) G dJ6_numberOfTrailingZeros_0f7a4_5 ?_
  refine J.iand_r (pc := 6) G dJ6_numberOfTrailingZeros_0f7a4_6 ?_
  generalize loF m = kb at h8 e2 hO
  rcases (show kb = 0 ∨ kb = 1 ∨ kb = 2 ∨ kb = 3 ∨ kb = 4 ∨ kb = 5 ∨ kb = 6 ∨ kb = 7 by omega) with rfl | rfl | rfl | rfl | rfl | rfl | rfl | rfl
  · rw [e2]
    refine J.istore_n (L' := [_, _]) (pc := 7) G dJ6_numberOfTrailingZeros_0f7a4_7 rfl (Nat.le_of_ble_eq_true rfl) rfl ?_
    refine J.iload_n (pc := 8) G dJ6_numberOfTrailingZeros_0f7a4_8 rfl ?_
    refine J.if_gtN (pc := 9) (tgt := 17) G dJ6_numberOfTrailingZeros_0f7a4_9 (by decide) (by decide) (fun h => absurd h (by decide)) (fun _ => ?_)
    refine J.iload_n (pc := 12) G dJ6_numberOfTrailingZeros_0f7a4_12 rfl ?_
    refine J.bipushN (pc := 13) G dJ6_numberOfTrailingZeros_0f7a4_13 32 (by decide +kernel) ?_
    refine J.iandN (pc := 15) G dJ6_numberOfTrailingZeros_0f7a4_15 ?_
    exact J.iret (pc := 16) G hO dJ6_numberOfTrailingZeros_0f7a4_16 (by decide) (by decide) ⟨rfl, rfl, rfl⟩
  · rw [e2]
    refine J.istore_n (L' := [_, _]) (pc := 7) G dJ6_numberOfTrailingZeros_0f7a4_7 rfl (Nat.le_of_ble_eq_true rfl) rfl ?_
    refine J.iload_n (pc := 8) G dJ6_numberOfTrailingZeros_0f7a4_8 rfl ?_
    refine J.if_gtN (pc := 9) (tgt := 17) G dJ6_numberOfTrailingZeros_0f7a4_9 (by decide) (by decide) (fun _ => ?_) (fun h => absurd h (by decide))
    refine J.iconstN (pc := 17) G dJ6_numberOfTrailingZeros_0f7a4_17 1 rfl ?_
    refine J.istore_n (L' := [_, _]) (pc := 18) G dJ6_numberOfTrailingZeros_0f7a4_18 rfl (Nat.le_of_ble_eq_true rfl) rfl ?_
    refine J.iload_n (pc := 19) G dJ6_numberOfTrailingZeros_0f7a4_19 rfl ?_
    refine J.ldcw (pc := 20) G q865 dJ6_numberOfTrailingZeros_0f7a4_20 ?_
    refine J.topv (b := iI ((65536 : Nat) : Int)) (by decide +kernel) ?_
    refine J.icmp_leN (pc := 23) (tgt := 34) G dJ6_numberOfTrailingZeros_0f7a4_23 (by decide) (by decide) (by decide) (fun _ => ?_) (fun h => absurd h (by decide))
    refine J.iload_n (pc := 34) G dJ6_numberOfTrailingZeros_0f7a4_34 rfl ?_
    refine J.sipushN (pc := 35) G dJ6_numberOfTrailingZeros_0f7a4_35 256 (by decide +kernel) ?_
    refine J.icmp_leN (pc := 38) (tgt := 49) G dJ6_numberOfTrailingZeros_0f7a4_38 (by decide) (by decide) (by decide) (fun _ => ?_) (fun h => absurd h (by decide))
    refine J.iload_n (pc := 49) G dJ6_numberOfTrailingZeros_0f7a4_49 rfl ?_
    refine J.bipushN (pc := 50) G dJ6_numberOfTrailingZeros_0f7a4_50 16 (by decide +kernel) ?_
    refine J.icmp_leN (pc := 52) (tgt := 62) G dJ6_numberOfTrailingZeros_0f7a4_52 (by decide) (by decide) (by decide) (fun _ => ?_) (fun h => absurd h (by decide))
    refine J.iload_n (pc := 62) G dJ6_numberOfTrailingZeros_0f7a4_62 rfl ?_
    refine J.iconstN (pc := 63) G dJ6_numberOfTrailingZeros_0f7a4_63 4 rfl ?_
    refine J.icmp_leN (pc := 64) (tgt := 74) G dJ6_numberOfTrailingZeros_0f7a4_64 (by decide) (by decide) (by decide) (fun _ => ?_) (fun h => absurd h (by decide))
    refine J.iload_n (pc := 74) G dJ6_numberOfTrailingZeros_0f7a4_74 rfl ?_
    refine J.iload_n (pc := 75) G dJ6_numberOfTrailingZeros_0f7a4_75 rfl ?_
    refine J.iconstN (pc := 76) G dJ6_numberOfTrailingZeros_0f7a4_76 1 rfl ?_
    refine J.iushr_r (pc := 77) G dJ6_numberOfTrailingZeros_0f7a4_77 ?_
    refine J.topv (b := iI ((0 : Nat) : Int)) (by decide +kernel) ?_
    refine J.iaddN (pc := 78) G dJ6_numberOfTrailingZeros_0f7a4_78 ?_
    exact J.iret (pc := 79) G hO dJ6_numberOfTrailingZeros_0f7a4_79 (by decide) (by decide) ⟨rfl, rfl, rfl⟩
  · rw [e2]
    refine J.istore_n (L' := [_, _]) (pc := 7) G dJ6_numberOfTrailingZeros_0f7a4_7 rfl (Nat.le_of_ble_eq_true rfl) rfl ?_
    refine J.iload_n (pc := 8) G dJ6_numberOfTrailingZeros_0f7a4_8 rfl ?_
    refine J.if_gtN (pc := 9) (tgt := 17) G dJ6_numberOfTrailingZeros_0f7a4_9 (by decide) (by decide) (fun _ => ?_) (fun h => absurd h (by decide))
    refine J.iconstN (pc := 17) G dJ6_numberOfTrailingZeros_0f7a4_17 1 rfl ?_
    refine J.istore_n (L' := [_, _]) (pc := 18) G dJ6_numberOfTrailingZeros_0f7a4_18 rfl (Nat.le_of_ble_eq_true rfl) rfl ?_
    refine J.iload_n (pc := 19) G dJ6_numberOfTrailingZeros_0f7a4_19 rfl ?_
    refine J.ldcw (pc := 20) G q865 dJ6_numberOfTrailingZeros_0f7a4_20 ?_
    refine J.topv (b := iI ((65536 : Nat) : Int)) (by decide +kernel) ?_
    refine J.icmp_leN (pc := 23) (tgt := 34) G dJ6_numberOfTrailingZeros_0f7a4_23 (by decide) (by decide) (by decide) (fun _ => ?_) (fun h => absurd h (by decide))
    refine J.iload_n (pc := 34) G dJ6_numberOfTrailingZeros_0f7a4_34 rfl ?_
    refine J.sipushN (pc := 35) G dJ6_numberOfTrailingZeros_0f7a4_35 256 (by decide +kernel) ?_
    refine J.icmp_leN (pc := 38) (tgt := 49) G dJ6_numberOfTrailingZeros_0f7a4_38 (by decide) (by decide) (by decide) (fun _ => ?_) (fun h => absurd h (by decide))
    refine J.iload_n (pc := 49) G dJ6_numberOfTrailingZeros_0f7a4_49 rfl ?_
    refine J.bipushN (pc := 50) G dJ6_numberOfTrailingZeros_0f7a4_50 16 (by decide +kernel) ?_
    refine J.icmp_leN (pc := 52) (tgt := 62) G dJ6_numberOfTrailingZeros_0f7a4_52 (by decide) (by decide) (by decide) (fun _ => ?_) (fun h => absurd h (by decide))
    refine J.iload_n (pc := 62) G dJ6_numberOfTrailingZeros_0f7a4_62 rfl ?_
    refine J.iconstN (pc := 63) G dJ6_numberOfTrailingZeros_0f7a4_63 4 rfl ?_
    refine J.icmp_leN (pc := 64) (tgt := 74) G dJ6_numberOfTrailingZeros_0f7a4_64 (by decide) (by decide) (by decide) (fun _ => ?_) (fun h => absurd h (by decide))
    refine J.iload_n (pc := 74) G dJ6_numberOfTrailingZeros_0f7a4_74 rfl ?_
    refine J.iload_n (pc := 75) G dJ6_numberOfTrailingZeros_0f7a4_75 rfl ?_
    refine J.iconstN (pc := 76) G dJ6_numberOfTrailingZeros_0f7a4_76 1 rfl ?_
    refine J.iushr_r (pc := 77) G dJ6_numberOfTrailingZeros_0f7a4_77 ?_
    refine J.topv (b := iI ((1 : Nat) : Int)) (by decide +kernel) ?_
    refine J.iaddN (pc := 78) G dJ6_numberOfTrailingZeros_0f7a4_78 ?_
    exact J.iret (pc := 79) G hO dJ6_numberOfTrailingZeros_0f7a4_79 (by decide) (by decide) ⟨rfl, rfl, rfl⟩
  · rw [e2]
    refine J.istore_n (L' := [_, _]) (pc := 7) G dJ6_numberOfTrailingZeros_0f7a4_7 rfl (Nat.le_of_ble_eq_true rfl) rfl ?_
    refine J.iload_n (pc := 8) G dJ6_numberOfTrailingZeros_0f7a4_8 rfl ?_
    refine J.if_gtN (pc := 9) (tgt := 17) G dJ6_numberOfTrailingZeros_0f7a4_9 (by decide) (by decide) (fun _ => ?_) (fun h => absurd h (by decide))
    refine J.iconstN (pc := 17) G dJ6_numberOfTrailingZeros_0f7a4_17 1 rfl ?_
    refine J.istore_n (L' := [_, _]) (pc := 18) G dJ6_numberOfTrailingZeros_0f7a4_18 rfl (Nat.le_of_ble_eq_true rfl) rfl ?_
    refine J.iload_n (pc := 19) G dJ6_numberOfTrailingZeros_0f7a4_19 rfl ?_
    refine J.ldcw (pc := 20) G q865 dJ6_numberOfTrailingZeros_0f7a4_20 ?_
    refine J.topv (b := iI ((65536 : Nat) : Int)) (by decide +kernel) ?_
    refine J.icmp_leN (pc := 23) (tgt := 34) G dJ6_numberOfTrailingZeros_0f7a4_23 (by decide) (by decide) (by decide) (fun _ => ?_) (fun h => absurd h (by decide))
    refine J.iload_n (pc := 34) G dJ6_numberOfTrailingZeros_0f7a4_34 rfl ?_
    refine J.sipushN (pc := 35) G dJ6_numberOfTrailingZeros_0f7a4_35 256 (by decide +kernel) ?_
    refine J.icmp_leN (pc := 38) (tgt := 49) G dJ6_numberOfTrailingZeros_0f7a4_38 (by decide) (by decide) (by decide) (fun _ => ?_) (fun h => absurd h (by decide))
    refine J.iload_n (pc := 49) G dJ6_numberOfTrailingZeros_0f7a4_49 rfl ?_
    refine J.bipushN (pc := 50) G dJ6_numberOfTrailingZeros_0f7a4_50 16 (by decide +kernel) ?_
    refine J.icmp_leN (pc := 52) (tgt := 62) G dJ6_numberOfTrailingZeros_0f7a4_52 (by decide) (by decide) (by decide) (fun _ => ?_) (fun h => absurd h (by decide))
    refine J.iload_n (pc := 62) G dJ6_numberOfTrailingZeros_0f7a4_62 rfl ?_
    refine J.iconstN (pc := 63) G dJ6_numberOfTrailingZeros_0f7a4_63 4 rfl ?_
    refine J.icmp_leN (pc := 64) (tgt := 74) G dJ6_numberOfTrailingZeros_0f7a4_64 (by decide) (by decide) (by decide) (fun h => absurd h (by decide)) (fun _ => ?_)
    refine J.iincN (L' := [_, _]) (pc := 67) G dJ6_numberOfTrailingZeros_0f7a4_67 2 rfl rfl rfl rfl ?_
    refine J.iload_n (pc := 70) G dJ6_numberOfTrailingZeros_0f7a4_70 rfl ?_
    refine J.iconstN (pc := 71) G dJ6_numberOfTrailingZeros_0f7a4_71 2 rfl ?_
    refine J.iushr_r (pc := 72) G dJ6_numberOfTrailingZeros_0f7a4_72 ?_
    refine J.topv (b := iI ((1 : Nat) : Int)) (by decide +kernel) ?_
    refine J.istore_n (L' := [_, _]) (pc := 73) G dJ6_numberOfTrailingZeros_0f7a4_73 rfl (Nat.le_of_ble_eq_true rfl) rfl ?_
    refine J.iload_n (pc := 74) G dJ6_numberOfTrailingZeros_0f7a4_74 rfl ?_
    refine J.iload_n (pc := 75) G dJ6_numberOfTrailingZeros_0f7a4_75 rfl ?_
    refine J.iconstN (pc := 76) G dJ6_numberOfTrailingZeros_0f7a4_76 1 rfl ?_
    refine J.iushr_r (pc := 77) G dJ6_numberOfTrailingZeros_0f7a4_77 ?_
    refine J.topv (b := iI ((0 : Nat) : Int)) (by decide +kernel) ?_
    refine J.iaddN (pc := 78) G dJ6_numberOfTrailingZeros_0f7a4_78 ?_
    exact J.iret (pc := 79) G hO dJ6_numberOfTrailingZeros_0f7a4_79 (by decide) (by decide) ⟨rfl, rfl, rfl⟩
  · rw [e2]
    refine J.istore_n (L' := [_, _]) (pc := 7) G dJ6_numberOfTrailingZeros_0f7a4_7 rfl (Nat.le_of_ble_eq_true rfl) rfl ?_
    refine J.iload_n (pc := 8) G dJ6_numberOfTrailingZeros_0f7a4_8 rfl ?_
    refine J.if_gtN (pc := 9) (tgt := 17) G dJ6_numberOfTrailingZeros_0f7a4_9 (by decide) (by decide) (fun _ => ?_) (fun h => absurd h (by decide))
    refine J.iconstN (pc := 17) G dJ6_numberOfTrailingZeros_0f7a4_17 1 rfl ?_
    refine J.istore_n (L' := [_, _]) (pc := 18) G dJ6_numberOfTrailingZeros_0f7a4_18 rfl (Nat.le_of_ble_eq_true rfl) rfl ?_
    refine J.iload_n (pc := 19) G dJ6_numberOfTrailingZeros_0f7a4_19 rfl ?_
    refine J.ldcw (pc := 20) G q865 dJ6_numberOfTrailingZeros_0f7a4_20 ?_
    refine J.topv (b := iI ((65536 : Nat) : Int)) (by decide +kernel) ?_
    refine J.icmp_leN (pc := 23) (tgt := 34) G dJ6_numberOfTrailingZeros_0f7a4_23 (by decide) (by decide) (by decide) (fun _ => ?_) (fun h => absurd h (by decide))
    refine J.iload_n (pc := 34) G dJ6_numberOfTrailingZeros_0f7a4_34 rfl ?_
    refine J.sipushN (pc := 35) G dJ6_numberOfTrailingZeros_0f7a4_35 256 (by decide +kernel) ?_
    refine J.icmp_leN (pc := 38) (tgt := 49) G dJ6_numberOfTrailingZeros_0f7a4_38 (by decide) (by decide) (by decide) (fun _ => ?_) (fun h => absurd h (by decide))
    refine J.iload_n (pc := 49) G dJ6_numberOfTrailingZeros_0f7a4_49 rfl ?_
    refine J.bipushN (pc := 50) G dJ6_numberOfTrailingZeros_0f7a4_50 16 (by decide +kernel) ?_
    refine J.icmp_leN (pc := 52) (tgt := 62) G dJ6_numberOfTrailingZeros_0f7a4_52 (by decide) (by decide) (by decide) (fun _ => ?_) (fun h => absurd h (by decide))
    refine J.iload_n (pc := 62) G dJ6_numberOfTrailingZeros_0f7a4_62 rfl ?_
    refine J.iconstN (pc := 63) G dJ6_numberOfTrailingZeros_0f7a4_63 4 rfl ?_
    refine J.icmp_leN (pc := 64) (tgt := 74) G dJ6_numberOfTrailingZeros_0f7a4_64 (by decide) (by decide) (by decide) (fun h => absurd h (by decide)) (fun _ => ?_)
    refine J.iincN (L' := [_, _]) (pc := 67) G dJ6_numberOfTrailingZeros_0f7a4_67 2 rfl rfl rfl rfl ?_
    refine J.iload_n (pc := 70) G dJ6_numberOfTrailingZeros_0f7a4_70 rfl ?_
    refine J.iconstN (pc := 71) G dJ6_numberOfTrailingZeros_0f7a4_71 2 rfl ?_
    refine J.iushr_r (pc := 72) G dJ6_numberOfTrailingZeros_0f7a4_72 ?_
    refine J.topv (b := iI ((3 : Nat) : Int)) (by decide +kernel) ?_
    refine J.istore_n (L' := [_, _]) (pc := 73) G dJ6_numberOfTrailingZeros_0f7a4_73 rfl (Nat.le_of_ble_eq_true rfl) rfl ?_
    refine J.iload_n (pc := 74) G dJ6_numberOfTrailingZeros_0f7a4_74 rfl ?_
    refine J.iload_n (pc := 75) G dJ6_numberOfTrailingZeros_0f7a4_75 rfl ?_
    refine J.iconstN (pc := 76) G dJ6_numberOfTrailingZeros_0f7a4_76 1 rfl ?_
    refine J.iushr_r (pc := 77) G dJ6_numberOfTrailingZeros_0f7a4_77 ?_
    refine J.topv (b := iI ((1 : Nat) : Int)) (by decide +kernel) ?_
    refine J.iaddN (pc := 78) G dJ6_numberOfTrailingZeros_0f7a4_78 ?_
    exact J.iret (pc := 79) G hO dJ6_numberOfTrailingZeros_0f7a4_79 (by decide) (by decide) ⟨rfl, rfl, rfl⟩
  · rw [e2]
    refine J.istore_n (L' := [_, _]) (pc := 7) G dJ6_numberOfTrailingZeros_0f7a4_7 rfl (Nat.le_of_ble_eq_true rfl) rfl ?_
    refine J.iload_n (pc := 8) G dJ6_numberOfTrailingZeros_0f7a4_8 rfl ?_
    refine J.if_gtN (pc := 9) (tgt := 17) G dJ6_numberOfTrailingZeros_0f7a4_9 (by decide) (by decide) (fun _ => ?_) (fun h => absurd h (by decide))
    refine J.iconstN (pc := 17) G dJ6_numberOfTrailingZeros_0f7a4_17 1 rfl ?_
    refine J.istore_n (L' := [_, _]) (pc := 18) G dJ6_numberOfTrailingZeros_0f7a4_18 rfl (Nat.le_of_ble_eq_true rfl) rfl ?_
    refine J.iload_n (pc := 19) G dJ6_numberOfTrailingZeros_0f7a4_19 rfl ?_
    refine J.ldcw (pc := 20) G q865 dJ6_numberOfTrailingZeros_0f7a4_20 ?_
    refine J.topv (b := iI ((65536 : Nat) : Int)) (by decide +kernel) ?_
    refine J.icmp_leN (pc := 23) (tgt := 34) G dJ6_numberOfTrailingZeros_0f7a4_23 (by decide) (by decide) (by decide) (fun _ => ?_) (fun h => absurd h (by decide))
    refine J.iload_n (pc := 34) G dJ6_numberOfTrailingZeros_0f7a4_34 rfl ?_
    refine J.sipushN (pc := 35) G dJ6_numberOfTrailingZeros_0f7a4_35 256 (by decide +kernel) ?_
    refine J.icmp_leN (pc := 38) (tgt := 49) G dJ6_numberOfTrailingZeros_0f7a4_38 (by decide) (by decide) (by decide) (fun _ => ?_) (fun h => absurd h (by decide))
    refine J.iload_n (pc := 49) G dJ6_numberOfTrailingZeros_0f7a4_49 rfl ?_
    refine J.bipushN (pc := 50) G dJ6_numberOfTrailingZeros_0f7a4_50 16 (by decide +kernel) ?_
    refine J.icmp_leN (pc := 52) (tgt := 62) G dJ6_numberOfTrailingZeros_0f7a4_52 (by decide) (by decide) (by decide) (fun h => absurd h (by decide)) (fun _ => ?_)
    refine J.iincN (L' := [_, _]) (pc := 55) G dJ6_numberOfTrailingZeros_0f7a4_55 4 rfl rfl rfl rfl ?_
    refine J.iload_n (pc := 58) G dJ6_numberOfTrailingZeros_0f7a4_58 rfl ?_
    refine J.iconstN (pc := 59) G dJ6_numberOfTrailingZeros_0f7a4_59 4 rfl ?_
    refine J.iushr_r (pc := 60) G dJ6_numberOfTrailingZeros_0f7a4_60 ?_
    refine J.topv (b := iI ((1 : Nat) : Int)) (by decide +kernel) ?_
    refine J.istore_n (L' := [_, _]) (pc := 61) G dJ6_numberOfTrailingZeros_0f7a4_61 rfl (Nat.le_of_ble_eq_true rfl) rfl ?_
    refine J.iload_n (pc := 62) G dJ6_numberOfTrailingZeros_0f7a4_62 rfl ?_
    refine J.iconstN (pc := 63) G dJ6_numberOfTrailingZeros_0f7a4_63 4 rfl ?_
    refine J.icmp_leN (pc := 64) (tgt := 74) G dJ6_numberOfTrailingZeros_0f7a4_64 (by decide) (by decide) (by decide) (fun _ => ?_) (fun h => absurd h (by decide))
    refine J.iload_n (pc := 74) G dJ6_numberOfTrailingZeros_0f7a4_74 rfl ?_
    refine J.iload_n (pc := 75) G dJ6_numberOfTrailingZeros_0f7a4_75 rfl ?_
    refine J.iconstN (pc := 76) G dJ6_numberOfTrailingZeros_0f7a4_76 1 rfl ?_
    refine J.iushr_r (pc := 77) G dJ6_numberOfTrailingZeros_0f7a4_77 ?_
    refine J.topv (b := iI ((0 : Nat) : Int)) (by decide +kernel) ?_
    refine J.iaddN (pc := 78) G dJ6_numberOfTrailingZeros_0f7a4_78 ?_
    exact J.iret (pc := 79) G hO dJ6_numberOfTrailingZeros_0f7a4_79 (by decide) (by decide) ⟨rfl, rfl, rfl⟩
  · rw [e2]
    refine J.istore_n (L' := [_, _]) (pc := 7) G dJ6_numberOfTrailingZeros_0f7a4_7 rfl (Nat.le_of_ble_eq_true rfl) rfl ?_
    refine J.iload_n (pc := 8) G dJ6_numberOfTrailingZeros_0f7a4_8 rfl ?_
    refine J.if_gtN (pc := 9) (tgt := 17) G dJ6_numberOfTrailingZeros_0f7a4_9 (by decide) (by decide) (fun _ => ?_) (fun h => absurd h (by decide))
    refine J.iconstN (pc := 17) G dJ6_numberOfTrailingZeros_0f7a4_17 1 rfl ?_
    refine J.istore_n (L' := [_, _]) (pc := 18) G dJ6_numberOfTrailingZeros_0f7a4_18 rfl (Nat.le_of_ble_eq_true rfl) rfl ?_
    refine J.iload_n (pc := 19) G dJ6_numberOfTrailingZeros_0f7a4_19 rfl ?_
    refine J.ldcw (pc := 20) G q865 dJ6_numberOfTrailingZeros_0f7a4_20 ?_
    refine J.topv (b := iI ((65536 : Nat) : Int)) (by decide +kernel) ?_
    refine J.icmp_leN (pc := 23) (tgt := 34) G dJ6_numberOfTrailingZeros_0f7a4_23 (by decide) (by decide) (by decide) (fun _ => ?_) (fun h => absurd h (by decide))
    refine J.iload_n (pc := 34) G dJ6_numberOfTrailingZeros_0f7a4_34 rfl ?_
    refine J.sipushN (pc := 35) G dJ6_numberOfTrailingZeros_0f7a4_35 256 (by decide +kernel) ?_
    refine J.icmp_leN (pc := 38) (tgt := 49) G dJ6_numberOfTrailingZeros_0f7a4_38 (by decide) (by decide) (by decide) (fun _ => ?_) (fun h => absurd h (by decide))
    refine J.iload_n (pc := 49) G dJ6_numberOfTrailingZeros_0f7a4_49 rfl ?_
    refine J.bipushN (pc := 50) G dJ6_numberOfTrailingZeros_0f7a4_50 16 (by decide +kernel) ?_
    refine J.icmp_leN (pc := 52) (tgt := 62) G dJ6_numberOfTrailingZeros_0f7a4_52 (by decide) (by decide) (by decide) (fun h => absurd h (by decide)) (fun _ => ?_)
    refine J.iincN (L' := [_, _]) (pc := 55) G dJ6_numberOfTrailingZeros_0f7a4_55 4 rfl rfl rfl rfl ?_
    refine J.iload_n (pc := 58) G dJ6_numberOfTrailingZeros_0f7a4_58 rfl ?_
    refine J.iconstN (pc := 59) G dJ6_numberOfTrailingZeros_0f7a4_59 4 rfl ?_
    refine J.iushr_r (pc := 60) G dJ6_numberOfTrailingZeros_0f7a4_60 ?_
    refine J.topv (b := iI ((3 : Nat) : Int)) (by decide +kernel) ?_
    refine J.istore_n (L' := [_, _]) (pc := 61) G dJ6_numberOfTrailingZeros_0f7a4_61 rfl (Nat.le_of_ble_eq_true rfl) rfl ?_
    refine J.iload_n (pc := 62) G dJ6_numberOfTrailingZeros_0f7a4_62 rfl ?_
    refine J.iconstN (pc := 63) G dJ6_numberOfTrailingZeros_0f7a4_63 4 rfl ?_
    refine J.icmp_leN (pc := 64) (tgt := 74) G dJ6_numberOfTrailingZeros_0f7a4_64 (by decide) (by decide) (by decide) (fun _ => ?_) (fun h => absurd h (by decide))
    refine J.iload_n (pc := 74) G dJ6_numberOfTrailingZeros_0f7a4_74 rfl ?_
    refine J.iload_n (pc := 75) G dJ6_numberOfTrailingZeros_0f7a4_75 rfl ?_
    refine J.iconstN (pc := 76) G dJ6_numberOfTrailingZeros_0f7a4_76 1 rfl ?_
    refine J.iushr_r (pc := 77) G dJ6_numberOfTrailingZeros_0f7a4_77 ?_
    refine J.topv (b := iI ((1 : Nat) : Int)) (by decide +kernel) ?_
    refine J.iaddN (pc := 78) G dJ6_numberOfTrailingZeros_0f7a4_78 ?_
    exact J.iret (pc := 79) G hO dJ6_numberOfTrailingZeros_0f7a4_79 (by decide) (by decide) ⟨rfl, rfl, rfl⟩
  · rw [e2]
    refine J.istore_n (L' := [_, _]) (pc := 7) G dJ6_numberOfTrailingZeros_0f7a4_7 rfl (Nat.le_of_ble_eq_true rfl) rfl ?_
    refine J.iload_n (pc := 8) G dJ6_numberOfTrailingZeros_0f7a4_8 rfl ?_
    refine J.if_gtN (pc := 9) (tgt := 17) G dJ6_numberOfTrailingZeros_0f7a4_9 (by decide) (by decide) (fun _ => ?_) (fun h => absurd h (by decide))
    refine J.iconstN (pc := 17) G dJ6_numberOfTrailingZeros_0f7a4_17 1 rfl ?_
    refine J.istore_n (L' := [_, _]) (pc := 18) G dJ6_numberOfTrailingZeros_0f7a4_18 rfl (Nat.le_of_ble_eq_true rfl) rfl ?_
    refine J.iload_n (pc := 19) G dJ6_numberOfTrailingZeros_0f7a4_19 rfl ?_
    refine J.ldcw (pc := 20) G q865 dJ6_numberOfTrailingZeros_0f7a4_20 ?_
    refine J.topv (b := iI ((65536 : Nat) : Int)) (by decide +kernel) ?_
    refine J.icmp_leN (pc := 23) (tgt := 34) G dJ6_numberOfTrailingZeros_0f7a4_23 (by decide) (by decide) (by decide) (fun _ => ?_) (fun h => absurd h (by decide))
    refine J.iload_n (pc := 34) G dJ6_numberOfTrailingZeros_0f7a4_34 rfl ?_
    refine J.sipushN (pc := 35) G dJ6_numberOfTrailingZeros_0f7a4_35 256 (by decide +kernel) ?_
    refine J.icmp_leN (pc := 38) (tgt := 49) G dJ6_numberOfTrailingZeros_0f7a4_38 (by decide) (by decide) (by decide) (fun _ => ?_) (fun h => absurd h (by decide))
    refine J.iload_n (pc := 49) G dJ6_numberOfTrailingZeros_0f7a4_49 rfl ?_
    refine J.bipushN (pc := 50) G dJ6_numberOfTrailingZeros_0f7a4_50 16 (by decide +kernel) ?_
    refine J.icmp_leN (pc := 52) (tgt := 62) G dJ6_numberOfTrailingZeros_0f7a4_52 (by decide) (by decide) (by decide) (fun h => absurd h (by decide)) (fun _ => ?_)
    refine J.iincN (L' := [_, _]) (pc := 55) G dJ6_numberOfTrailingZeros_0f7a4_55 4 rfl rfl rfl rfl ?_
    refine J.iload_n (pc := 58) G dJ6_numberOfTrailingZeros_0f7a4_58 rfl ?_
    refine J.iconstN (pc := 59) G dJ6_numberOfTrailingZeros_0f7a4_59 4 rfl ?_
    refine J.iushr_r (pc := 60) G dJ6_numberOfTrailingZeros_0f7a4_60 ?_
    refine J.topv (b := iI ((7 : Nat) : Int)) (by decide +kernel) ?_
    refine J.istore_n (L' := [_, _]) (pc := 61) G dJ6_numberOfTrailingZeros_0f7a4_61 rfl (Nat.le_of_ble_eq_true rfl) rfl ?_
    refine J.iload_n (pc := 62) G dJ6_numberOfTrailingZeros_0f7a4_62 rfl ?_
    refine J.iconstN (pc := 63) G dJ6_numberOfTrailingZeros_0f7a4_63 4 rfl ?_
    refine J.icmp_leN (pc := 64) (tgt := 74) G dJ6_numberOfTrailingZeros_0f7a4_64 (by decide) (by decide) (by decide) (fun h => absurd h (by decide)) (fun _ => ?_)
    refine J.iincN (L' := [_, _]) (pc := 67) G dJ6_numberOfTrailingZeros_0f7a4_67 2 rfl rfl rfl rfl ?_
    refine J.iload_n (pc := 70) G dJ6_numberOfTrailingZeros_0f7a4_70 rfl ?_
    refine J.iconstN (pc := 71) G dJ6_numberOfTrailingZeros_0f7a4_71 2 rfl ?_
    refine J.iushr_r (pc := 72) G dJ6_numberOfTrailingZeros_0f7a4_72 ?_
    refine J.topv (b := iI ((1 : Nat) : Int)) (by decide +kernel) ?_
    refine J.istore_n (L' := [_, _]) (pc := 73) G dJ6_numberOfTrailingZeros_0f7a4_73 rfl (Nat.le_of_ble_eq_true rfl) rfl ?_
    refine J.iload_n (pc := 74) G dJ6_numberOfTrailingZeros_0f7a4_74 rfl ?_
    refine J.iload_n (pc := 75) G dJ6_numberOfTrailingZeros_0f7a4_75 rfl ?_
    refine J.iconstN (pc := 76) G dJ6_numberOfTrailingZeros_0f7a4_76 1 rfl ?_
    refine J.iushr_r (pc := 77) G dJ6_numberOfTrailingZeros_0f7a4_77 ?_
    refine J.topv (b := iI ((0 : Nat) : Int)) (by decide +kernel) ?_
    refine J.iaddN (pc := 78) G dJ6_numberOfTrailingZeros_0f7a4_78 ?_
    exact J.iret (pc := 79) G hO dJ6_numberOfTrailingZeros_0f7a4_79 (by decide) (by decide) ⟨rfl, rfl, rfl⟩
end BIT1
