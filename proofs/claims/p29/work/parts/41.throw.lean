section THROW1
def tN : List String := ["java/lang/RuntimeException", "java/lang/Exception"]
def TwOk (ik ic : Nat) (cls : String) : Prop := Bundle.fit cls = true ∧ (∀ w ∈ (vx_atS "ProcessMiner" ic cls tN).filter goodWord, w ∈ tables_1) ∧ (∀ w ∈ (vx_atS "ProcessMiner" ic cls tN).filter (fun w => !goodWord w), w ∈ ndG.map Cond.declares ++ ncG.map (fun q => Cond.castable q.1 q.2)) ∧ (∀ w ∈ Cond.classLink "ProcessMiner" ik cls :: Cond.initialized cls :: vx_atS "ProcessMiner" ic cls tN, vx_ot w = true) ∧ Cond.classLink "ProcessMiner" ik cls ∈ wG ∧ Cond.initialized cls ∈ wG
set_option maxRecDepth 100000 in
theorem twI : TwOk 73 77 "java/lang/IndexOutOfBoundsException" := ⟨by decide +kernel, by decide +kernel, by decide +kernel, by decide +kernel, q342, q9⟩
set_option maxRecDepth 100000 in
theorem twS : TwOk 56 60 "java/lang/IllegalStateException" := ⟨by decide +kernel, by decide +kernel, by decide +kernel, by decide +kernel, q410, q10⟩
set_option maxRecDepth 100000 in
theorem twA : TwOk 157 161 "java/lang/IllegalArgumentException" := ⟨by decide +kernel, by decide +kernel, by decide +kernel, by decide +kernel, q437, q11⟩
theorem Rp.more {E : En} {lo n : Nat} {M : AH} {H H' : Heap} (hR : Rp E lo n M H) (hs : H.size ≤ H'.size) (ho : ∀ q : Nat, q < H.size → H'[q]? = H[q]?) : Rp E lo H'.size M H' := by
  refine ⟨rfl, by have := hR.1; have := hR.2.1; omega, fun a x h => ?_⟩
  obtain ⟨h1, h2, h3⟩ := hR.2.2 a x h
  have hn := hR.1
  exact ⟨h1, by omega, h3.kept (ho a (by omega))⟩
theorem J.throwS {g : GT} {cc : ByteArray} {nL d mc ms k z n pc : Nat} {M : AH} {L : List (Option Value)} {st : List Value} (G : Cx g "ProcessMiner" cc nL d mc ms) {post : Option Value → Nat → AH → Prop} {xpost : String → Nat → AH → Prop} (hT : gQ g = vx_MQ (gb g) (QcF (gE g) (glo g) post) (XcF (gE g) (glo g) xpost) (ga g) (gs g) mc ms (fun q => glo g ≤ q)) (htab : ∀ x ∈ (gc g).exceptionTable.toList, False) {ik ic is : Nat} {cls text : String} (htw : TwOk ik ic cls) (hs9 : (is, text) ∈ nsG) (d0 : decode cc pc = .ok (.new ik, 3)) (d3 : decode cc (pc + 3) = .ok (.dup, 1)) (d4 : decode cc (pc + 4) = .ok (.ldc is, 2)) (d6 : decode cc (pc + 6) = .ok (.invokespecial ic, 3)) (d9 : decode cc (pc + 9) = .ok (.athrow, 1)) (hd : 6 ≤ d) (hk : k + 1 ≤ mc) (hz : z + 6 ≤ ms) (hst : (st.map fun v => v.category).sum ≤ 8) (hnL : L.length = nL) (hxp : ∀ n', n ≤ n' → xpost cls n' M) : J g k z n M L pc st := by
  intro H locs ls hR hS hl
  obtain ⟨t1, t2, t3, t4, t5, t6⟩ := htw
  obtain ⟨-, -, k3, k4, k5, -, -, -, k9, k10⟩ := G.kw
  obtain ⟨sa, hsa⟩ := k5 _ hs9
  have hat : ∀ w ∈ vx_atS "ProcessMiner" ic cls tN, w.before (ga g) (gs g) = true := vx_hat (B := ndG.map Cond.declares ++ ncG.map (fun q => Cond.castable q.1 q.2)) (fun w hw => G.words w (List.mem_filter.mpr ⟨List.mem_append_right _ (t2 w hw), (List.mem_filter.mp hw).2⟩)) t3 (fun w hw => by
    rcases List.mem_append.mp hw with hw | hw
    · obtain ⟨q, hq, rfl⟩ := List.mem_map.mp hw
      exact (k4 q hq).use rfl
    · obtain ⟨q, hq, rfl⟩ := List.mem_map.mp hw
      exact (k3 q hq).use rfl)
  have hn := hR.1
  rw [hT]
  refine vx_throwS (A := fun q => glo g ≤ q) (names := tN) G.exec G.bytes G.notr G.own t1 (by decide) (G.words _ t5) (G.words _ t6) hsa hat t4 k9 k10 hS ((hl.1.trans hnL).trans G.maxl.symm) d0 d3 d4 d6 d9 (fun x hx => (htab x hx).elim) ?_ ?_ (Nat.le_trans hk G.cells) (Nat.le_trans hz G.slots) G.locks (fun t _ h1 h2 => ⟨t.heap.size, M, hxp _ (by omega), hR.more h1 h2, Nat.le_trans hS.1 h1, fun q hq hA => (h2 q (Nat.lt_of_lt_of_le hq hS.1)).trans (hS.2.1 q hq hA)⟩) hS.2.2 hk hz
  · have := G.frames; show 5 < _; omega
  · have := G.locals; show _ + 82 ≤ _; omega
end THROW1
