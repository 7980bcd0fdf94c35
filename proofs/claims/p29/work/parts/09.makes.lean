section MAKE1
variable {g : GT} {ow : String} {cc : ByteArray} {nL d mc ms k z n pc : Nat} {M : AH} {L : List (Option Value)} {st : List Value}
theorem va_S.grow {A : Nat → Prop} {H0 H H1 : Heap} {locs : List Loc} (hS : va_S A H0 H locs) (z1 : H1.size = H.size + 1) (o1 : ∀ q : Nat, q < H.size → H1[q]? = H[q]?) : va_S A H0 H1 locs :=
  ⟨Nat.le_trans hS.1 (by omega), fun x h1 h2 => (o1 x (Nat.lt_of_lt_of_le h1 hS.1)).trans (hS.2.1 x h1 h2), hS.2.2⟩
theorem J.new (G : Cx g ow cc nL d mc ms) {C : String} {T : u_T} {N ci idx : Nat} {fs : List Value} (hin : ∀ w ∈ u_ws C T N, w ∈ wG) (hc : vwCl[ci]? = some (C, T, N)) (ty : Nat → FieldType) (hty : ∀ k, k < N → parseFieldDescriptor (T k).2.2.1 = some (ty k)) (hwl : Cond.classLink ow idx C ∈ wG) (hwm : Cond.instantiable C N ∈ wG) (hwi : Cond.initialized C ∈ wG) (hd : decode cc pc = .ok (.new idx, 3)) (hfs : ∀ j, j < N → defaultValue (ty j) = vp_V fs j) (hk : k + 1 ≤ mc) (hz : z + N ≤ ms)
    (kk : ∀ M' : AH, M' n = some (cO ci fs) → (∀ q, q ≠ n → M' q = M q) → J g (k + 1) (z + N) (n + 1) M' L (pc + 3) (.ref n :: st)) : J g k z n M L pc st := by
  intro H locs ls hR hS hl
  have hKn := G.kw.1.1 ci _ hc
  refine W.newcK G.exec G.bytes G.own (G.words _ hwl) (G.words _ hwm) (G.words _ hwi) rfl hd (Nat.le_trans hk G.cells) (Nat.le_trans hz G.slots) hKn.2.1 hR.1 fun H1 kC hkC e1 z1 o1 => ?_
  refine kk (hset M n (cO ci fs)) hset_s (fun q hq => hset_n hq) H1 locs ls (hR.new ⟨_, hc, (u_born ty G.words hin hKn hkC e1 hty).to hfs⟩ z1 o1) (hS.grow (by rw [hR.1]; exact z1) (by rw [hR.1]; exact o1)) hl
theorem J.newarr (G : Cx g ow cc nL d mc ms) {atype : ArrayType} {ty : FieldType} {K N : Nat} {x : vp_A} (hty : newarray.typeOf atype = ty) (hK : (tyE (gE g))[K]? = some ((gE g).2 K, ty)) (hprim : refKind ty = false) (hw : Cond.arrayClass ty ∈ wG) (hx : ∀ cA : ClassId, vp_cell cA x = arrV cA N (fun _ => defaultValue ty)) (hd : decode cc pc = .ok (.newarray atype, 2)) (hN : N * componentBytes ty ≤ 536870912) (hN2 : N < 2147483648) (hk : k + 1 ≤ mc) (hz : z + N ≤ ms)
    (hname : ∀ cA : ClassId, (gs g).vm.findClass ("[" ++ ty.toString) = some cA → cA = (gE g).2 K)
    (kk : ∀ M' : AH, M' n = some (.inr (K, x)) → (∀ q, q ≠ n → M' q = M q) → J g (k + 1) (z + N) (n + 1) M' L (pc + 2) (.ref n :: st)) : J g k z n M L pc (.int (iI (N : Int)) :: st) := by
  intro H locs ls hR hS hl
  subst hty
  refine va_newaK (N := N) G.exec G.bytes (G.words _ hw) rfl hd rfl (by rw [iI_nat]; exact nI_pos hN2) (iI_cl hN2) hN (Nat.le_trans hk G.cells) (Nat.le_trans hz G.slots) hR.1 fun H1 cA e1 z1 o1 hAr hNm => ?_
  refine kk (hset M n (.inr (K, x))) hset_s (fun q hq => hset_n hq) H1 locs ls (hR.new ?_ z1 o1) (hS.grow (by rw [hR.1]; exact z1) (by rw [hR.1]; exact o1)) hl
  show H1[n]? = some (vp_cell _ _)
  rw [e1, hx, hname cA hNm]
theorem J.newI (G : Cx g ow cc nL d mc ms) {N : Nat} (hw : Cond.arrayClass .int ∈ wG) (hd : decode cc pc = .ok (.newarray .int, 2)) (hN2 : N ≤ 1000000) (hk : k + 1 ≤ mc) (hz : z + N ≤ ms)
    (kk : ∀ M' : AH, M' n = some (cA N (fun _ => 0)) → (∀ q, q ≠ n → M' q = M q) → J g (k + 1) (z + N) (n + 1) M' L (pc + 2) (.ref n :: st)) : J g k z n M L pc (.int (iI (N : Int)) :: st) := by
  refine J.newarr (ty := .int) (K := 0) (x := (N, .inl (fun _ => iI 0))) G rfl rfl rfl hw (fun cA => ?_) hd (by show N * 4 ≤ _; omega) (by omega) hk hz (fun cA h => ?_) kk
  · rw [iI_0]; rfl
  · exact Option.some.inj (h.symm.trans ((G.kw.1.2 0 _ rfl).2))
/-- a row of Logs -/
theorem J.newO (G : Cx g ow cc nL d mc ms) {N idx : Nat} (hw : Cond.classLink ow idx "ProcessMiner$Log" ∈ wG) (hd : decode cc pc = .ok (.anewarray idx, 3)) (hN2 : N ≤ 1000000) (hk : k + 1 ≤ mc) (hz : z + N ≤ ms)
    (kk : ∀ M' : AH, M' n = some (cR 4 N (fun _ => none)) → (∀ q, q ≠ n → M' q = M q) → J g (k + 1) (z + N) (n + 1) M' L (pc + 3) (.ref n :: st)) : J g k z n M L pc (.int (iI (N : Int)) :: st) := by
  intro H locs ls hR hS hl
  have hcl : (iI (N : Int)).toNatClampNeg = N := iI_cl (by omega)
  refine W.anew G.exec G.bytes G.own (G.words _ hw) (va_AO.use G.kw.2.2.2.2.2.2.1) rfl hd rfl (by rw [iI_nat]; exact nI_pos (by omega)) (by rw [hcl]; omega) (Nat.le_trans hk G.cells) (by rw [hcl]; exact Nat.le_trans hz G.slots) fun cA' kA comp f1 f2 f3 f4 => ?_
  rw [hcl]
  have hcA : cA' = (gE g).2 4 := by
    obtain ⟨_, _, _, _, _, h4⟩ := (G.kw.1.2 4 _ rfl).2
    exact Option.some.inj (f1.symm.trans h4)
  subst hcA
  generalize hH1 : H.push ({ cls := (gE g).2 4, slots := Array.replicate N .null, vm := .none } : Cell) = H1
  have z1 : H1.size = H.size + 1 := by rw [← hH1, Array.size_push]
  have e1 : H1[H.size]? = some (arrV ((gE g).2 4) N (fun _ => .null)) := by rw [← hH1, Array.getElem?_push_size, ← arrV_new]
  have o1 : ∀ q : Nat, q < H.size → H1[q]? = H[q]? := fun q hq => by rw [← hH1, Array.getElem?_push, if_neg (Nat.ne_of_lt hq)]
  have hS1 := hS.grow z1 o1
  rw [hR.1] at z1 e1 o1
  rw [hR.1]
  exact kk (hset M n (cR 4 N (fun _ => none))) hset_s (fun q hq => hset_n hq) H1 locs ls (hR.new e1 z1 o1) hS1 hl
/-- a row of rows of ints -/
theorem J.newR (G : Cx g ow cc nL d mc ms) {N idx : Nat} (hw : Cond.classLink ow idx "[I" ∈ wG) (hd : decode cc pc = .ok (.anewarray idx, 3)) (hN2 : N ≤ 1000000) (hk : k + 1 ≤ mc) (hz : z + N ≤ ms)
    (kk : ∀ M' : AH, M' n = some (cR 3 N (fun _ => none)) → (∀ q, q ≠ n → M' q = M q) → J g (k + 1) (z + N) (n + 1) M' L (pc + 3) (.ref n :: st)) : J g k z n M L pc (.int (iI (N : Int)) :: st) := by
  intro H locs ls hR hS hl
  have hcl : (iI (N : Int)).toNatClampNeg = N := iI_cl (by omega)
  have hao : (Cond.arrayOver (.array .int)).before (ga g) (gs g) = true := G.kw.2.2.2.2.2.2.2.1
  refine W.anewA (t := .int) G.exec G.bytes G.own (G.words _ hw) hao rfl hd rfl (by rw [iI_nat]; exact nI_pos (by omega)) (by rw [hcl]; omega) (Nat.le_trans hk G.cells) (by rw [hcl]; exact Nat.le_trans hz G.slots) fun cA' kA comp f1 f2 f3 f4 => ?_
  rw [hcl]
  have hcA : cA' = (gE g).2 3 := Option.some.inj (f1.symm.trans (G.kw.1.2 3 _ rfl).2)
  subst hcA
  generalize hH1 : H.push ({ cls := (gE g).2 3, slots := Array.replicate N .null, vm := .none } : Cell) = H1
  have z1 : H1.size = H.size + 1 := by rw [← hH1, Array.size_push]
  have e1 : H1[H.size]? = some (arrV ((gE g).2 3) N (fun _ => .null)) := by rw [← hH1, Array.getElem?_push_size, ← arrV_new]
  have o1 : ∀ q : Nat, q < H.size → H1[q]? = H[q]? := fun q hq => by rw [← hH1, Array.getElem?_push, if_neg (Nat.ne_of_lt hq)]
  have hS1 := hS.grow z1 o1
  rw [hR.1] at z1 e1 o1
  rw [hR.1]
  exact kk (hset M n (cR 3 N (fun _ => none))) hset_s (fun q hq => hset_n hq) H1 locs ls (hR.new e1 z1 o1) hS1 hl
/-- a Log is put into a row of Logs -/
theorem J.aastO (G : Cx g ow cc nL d mc ms) {a len v : Nat} {f : Nat → Option Nat} {fs : List Value} {zi : Int} (hd : decode cc pc = .ok (.aastore, 1)) (hM : M a = some (cR 4 len f)) (hv : M v = some (cO 0 fs)) (j : Nat) (hz : zi = (j : Int)) (hj : j < len) (hN : len < 2147483648) (kk : ∀ M' : AH, M' a = some (cR 4 len (va_up f j (some v))) → (∀ q, q ≠ a → M' q = M q) → J g k z n M' L (pc + 1) st) : J g k z n M L pc (.ref v :: .int (iI zi) :: .ref a :: st) := by
  intro H locs ls hR hS hl
  subst hz
  have hin : vp_in (iI (j : Int)) len := iI_vp hj hN
  have hcl : (iI (j : Int)).toNatClampNeg = j := iI_cl (by omega)
  have hcell : H[a]? = some (vp_cell ((gE g).2 4) (len, .inr (.inr (.inr (.inr f))))) := (hR.2.2 a _ hM).2.2
  obtain ⟨r', hr', cellV, g1, g2, g3, -⟩ := (hR.2.2 v _ hv).2.2
  have hr9 : r' = (RX0, TX0, 13) := Option.some.inj (hr'.symm.trans rfl)
  subst hr9
  have hcls := (G.kw.1.1 0 _ rfl).2
  obtain ⟨kA, comp, k1, k2, k3, -⟩ := (G.kw.1.2 4 _ rfl).2
  have hcomp : comp = (gE g).1.1 0 := Option.some.inj (k3.symm.trans hcls.1)
  subst hcomp
  obtain ⟨kC, hkC, -⟩ := hcls.2
  refine W.aast G.exec G.bytes hcell (fun q h => by cases h) (fun h => by cases h) k1 k2 rfl hkC ⟨fun q => hin (Or.inl q), by show _ < (arrV _ _ _).slots.size; rw [arrV_size, hcl]; exact hj⟩ g1 (fun q h => by rw [g3] at h; cases h) (by rw [g2]; exact hkC) (by rw [g2]; exact va_assign hcls) rfl rfl hd fun H1 e zz oq => ?_
  refine kk (hset M a (cR 4 len (va_up f j (some v)))) hset_s (fun q hq => hset_n hq) H1 _ ls (hR.set hM ?_ zz oq) (hS.put zz oq (hR.2.2 a _ hM).1) hl
  show H1[a]? = some (vp_cell _ _)
  rw [e, vp_cell_q, vp_cell_q, arrV_store, hcl]
  congr 2
  funext q
  by_cases hq : q = j
  · subst hq; simp [updV, va_up, va_rf]
  · simp [updV, va_up, hq]
/-- a row of ints is put into a row of rows -/
theorem J.aastR (G : Cx g ow cc nL d mc ms) {a len v lv9 : Nat} {f : Nat → Option Nat} {f9 : Nat → Int32} {zi : Int} (hd : decode cc pc = .ok (.aastore, 1)) (hM : M a = some (cR 3 len f)) (hv : M v = some (.inr (0, lv9, .inl f9))) (j : Nat) (hz : zi = (j : Int)) (hj : j < len) (hN : len < 2147483648) (kk : ∀ M' : AH, M' a = some (cR 3 len (va_up f j (some v))) → (∀ q, q ≠ a → M' q = M q) → J g k z n M' L (pc + 1) st) : J g k z n M L pc (.ref v :: .int (iI zi) :: .ref a :: st) := by
  intro H locs ls hR hS hl
  subst hz
  have hin : vp_in (iI (j : Int)) len := iI_vp hj hN
  have hcl : (iI (j : Int)).toNatClampNeg = j := iI_cl (by omega)
  have hcell : H[a]? = some (vp_cell ((gE g).2 3) (len, .inr (.inr (.inr (.inr f))))) := (hR.2.2 a _ hM).2.2
  have hcv : H[v]? = some (vp_cell ((gE g).2 0) (lv9, .inl f9)) := (hR.2.2 v _ hv).2.2
  have hao : (Cond.arrayOver (.array .int)).holds #[] (gs g) none (gs g) [] = true := G.kw.2.2.2.2.2.2.2.1
  obtain ⟨comp, c9, kA, k1, -, k2, k3, k4⟩ := arrayOverA_spec hao
  have hc9 : c9 = (gE g).2 3 := Option.some.inj (k4.symm.trans (G.kw.1.2 3 _ rfl).2)
  subst hc9
  have hcomp : comp = (gE g).2 0 := Option.some.inj (k1.symm.trans (G.kw.1.2 0 _ rfl).2)
  subst hcomp
  obtain ⟨kC, hkC, -⟩ := Vm.findClass_spec k1
  refine W.aast G.exec G.bytes hcell (fun q h => by cases h) (fun h => by cases h) k2 k3 rfl hkC ⟨fun q => hin (Or.inl q), by show _ < (arrV _ _ _).slots.size; rw [arrV_size, hcl]; exact hj⟩ hcv (fun q h => by cases h) hkC (va_asg _ _) rfl rfl hd fun H1 e zz oq => ?_
  refine kk (hset M a (cR 3 len (va_up f j (some v)))) hset_s (fun q hq => hset_n hq) H1 _ ls (hR.set hM ?_ zz oq) (hS.put zz oq (hR.2.2 a _ hM).1) hl
  show H1[a]? = some (vp_cell _ _)
  rw [e, vp_cell_q, vp_cell_q, arrV_store, hcl]
  congr 2
  funext q
  by_cases hq : q = j
  · subst hq; simp [updV, va_up, va_rf]
  · simp [updV, va_up, hq]
end MAKE1
