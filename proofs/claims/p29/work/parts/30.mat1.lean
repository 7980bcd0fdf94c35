section MAT1
theorem J.ishl2 {g : GT} {ow : String} {cc : ByteArray} {nL d mc ms k z n pc : Nat} {M : AH} {L : List (Option Value)} {st : List Value} (G : Cx g ow cc nL d mc ms) {b : Nat} (hd : decode cc pc = .ok (.ishl, 1)) (h : b < 30) (kk : J g k z n M L (pc + 1) (.int (iI ((2 ^ (b + 1) : Nat) : Int)) :: st)) : J g k z n M L pc (.int (iI (b : Int)) :: .int (iI ((2 : Nat) : Int)) :: st) := by
  refine J.ishl_r G hd ?_
  have e : iI ((2 : Nat) : Int) <<< (iI (b : Int) &&& 31) = iI ((2 ^ (b + 1) : Nat) : Int) := by
    have hp : 2 ^ (b + 1) < 2 ^ 31 := Nat.pow_lt_pow_right (by omega) (by omega)
    rw [iI_nat, iI_nat, iI_nat, pk_shlN _ b (b_sm b (by omega)) (by rw [Nat.pow_succ] at hp; omega)]
    congr 1
    rw [Nat.pow_succ]; omega
  rw [e]
  exact kk
set_option maxRecDepth 100000 in
set_option maxHeartbeats 4000000 in
theorem c_childOf (n : Nat) (M : AH) {a i c : Nat} {A : Nat → Nat → Nat} {P : Nat → Int} {S : Nat → Nat} {nd : List Nd} (hT : Cl M a (treeC a A P S)) (hnd : TreeIs A P S nd) (hi : i < nd.length) (hc : c < (chl nd i).length) : Fn yX2_childOf cX2_childOf 3 (some .int) 0 [.ref a, .int (iI (i : Int)), .int (iI (c : Int))] n M 0 0 (fun r n' M' => r = some (.int (iI (gd (chl nd i) c : Int))) ∧ n' = n ∧ M' = M) := by
  refine Fn.of (by decide) [some _, some _, some _] rfl rfl (Nat.le_of_ble_eq_true rfl) ?_
  intro g G hin hO
  have h64 := hnd.2.1
  have h8 := (hnd.2.2.1 i hi).2.2.2.2
  refine J.aload_n (pc := 0) G dX2_childOf_0 rfl ?_
  refine J.getf (pc := 1) (ci := 2) G inX2 rfl 4 q42 dX2_childOf_1 (hT.at 0 rfl) (by decide) rfl ?_
  refine J.iload_n (pc := 4) G dX2_childOf_4 rfl ?_
  refine J.bipushN (pc := 5) G dX2_childOf_5 8 (by decide +kernel) ?_
  refine J.imulN (pc := 7) G dX2_childOf_7 ?_
  refine J.iload_n (pc := 8) G dX2_childOf_8 rfl ?_
  refine J.iaddN (pc := 9) G dX2_childOf_9 ?_
  refine J.ialdN (pc := 10) G dX2_childOf_10 (hT.at 5 rfl) (by omega) (by decide) ?_
  exact J.iret (pc := 11) G hO dX2_childOf_11 (Nat.le_refl _) (Nat.le_refl _) ⟨by rw [h8.2 c hc], rfl, rfl⟩
theorem chl_in {nd : List Nd} {i c : Nat} (hc : c < (chl nd i).length) : gd (chl nd i) c < nd.length ∧ ndP nd (gd (chl nd i) c) = (i : Int) := by
  have hm : gd (chl nd i) c ∈ chl nd i := by
    unfold gd
    rw [List.getD_eq_getElem?_getD, List.getElem?_eq_getElem hc]
    exact List.getElem_mem hc
  generalize gd (chl nd i) c = x at hm
  unfold chl at hm
  rw [List.mem_filter, List.mem_range] at hm
  exact ⟨hm.1, of_decide_eq_true hm.2⟩
/-- what a Matcher works on: the tree, the word, what was found -/
def Mt (M : AH) (a t : Nat) (A : Nat → Nat → Nat) (S : Nat → Nat) (nd : List Nd) : Prop := Cq M a t A S ∧ (∃ B P T, Cl M t (treeC t B P T) ∧ TreeIs B P T nd) ∧ S 2 ≤ 12 ∧ (∀ i, i < 832 → A 2 i < 8192) ∧ (∀ i, i < nd.length → ndS nd i < 256) ∧ (∀ i, i < 12 → A 1 i < 256) ∧ ∀ i, i < nd.length → (ndK nd i = 2 ∨ ndK nd i = 5) → 1 ≤ (chl nd i).length
theorem or_lt13 {a b : Nat} (ha : a < 8192) (hb : b < 8192) : a ||| b < 8192 := Nat.or_lt_two_pow (n := 13) ha hb
theorem pow_lt13 {a : Nat} (ha : a ≤ 12) : 2 ^ a < 8192 := Nat.pow_lt_pow_right (a := 2) (by omega) (show a < 13 by omega)
theorem and_lt13 {a b : Nat} (ha : a < 8192) : a &&& b < 8192 := Nat.lt_of_le_of_lt Nat.and_le_left ha
def allE (wl s k : Nat) : Nat := it (fun i v => v ||| 2 ^ (s + i)) 0 k
theorem allE_lt {wl s k : Nat} (hw : wl ≤ 12) (hk : s + k ≤ wl + 1) : allE wl s k < 8192 :=
  it_inv (fun _ v => v < 8192) k (by decide) (fun i x hi hx => or_lt13 hx (pow_lt13 (by omega)))
set_option maxRecDepth 100000 in
set_option maxHeartbeats 4000000 in
theorem c_allEnds (n : Nat) (M : AH) {a t s : Nat} {A : Nat → Nat → Nat} {S : Nat → Nat} {nd : List Nd} (hm : Mt M a t A S nd) (hs : s ≤ S 2) : Fn yX1_allEnds cX1_allEnds 4 (some .int) 0 [.ref a, .int (iI (s : Int))] n M 0 0 (fun r n' M' => r = some (.int (iI ((allE (S 2) s (S 2 + 1 - s) : Nat) : Int))) ∧ n' = n ∧ M' = M) := by
  refine Fn.of (by decide) [some _, some _, none, none] rfl rfl (Nat.le_of_ble_eq_true rfl) ?_
  intro g G hin hO
  obtain ⟨hQ, -, hwl, -⟩ := hm
  refine J.iconstN (pc := 0) G dX1_allEnds_0 0 rfl ?_
  refine J.istore_n (L' := [_, _, _, _]) (pc := 1) G dX1_allEnds_1 rfl (Nat.le_of_ble_eq_true rfl) rfl ?_
  refine J.iload_n (pc := 2) G dX1_allEnds_2 rfl ?_
  refine J.istore_n (L' := [_, _, _, _]) (pc := 3) G dX1_allEnds_3 rfl (Nat.le_of_ble_eq_true rfl) rfl ?_
  have K1 : ∀ q : Nat, (s + q ≤ S 2 + 1) → J g 0 0 n M [some (.ref a), some (.int (iI (s : Int))), some (.int (iI (allE (S 2) s q : Int))), some (.int (iI ((s + q : Nat) : Int)))] 4 [] := by
    refine loopJ (fun q => S 2 + 1 - q) _ _ ?_
    intro i hi ih
    try dsimp only at hi ih ⊢
    have hstep : allE (S 2) s (i + 1) = allE (S 2) s i ||| 2 ^ (s + i) := rfl
    have hend : i = S 2 + 1 - s → allE (S 2) s i = allE (S 2) s (S 2 + 1 - s) := fun e => by rw [e]
    generalize allE (S 2) s i = v at hstep hend
    refine J.iload_n (pc := 4) G dX1_allEnds_4 rfl ?_
    refine J.aload_n (pc := 5) G dX1_allEnds_5 rfl ?_
    refine J.getf (pc := 6) (ci := 1) G inX1 rfl 2 q71 dX1_allEnds_6 (hQ.a0) (by decide) rfl ?_
    refine J.icmp_gtN (pc := 9) (tgt := 24) G dX1_allEnds_9 (by decide) (by omega) (by omega) (fun h => ?_) (fun h => ?_)
    · refine J.iload_n (pc := 24) G dX1_allEnds_24 rfl ?_
      exact J.iret (pc := 25) G hO dX1_allEnds_25 (Nat.le_refl _) (Nat.le_refl _) ⟨by rw [hend (by omega)], rfl, rfl⟩
    · refine J.iload_n (pc := 12) G dX1_allEnds_12 rfl ?_
      refine J.iconstN (pc := 13) G dX1_allEnds_13 1 rfl ?_
      refine J.iload_n (pc := 14) G dX1_allEnds_14 rfl ?_
      refine J.ishl1 (pc := 15) G dX1_allEnds_15 (by omega) ?_
      refine J.iorN (pc := 16) G dX1_allEnds_16 ?_
      refine J.istore_n (L' := [_, _, _, _]) (pc := 17) G dX1_allEnds_17 rfl (Nat.le_of_ble_eq_true rfl) rfl ?_
      refine J.iincN (L' := [_, _, _, _]) (pc := 18) G dX1_allEnds_18 1 rfl rfl rfl rfl ?_
      refine J.goto (tgt := 4) (pc := 21) G dX1_allEnds_21 (by decide) ?_
      have := ih (i + 1) (by omega) (by omega)
      rw [hstep] at this
      exact this
  exact K1 0 (by omega)
/-- the ends of a label: behind its first place, till it comes again -/
def eLab (wd : Nat → Nat) (set s k : Nat) : Nat × Nat := it (fun i (q : Nat × Nat) => (if wd (s + i) = set then q.1 + 1 else q.1, if (if wd (s + i) = set then q.1 + 1 else q.1) = 1 then q.2 ||| 2 ^ (s + i + 1) else q.2)) (0, 0) k
theorem eLab_lt {wd : Nat → Nat} {set s k : Nat} (hk : s + k ≤ 12) : (eLab wd set s k).1 ≤ k ∧ (eLab wd set s k).2 < 8192 :=
  it_inv (fun i (q : Nat × Nat) => q.1 ≤ i ∧ q.2 < 8192) k ⟨Nat.le_refl 0, (by decide : (0:Nat) < 8192)⟩ (fun i q hi hq => by
    refine ⟨?_, ?_⟩
    · show (if wd (s + i) = set then q.1 + 1 else q.1) ≤ i + 1
      split <;> omega
    · show (if (if wd (s + i) = set then q.1 + 1 else q.1) = 1 then q.2 ||| 2 ^ (s + i + 1) else q.2) < 8192
      generalize (if wd (s + i) = set then q.1 + 1 else q.1) = x
      split
      · exact or_lt13 hq.2 (pow_lt13 (by omega))
      · exact hq.2)
set_option maxRecDepth 100000 in
set_option maxHeartbeats 4000000 in
theorem c_endsOfLabel (n : Nat) (M : AH) {a t s nod : Nat} {A : Nat → Nat → Nat} {S : Nat → Nat} {nd : List Nd} (hm : Mt M a t A S nd) (hs : s ≤ S 2) (hn : nod < nd.length) : Fn yX1_endsOfLabel cX1_endsOfLabel 6 (some .int) 0 [.ref a, .int (iI (nod : Int)), .int (iI (s : Int))] n M 0 0 (fun r n' M' => r = some (.int (iI (((eLab (A 1) (ndS nd nod) s (S 2 - s)).2 : Nat) : Int))) ∧ n' = n ∧ M' = M) := by
  refine Fn.of (by decide) [some _, some _, some _, none, none, none] rfl rfl (Nat.le_of_ble_eq_true rfl) ?_
  intro g G hin hO
  obtain ⟨hQ, ⟨B, P, T, hT, hnd⟩, hwl, hen, hst, hwd, -⟩ := hm
  have h64 := hnd.2.1
  have hset : B 2 nod = ndS nd nod := (hnd.2.2.1 nod hn).2.1
  have hs8 := hst nod hn
  refine J.iconstN (pc := 0) G dX1_endsOfLabel_0 0 rfl ?_
  refine J.istore_n (L' := [_, _, _, _, _, _]) (pc := 1) G dX1_endsOfLabel_1 rfl (Nat.le_of_ble_eq_true rfl) rfl ?_
  refine J.iconstN (pc := 2) G dX1_endsOfLabel_2 0 rfl ?_
  refine J.istore (L' := [_, _, _, _, _, _]) (pc := 3) G dX1_endsOfLabel_3 rfl (Nat.le_of_ble_eq_true rfl) rfl ?_
  refine J.iload_n (pc := 5) G dX1_endsOfLabel_5 rfl ?_
  refine J.istore (L' := [_, _, _, _, _, _]) (pc := 6) G dX1_endsOfLabel_6 rfl (Nat.le_of_ble_eq_true rfl) rfl ?_
  have K1 : ∀ q : Nat, (s + q ≤ S 2) → J g 0 0 n M [some (.ref a), some (.int (iI (nod : Int))), some (.int (iI (s : Int))), some (.int (iI ((eLab (A 1) (ndS nd nod) s q).1 : Int))), some (.int (iI ((eLab (A 1) (ndS nd nod) s q).2 : Int))), some (.int (iI ((s + q : Nat) : Int)))] 8 [] := by
    refine loopJ (fun q => S 2 + 1 - q) _ _ ?_
    intro i hi ih
    try dsimp only at hi ih ⊢
    have hlt := eLab_lt (wd := A 1) (set := ndS nd nod) (s := s) (k := i) (by omega)
    have hstep : eLab (A 1) (ndS nd nod) s (i + 1) = (if A 1 (s + i) = ndS nd nod then (eLab (A 1) (ndS nd nod) s i).1 + 1 else (eLab (A 1) (ndS nd nod) s i).1, if (if A 1 (s + i) = ndS nd nod then (eLab (A 1) (ndS nd nod) s i).1 + 1 else (eLab (A 1) (ndS nd nod) s i).1) = 1 then (eLab (A 1) (ndS nd nod) s i).2 ||| 2 ^ (s + i + 1) else (eLab (A 1) (ndS nd nod) s i).2) := rfl
    have hend : i = S 2 - s → eLab (A 1) (ndS nd nod) s i = eLab (A 1) (ndS nd nod) s (S 2 - s) := fun e => by rw [e]
    generalize eLab (A 1) (ndS nd nod) s i = q at hlt hstep hend
    obtain ⟨q1, q2⟩ := q
    dsimp only at hlt hstep hend ⊢
    refine J.iload (pc := 8) G dX1_endsOfLabel_8 rfl ?_
    refine J.aload_n (pc := 10) G dX1_endsOfLabel_10 rfl ?_
    refine J.getf (pc := 11) (ci := 1) G inX1 rfl 2 q71 dX1_endsOfLabel_11 (hQ.a0) (by decide) rfl ?_
    refine J.icmp_geN (pc := 14) (tgt := 61) G dX1_endsOfLabel_14 (by decide) (by omega) (by omega) (fun h => ?_) (fun h => ?_)
    · refine J.iload (pc := 61) G dX1_endsOfLabel_61 rfl ?_
      exact J.iret (pc := 63) G hO dX1_endsOfLabel_63 (Nat.le_refl _) (Nat.le_refl _) ⟨by rw [← hend (by omega)], rfl, rfl⟩
    · have hw8 := hwd (s + i) (by omega)
      have go : ∀ q1' : Nat, q1' = (if A 1 (s + i) = ndS nd nod then q1 + 1 else q1) → J g 0 0 n M [some (.ref a), some (.int (iI (nod : Int))), some (.int (iI (s : Int))), some (.int (iI (q1' : Int))), some (.int (iI (q2 : Int))), some (.int (iI ((s + i : Nat) : Int)))] 39 [] := by
        intro q1' hq
        rw [← hq] at hstep
        have hq9 : q1' ≤ i + 1 := by rw [hq]; split <;> omega
        have nx := ih (i + 1) (by omega) (by omega)
        rw [hstep] at nx
        dsimp only at nx
        refine J.iload_n (pc := 39) G dX1_endsOfLabel_39 rfl ?_
        refine J.iconstN (pc := 40) G dX1_endsOfLabel_40 1 rfl ?_
        refine J.icmp_neN (pc := 41) (tgt := 55) G dX1_endsOfLabel_41 (by decide) (by omega) (by omega) (fun h2 => ?_) (fun h2 => ?_)
        · rw [if_neg h2] at nx
          refine J.iincN (L' := [_, _, _, _, _, _]) (pc := 55) G dX1_endsOfLabel_55 1 rfl rfl rfl rfl ?_
          refine J.goto (tgt := 8) (pc := 58) G dX1_endsOfLabel_58 (by decide) ?_
          exact nx
        · rw [if_pos h2] at nx
          refine J.iload (pc := 44) G dX1_endsOfLabel_44 rfl ?_
          refine J.iconstN (pc := 46) G dX1_endsOfLabel_46 1 rfl ?_
          refine J.iload (pc := 47) G dX1_endsOfLabel_47 rfl ?_
          refine J.iconstN (pc := 49) G dX1_endsOfLabel_49 1 rfl ?_
          refine J.iaddN (pc := 50) G dX1_endsOfLabel_50 ?_
          refine J.ishl1 (pc := 51) G dX1_endsOfLabel_51 (by omega) ?_
          refine J.iorN (pc := 52) G dX1_endsOfLabel_52 ?_
          refine J.istore (L' := [_, _, _, _, _, _]) (pc := 53) G dX1_endsOfLabel_53 rfl (Nat.le_of_ble_eq_true rfl) rfl ?_
          refine J.iincN (L' := [_, _, _, _, _, _]) (pc := 55) G dX1_endsOfLabel_55 1 rfl rfl rfl rfl ?_
          refine J.goto (tgt := 8) (pc := 58) G dX1_endsOfLabel_58 (by decide) ?_
          exact nx
      refine J.aload_n (pc := 17) G dX1_endsOfLabel_17 rfl ?_
      refine J.getf (pc := 18) (ci := 1) G inX1 rfl 1 q70 dX1_endsOfLabel_18 (hQ.a0) (by decide) rfl ?_
      refine J.iload (pc := 21) G dX1_endsOfLabel_21 rfl ?_
      refine J.ialdN (pc := 23) G dX1_endsOfLabel_23 (hQ.a1) (by omega) (by decide) ?_
      refine J.aload_n (pc := 24) G dX1_endsOfLabel_24 rfl ?_
      refine J.getf (pc := 25) (ci := 1) G inX1 rfl 0 q69 dX1_endsOfLabel_25 (hQ.a0) (by decide) rfl ?_
      refine J.getf (pc := 28) (ci := 2) G inX2 rfl 1 q35 dX1_endsOfLabel_28 (hT.at 0 rfl) (by decide) rfl ?_
      refine J.iload_n (pc := 31) G dX1_endsOfLabel_31 rfl ?_
      refine J.ialdN (pc := 32) G dX1_endsOfLabel_32 (hT.at 2 rfl) (by omega) (by decide) ?_
      rw [hset]
      refine J.icmp_neN (pc := 33) (tgt := 39) G dX1_endsOfLabel_33 (by decide) (by omega) (by omega) (fun h3 => ?_) (fun h3 => ?_)
      · exact go q1 (by rw [if_neg h3])
      · refine J.iincN (L' := [_, _, _, _, _, _]) (pc := 36) G dX1_endsOfLabel_36 1 rfl rfl rfl rfl ?_
        exact go (q1 + 1) (by rw [if_pos h3])
  exact K1 0 (by omega)
/-- the ends that a child reaches before a label of its siblings comes -/
def lastF (wd : Nat → Nat) (fo s wl : Nat) : Nat := s + firstU (fun i => decide (wd (s + i) &&& fo ≠ 0)) (wl - s)
def eChi (nd : List Nd) (wd en : Nat → Nat) (wl nod c s : Nat) : Nat := en (c * 13 + s) &&& (2 ^ (lastF wd (andn (ndS nd nod) (ndS nd c)) s wl + 1) - 1)
set_option maxRecDepth 100000 in
set_option maxHeartbeats 4000000 in
theorem c_endsOfChild (n : Nat) (M : AH) {a t s nod c : Nat} {A : Nat → Nat → Nat} {S : Nat → Nat} {nd : List Nd} (hm : Mt M a t A S nd) (hs : s ≤ S 2) (hn : nod < nd.length) (hc : c < nd.length) : Fn yX1_endsOfChild cX1_endsOfChild 6 (some .int) 0 [.ref a, .int (iI (nod : Int)), .int (iI (c : Int)), .int (iI (s : Int))] n M 0 0 (fun r n' M' => r = some (.int (iI ((eChi nd (A 1) (A 2) (S 2) nod c s : Nat) : Int))) ∧ n' = n ∧ M' = M) := by
  refine Fn.of (by decide) [some _, some _, some _, some _, none, none] rfl rfl (Nat.le_of_ble_eq_true rfl) ?_
  intro g G hin hO
  obtain ⟨hQ, ⟨B, P, T, hT, hnd⟩, hwl, hen, hst, hwd, -⟩ := hm
  have h64 := hnd.2.1
  have hset : B 2 nod = ndS nd nod := (hnd.2.2.1 nod hn).2.1
  have hset2 : B 2 c = ndS nd c := (hnd.2.2.1 c hc).2.1
  refine J.aload_n (pc := 0) G dX1_endsOfChild_0 rfl ?_
  refine J.getf (pc := 1) (ci := 1) G inX1 rfl 0 q69 dX1_endsOfChild_1 (hQ.a0) (by decide) rfl ?_
  refine J.getf (pc := 4) (ci := 2) G inX2 rfl 1 q35 dX1_endsOfChild_4 (hT.at 0 rfl) (by decide) rfl ?_
  refine J.iload_n (pc := 7) G dX1_endsOfChild_7 rfl ?_
  refine J.ialdN (pc := 8) G dX1_endsOfChild_8 (hT.at 2 rfl) (by omega) (by decide) ?_
  rw [hset]
  refine J.aload_n (pc := 9) G dX1_endsOfChild_9 rfl ?_
  refine J.getf (pc := 10) (ci := 1) G inX1 rfl 0 q69 dX1_endsOfChild_10 (hQ.a0) (by decide) rfl ?_
  refine J.getf (pc := 13) (ci := 2) G inX2 rfl 1 q35 dX1_endsOfChild_13 (hT.at 0 rfl) (by decide) rfl ?_
  refine J.iload_n (pc := 16) G dX1_endsOfChild_16 rfl ?_
  refine J.ialdN (pc := 17) G dX1_endsOfChild_17 (hT.at 2 rfl) (by omega) (by decide) ?_
  rw [hset2]
  refine J.andnN (pc := 18) G dX1_endsOfChild_18 dX1_endsOfChild_19 dX1_endsOfChild_20 ?_
  have hfo : andn (ndS nd nod) (ndS nd c) < 256 := andn_lt8 (hst nod hn)
  refine J.istore (L' := [_, _, _, _, _, _]) (pc := 21) G dX1_endsOfChild_21 rfl (Nat.le_of_ble_eq_true rfl) rfl ?_
  refine J.iload_n (pc := 23) G dX1_endsOfChild_23 rfl ?_
  refine J.istore (L' := [_, _, _, _, _, _]) (pc := 24) G dX1_endsOfChild_24 rfl (Nat.le_of_ble_eq_true rfl) rfl ?_
  unfold eChi at hO
  generalize andn (ndS nd nod) (ndS nd c) = fo at hfo hO ⊢
  have fin : ∀ x : Nat, x ≤ 12 → x = lastF (A 1) fo s (S 2) → J g 0 0 n M [some (.ref a), some (.int (iI (nod : Int))), some (.int (iI (c : Int))), some (.int (iI (s : Int))), some (.int (iI (fo : Int))), some (.int (iI (x : Int)))] 54 [] := by
    intro x hx he
    have hp : 1 ≤ 2 ^ (x + 1) := Nat.one_le_two_pow
    refine J.aload_n (pc := 54) G dX1_endsOfChild_54 rfl ?_
    refine J.getf (pc := 55) (ci := 1) G inX1 rfl 3 q72 dX1_endsOfChild_55 (hQ.a0) (by decide) rfl ?_
    refine J.iload_n (pc := 58) G dX1_endsOfChild_58 rfl ?_
    refine J.bipushN (pc := 59) G dX1_endsOfChild_59 13 (by decide +kernel) ?_
    refine J.imulN (pc := 61) G dX1_endsOfChild_61 ?_
    refine J.iload_n (pc := 62) G dX1_endsOfChild_62 rfl ?_
    refine J.iaddN (pc := 63) G dX1_endsOfChild_63 ?_
    refine J.ialdN (pc := 64) G dX1_endsOfChild_64 (hQ.a2) (by omega) (by decide) ?_
    refine J.iconstN (pc := 65) G dX1_endsOfChild_65 2 rfl ?_
    refine J.iload (pc := 66) G dX1_endsOfChild_66 rfl ?_
    refine J.ishl2 (pc := 68) G dX1_endsOfChild_68 (by omega) ?_
    refine J.iconstN (pc := 69) G dX1_endsOfChild_69 1 rfl ?_
    refine J.isubN (pc := 70) G dX1_endsOfChild_70 (by omega) ?_
    refine J.iandN (pc := 71) G dX1_endsOfChild_71 ?_
    exact J.iret (pc := 72) G hO dX1_endsOfChild_72 (Nat.le_refl _) (Nat.le_refl _) ⟨by rw [he], rfl, rfl⟩
  have K1 : ∀ q : Nat, (s + q ≤ S 2 ∧ ∀ j, j < q → decide (A 1 (s + j) &&& fo ≠ 0) = false) → J g 0 0 n M [some (.ref a), some (.int (iI (nod : Int))), some (.int (iI (c : Int))), some (.int (iI (s : Int))), some (.int (iI (fo : Int))), some (.int (iI ((s + q : Nat) : Int)))] 26 [] := by
    refine loopJ (fun q => S 2 + 1 - q) _ _ ?_
    rintro i ⟨hi, hno⟩ ih
    try dsimp only at hi ih ⊢
    refine J.iload (pc := 26) G dX1_endsOfChild_26 rfl ?_
    refine J.aload_n (pc := 28) G dX1_endsOfChild_28 rfl ?_
    refine J.getf (pc := 29) (ci := 1) G inX1 rfl 2 q71 dX1_endsOfChild_29 (hQ.a0) (by decide) rfl ?_
    refine J.icmp_geN (pc := 32) (tgt := 54) G dX1_endsOfChild_32 (by decide) (by omega) (by omega) (fun h => ?_) (fun h => ?_)
    · refine fin (s + i) (by omega) ?_
      unfold lastF
      rw [show S 2 - s = i by omega, firstU_no hno]
    · have hw8 := hwd (s + i) (by omega)
      have hw9 : A 1 (s + i) &&& fo < 256 := and_lt8 hw8
      refine J.aload_n (pc := 35) G dX1_endsOfChild_35 rfl ?_
      refine J.getf (pc := 36) (ci := 1) G inX1 rfl 1 q70 dX1_endsOfChild_36 (hQ.a0) (by decide) rfl ?_
      refine J.iload (pc := 39) G dX1_endsOfChild_39 rfl ?_
      refine J.ialdN (pc := 41) G dX1_endsOfChild_41 (hQ.a1) (by omega) (by decide) ?_
      refine J.iload (pc := 42) G dX1_endsOfChild_42 rfl ?_
      refine J.iandN (pc := 44) G dX1_endsOfChild_44 ?_
      refine J.if_neN (pc := 45) (tgt := 54) G dX1_endsOfChild_45 (by decide) (by omega) (fun h2 => ?_) (fun h2 => ?_)
      · refine fin (s + i) (by omega) ?_
        unfold lastF
        rw [firstU_hit hno (by simpa using (by omega : A 1 (s + i) &&& fo ≠ 0)) (by omega)]
      · refine J.iincN (L' := [_, _, _, _, _, _]) (pc := 48) G dX1_endsOfChild_48 1 rfl rfl rfl rfl ?_
        refine J.goto (tgt := 26) (pc := 51) G dX1_endsOfChild_51 (by decide) ?_
        refine ih (i + 1) ⟨by omega, fun j hj => ?_⟩ (by omega)
        by_cases e : j = i
        · subst e; rw [h2]; rfl
        · exact hno j (by omega)
  exact K1 0 ⟨by omega, fun j hj => absurd hj (Nat.not_lt_zero j)⟩
end MAT1
