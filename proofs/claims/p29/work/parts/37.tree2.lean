section TREE2
theorem J.mmin {g : GT} {ow : String} {cc : ByteArray} {nL d mc ms k z n pc : Nat} {M : AH} {L : List (Option Value)} {st : List Value} (G : Cx g ow cc nL d mc ms) {idx a b : Nat} (hwl : Cond.methodLink ow idx ⟨"java/lang/Math", "min", "(II)I"⟩ ∈ wG) (hd : decode cc pc = .ok (.invokestatic idx, 3)) (hdp : 1 ≤ d) (hst : (st.map fun v => v.category).sum ≤ 8) (hnL : L.length = nL) (hk : k ≤ mc) (hz : z ≤ ms) (ha : a < 2147483648) (hb : b < 2147483648) (kk : J g k z n M L (pc + 3) (.int (iI ((min a b : Nat) : Int)) :: st)) : J g k z n M L pc (.int (iI (b : Int)) :: .int (iI (a : Int)) :: st) := by
  intro H locs ls hR hS hl
  refine va_mmin G.exec G.bytes (G.maxl.trans (hl.1.trans hnL).symm) G.own (G.words _ hwl) (G.words _ q587) (G.words _ q14) (G.words _ q588) (Nat.le_trans hdp G.frames) (Nat.le_trans ?_ G.locals) (Nat.le_trans hk G.cells) (Nat.le_trans hz G.slots) hd ?_
  · show (st.map fun v => v.category).sum + 13 ≤ 40 * d
    omega
  · have e : (if iI (b : Int) < iI (a : Int) then iI (b : Int) else iI (a : Int)) = iI ((min a b : Nat) : Int) := by
      simp only [Int32.lt_iff_toInt_lt]
      rw [iI_toInt (by omega) (by omega), iI_toInt (by omega) (by omega)]
      split
      · congr 2; omega
      · congr 2; omega
    rw [e]
    exact kk H locs ls hR hS hl
def leC (nd : List Nd) (f : Nat → Nat) (i k : Nat) : Nat := it (fun j v => min v (f (gd (chl nd i) (1 + j)))) (f (gd (chl nd i) 0)) k
def sumC (nd : List Nd) (f : Nat → Nat) (i k : Nat) : Nat := it (fun j v => v + f (gd (chl nd i) j)) 0 k
def lbC (nd : List Nd) (f : Nat → Nat) (i : Nat) : Nat :=
  if ndK nd i = 1 then 1 else
  if ndK nd i = 2 then leC nd f i ((chl nd i).length - 1) else
  if ndK nd i = 3 ∨ ndK nd i = 4 then sumC nd f i (chl nd i).length else
  if ndK nd i = 5 then f (gd (chl nd i) 0) else 0
set_option maxRecDepth 100000 in
set_option maxHeartbeats 4000000 in
theorem c_sumOfChildren (n : Nat) (M : AH) {a i : Nat} {A : Nat → Nat → Nat} {P : Nat → Int} {S : Nat → Nat} {nd : List Nd} (hT : Cl M a (treeC a A P S)) (hnd : TreeIs A P S nd) (hi : i < nd.length) : Fn yX2_sumOfChildren cX2_sumOfChildren 4 (some .int) 1 [.ref a, .int (iI (i : Int))] n M 0 0 (fun r n' M' => r = some (.int (iI ((sumC nd (A 6) i (chl nd i).length : Nat) : Int))) ∧ n' = n ∧ M' = M) := by
  refine Fn.of (by decide) [some _, some _, none, none] rfl rfl (Nat.le_of_ble_eq_true rfl) ?_
  intro g G hin hO
  have h64 := hnd.2.1
  have hk := hnd.kids hi
  refine J.iconstN (pc := 0) G dX2_sumOfChildren_0 0 rfl ?_
  refine J.istore_n (L' := [_, _, _, _]) (pc := 1) G dX2_sumOfChildren_1 rfl (Nat.le_of_ble_eq_true rfl) rfl ?_
  refine J.iconstN (pc := 2) G dX2_sumOfChildren_2 0 rfl ?_
  refine J.istore_n (L' := [_, _, _, _]) (pc := 3) G dX2_sumOfChildren_3 rfl (Nat.le_of_ble_eq_true rfl) rfl ?_
  have K1 : ∀ j : Nat, j ≤ (chl nd i).length → J g 0 0 n M [some (.ref a), some (.int (iI (i : Int))), some (.int (iI (sumC nd (A 6) i j : Int))), some (.int (iI (j : Int)))] 4 [] := by
    refine loopJ (fun j => (chl nd i).length - j) _ _ ?_
    intro j hj ih
    refine J.iload_n (pc := 4) G dX2_sumOfChildren_4 rfl ?_
    refine J.aload_n (pc := 5) G dX2_sumOfChildren_5 rfl ?_
    refine J.getf (pc := 6) (ci := 2) G inX2 rfl 3 q39 dX2_sumOfChildren_6 (hT.at 0 rfl) (by decide) rfl ?_
    refine J.iload_n (pc := 9) G dX2_sumOfChildren_9 rfl ?_
    refine J.ialdN (pc := 10) G dX2_sumOfChildren_10 (hT.at 4 rfl) (by omega) (by decide) ?_
    rw [hk.1]
    refine J.icmp_geN (pc := 11) (tgt := 34) G dX2_sumOfChildren_11 (by decide) (by omega) (by omega) (fun h => ?_) (fun h => ?_)
    · refine J.iload_n (pc := 34) G dX2_sumOfChildren_34 rfl ?_
      exact J.iret (pc := 35) G hO dX2_sumOfChildren_35 (Nat.le_refl _) (Nat.le_refl _) ⟨by rw [show j = (chl nd i).length by omega], rfl, rfl⟩
    · have hin9 := chl_in (nd := nd) (i := i) (c := j) (by omega)
      refine J.iload_n (pc := 14) G dX2_sumOfChildren_14 rfl ?_
      refine J.aload_n (pc := 15) G dX2_sumOfChildren_15 rfl ?_
      refine J.getf (pc := 16) (ci := 2) G inX2 rfl 5 q43 dX2_sumOfChildren_16 (hT.at 0 rfl) (by decide) rfl ?_
      refine J.aload_n (pc := 19) G dX2_sumOfChildren_19 rfl ?_
      refine J.iload_n (pc := 20) G dX2_sumOfChildren_20 rfl ?_
      refine J.iload_n (pc := 21) G dX2_sumOfChildren_21 rfl ?_
      refine J.callV (pc := 22) (na := 2) G (c_childOf n M hT hnd hi h) q585 q563 q564 q565 q2 (by decide +kernel) dX2_sumOfChildren_22 (hT.at 0 rfl) rfl rfl (Nat.le_of_ble_eq_true rfl) rfl ⟨by omega, by decide, by omega, by omega⟩ ?_
      rintro r9 n9 M9 ⟨hr9, hn9, hM9⟩
      subst hr9
      rw [hn9, hM9]
      clear hn9 hM9 n9 M9
      dsimp only [Option.toList, List.cons_append, List.nil_append]
      refine J.ialdN (pc := 25) G dX2_sumOfChildren_25 (hT.at 6 rfl) (by omega) (by decide) ?_
      refine J.iaddN (pc := 26) G dX2_sumOfChildren_26 ?_
      refine J.istore_n (L' := [_, _, _, _]) (pc := 27) G dX2_sumOfChildren_27 rfl (Nat.le_of_ble_eq_true rfl) rfl ?_
      refine J.iincN (L' := [_, _, _, _]) (pc := 28) G dX2_sumOfChildren_28 1 rfl rfl rfl rfl ?_
      refine J.goto (pc := 31) (tgt := 4) G dX2_sumOfChildren_31 (by decide) ?_
      exact ih (j + 1) (by omega) (by omega)
  exact K1 0 (Nat.zero_le _)
set_option maxRecDepth 100000 in
set_option maxHeartbeats 4000000 in
theorem c_leastOfChildren (n : Nat) (M : AH) {a i : Nat} {A : Nat → Nat → Nat} {P : Nat → Int} {S : Nat → Nat} {nd : List Nd} (hT : Cl M a (treeC a A P S)) (hnd : TreeIs A P S nd) (hi : i < nd.length) (h1 : 1 ≤ (chl nd i).length) (hv : ∀ c, c < (chl nd i).length → A 6 (gd (chl nd i) c) < 2147483648) : Fn yX2_leastOfChildren cX2_leastOfChildren 4 (some .int) 1 [.ref a, .int (iI (i : Int))] n M 0 0 (fun r n' M' => r = some (.int (iI ((leC nd (A 6) i ((chl nd i).length - 1) : Nat) : Int))) ∧ n' = n ∧ M' = M) := by
  refine Fn.of (by decide) [some _, some _, none, none] rfl rfl (Nat.le_of_ble_eq_true rfl) ?_
  intro g G hin hO
  have h64 := hnd.2.1
  have hk := hnd.kids hi
  have hin0 := chl_in (nd := nd) (i := i) (c := 0) (by omega)
  refine J.aload_n (pc := 0) G dX2_leastOfChildren_0 rfl ?_
  refine J.getf (pc := 1) (ci := 2) G inX2 rfl 5 q43 dX2_leastOfChildren_1 (hT.at 0 rfl) (by decide) rfl ?_
  refine J.aload_n (pc := 4) G dX2_leastOfChildren_4 rfl ?_
  refine J.iload_n (pc := 5) G dX2_leastOfChildren_5 rfl ?_
  refine J.iconstN (pc := 6) G dX2_leastOfChildren_6 0 rfl ?_
  refine J.callV (pc := 7) (na := 2) G (c_childOf n M hT hnd hi h1) q585 q563 q564 q565 q2 (by decide +kernel) dX2_leastOfChildren_7 (hT.at 0 rfl) rfl rfl (Nat.le_of_ble_eq_true rfl) rfl ⟨by omega, by decide, by omega, by omega⟩ ?_
  rintro r9 n9 M9 ⟨hr9, hn9, hM9⟩
  subst hr9
  rw [hn9, hM9]
  clear hn9 hM9 n9 M9
  dsimp only [Option.toList, List.cons_append, List.nil_append]
  refine J.ialdN (pc := 10) G dX2_leastOfChildren_10 (hT.at 6 rfl) (by omega) (by decide) ?_
  refine J.istore_n (L' := [_, _, _, _]) (pc := 11) G dX2_leastOfChildren_11 rfl (Nat.le_of_ble_eq_true rfl) rfl ?_
  refine J.iconstN (pc := 12) G dX2_leastOfChildren_12 1 rfl ?_
  refine J.istore_n (L' := [_, _, _, _]) (pc := 13) G dX2_leastOfChildren_13 rfl (Nat.le_of_ble_eq_true rfl) rfl ?_
  have K1 : ∀ j : Nat, j ≤ (chl nd i).length - 1 → J g 0 0 n M [some (.ref a), some (.int (iI (i : Int))), some (.int (iI (leC nd (A 6) i j : Int))), some (.int (iI ((1 + j : Nat) : Int)))] 14 [] := by
    refine loopJ (fun j => (chl nd i).length - j) _ _ ?_
    intro j hj ih
    have hm : leC nd (A 6) i j < 2147483648 := it_inv (fun _ v => v < 2147483648) j (hv 0 (by omega)) (fun j' x hj' hx => by omega)
    refine J.iload_n (pc := 14) G dX2_leastOfChildren_14 rfl ?_
    refine J.aload_n (pc := 15) G dX2_leastOfChildren_15 rfl ?_
    refine J.getf (pc := 16) (ci := 2) G inX2 rfl 3 q39 dX2_leastOfChildren_16 (hT.at 0 rfl) (by decide) rfl ?_
    refine J.iload_n (pc := 19) G dX2_leastOfChildren_19 rfl ?_
    refine J.ialdN (pc := 20) G dX2_leastOfChildren_20 (hT.at 4 rfl) (by omega) (by decide) ?_
    rw [hk.1]
    refine J.icmp_geN (pc := 21) (tgt := 46) G dX2_leastOfChildren_21 (by decide) (by omega) (by omega) (fun h => ?_) (fun h => ?_)
    · refine J.iload_n (pc := 46) G dX2_leastOfChildren_46 rfl ?_
      exact J.iret (pc := 47) G hO dX2_leastOfChildren_47 (Nat.le_refl _) (Nat.le_refl _) ⟨by rw [show j = (chl nd i).length - 1 by omega], rfl, rfl⟩
    · have hin9 := chl_in (nd := nd) (i := i) (c := 1 + j) (by omega)
      refine J.iload_n (pc := 24) G dX2_leastOfChildren_24 rfl ?_
      refine J.aload_n (pc := 25) G dX2_leastOfChildren_25 rfl ?_
      refine J.getf (pc := 26) (ci := 2) G inX2 rfl 5 q43 dX2_leastOfChildren_26 (hT.at 0 rfl) (by decide) rfl ?_
      refine J.aload_n (pc := 29) G dX2_leastOfChildren_29 rfl ?_
      refine J.iload_n (pc := 30) G dX2_leastOfChildren_30 rfl ?_
      refine J.iload_n (pc := 31) G dX2_leastOfChildren_31 rfl ?_
      refine J.callV (pc := 32) (na := 2) G (c_childOf n M hT hnd hi h) q585 q563 q564 q565 q2 (by decide +kernel) dX2_leastOfChildren_32 (hT.at 0 rfl) rfl rfl (Nat.le_of_ble_eq_true rfl) rfl ⟨by omega, by decide, by omega, by omega⟩ ?_
      rintro r9 n9 M9 ⟨hr9, hn9, hM9⟩
      subst hr9
      rw [hn9, hM9]
      clear hn9 hM9 n9 M9
      dsimp only [Option.toList, List.cons_append, List.nil_append]
      refine J.ialdN (pc := 35) G dX2_leastOfChildren_35 (hT.at 6 rfl) (by omega) (by decide) ?_
      refine J.mmin (pc := 36) G q586 dX2_leastOfChildren_36 (by decide) (Nat.le_of_ble_eq_true rfl) rfl (by decide) (by decide) hm (hv (1 + j) h) ?_
      refine J.istore_n (L' := [_, _, _, _]) (pc := 39) G dX2_leastOfChildren_39 rfl (Nat.le_of_ble_eq_true rfl) rfl ?_
      refine J.iincN (L' := [_, _, _, _]) (pc := 40) G dX2_leastOfChildren_40 1 rfl rfl rfl rfl ?_
      refine J.goto (pc := 43) (tgt := 14) G dX2_leastOfChildren_43 (by decide) ?_
      exact ih (j + 1) (by omega) (by omega)
  exact K1 0 (Nat.zero_le _)
end TREE2
