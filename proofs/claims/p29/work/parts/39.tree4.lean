section TREE4
/-- the sums row plays no part in what the tree says -/
theorem TreeIs.sums {A : Nat → Nat → Nat} {P : Nat → Int} {S : Nat → Nat} {nd : List Nd} (h : TreeIs A P S nd) (f : Nat → Nat) : TreeIs (upAN A 6 f) P S nd := h
def ChOk (nd : List Nd) : Prop := ∀ i, i < nd.length → (ndK nd i = 2 ∨ ndK nd i = 5) → 1 ≤ (chl nd i).length
set_option maxRecDepth 100000 in
set_option maxHeartbeats 4000000 in
theorem c_leastByChildren (n : Nat) (M : AH) {a i : Nat} {A : Nat → Nat → Nat} {P : Nat → Int} {S : Nat → Nat} {nd : List Nd} (hT : Cl M a (treeC a A P S)) (hnd : TreeIs A P S nd) (hi : i < nd.length) (hkd : ndK nd i ≤ 6) (hch : (ndK nd i = 2 ∨ ndK nd i = 5) → 1 ≤ (chl nd i).length) (hv : ∀ c, c < (chl nd i).length → A 6 (gd (chl nd i) c) < 2147483648) : Fn yX2_leastByChildren cX2_leastByChildren 2 (some .int) 2 [.ref a, .int (iI (i : Int))] n M 0 0 (fun r n' M' => r = some (.int (iI ((lbC nd (A 6) i : Nat) : Int))) ∧ n' = n ∧ M' = M) := by
  refine Fn.of (by decide) [some _, some _] rfl rfl (Nat.le_of_ble_eq_true rfl) ?_
  intro g G hin hO
  have h64 := hnd.2.1
  have hk1 : A 1 i = ndK nd i := (hnd.2.2.1 i hi).1
  unfold lbC at hO
  refine J.aload_n (pc := 0) G dX2_leastByChildren_0 rfl ?_
  refine J.getf (pc := 1) (ci := 2) G inX2 rfl 0 q31 dX2_leastByChildren_1 (hT.at 0 rfl) (by decide) rfl ?_
  refine J.iload_n (pc := 4) G dX2_leastByChildren_4 rfl ?_
  refine J.ialdN (pc := 5) G dX2_leastByChildren_5 (hT.at 1 rfl) (by omega) (by decide) ?_
  rw [hk1]
  generalize ndK nd i = kd at hkd hO hch ⊢
  rcases (show kd = 1 ∨ kd = 2 ∨ kd = 3 ∨ kd = 4 ∨ kd = 5 ∨ (kd = 0 ∨ kd = 6) by omega) with e | e | e | e | e | e
  · subst e
    refine J.tableIn (pc := 6) (tgt := 40) G dX2_leastByChildren_6 (by decide) (by decide) (by decide) (by decide) rfl (by decide) ?_
    refine J.iconstN (pc := 40) G dX2_leastByChildren_40 1 rfl ?_
    exact J.iret (pc := 41) G hO dX2_leastByChildren_41 (Nat.le_refl _) (Nat.le_refl _) ⟨rfl, rfl, rfl⟩
  · subst e
    refine J.tableIn (pc := 6) (tgt := 42) G dX2_leastByChildren_6 (by decide) (by decide) (by decide) (by decide) rfl (by decide) ?_
    refine J.aload_n (pc := 42) G dX2_leastByChildren_42 rfl ?_
    refine J.iload_n (pc := 43) G dX2_leastByChildren_43 rfl ?_
    refine J.callV (pc := 44) (na := 1) G (c_leastOfChildren n M hT hnd hi (hch (Or.inl rfl)) hv) q581 q583 qp27 q584 q2 (by decide +kernel) dX2_leastByChildren_44 (hT.at 0 rfl) rfl rfl (Nat.le_of_ble_eq_true rfl) rfl ⟨by omega, by decide, by omega, by omega⟩ ?_
    rintro r9 n9 M9 ⟨hr9, hn9, hM9⟩
    subst hr9
    rw [hn9, hM9]
    clear hn9 hM9 n9 M9
    dsimp only [Option.toList, List.cons_append, List.nil_append]
    exact J.iret (pc := 47) G hO dX2_leastByChildren_47 (Nat.le_refl _) (Nat.le_refl _) ⟨by simp, rfl, rfl⟩
  · subst e
    refine J.tableIn (pc := 6) (tgt := 48) G dX2_leastByChildren_6 (by decide) (by decide) (by decide) (by decide) rfl (by decide) ?_
    refine J.aload_n (pc := 48) G dX2_leastByChildren_48 rfl ?_
    refine J.iload_n (pc := 49) G dX2_leastByChildren_49 rfl ?_
    refine J.callV (pc := 50) (na := 1) G (c_sumOfChildren n M hT hnd hi) q589 q591 qp28 q592 q2 (by decide +kernel) dX2_leastByChildren_50 (hT.at 0 rfl) rfl rfl (Nat.le_of_ble_eq_true rfl) rfl ⟨by omega, by decide, by omega, by omega⟩ ?_
    rintro r9 n9 M9 ⟨hr9, hn9, hM9⟩
    subst hr9
    rw [hn9, hM9]
    clear hn9 hM9 n9 M9
    dsimp only [Option.toList, List.cons_append, List.nil_append]
    exact J.iret (pc := 53) G hO dX2_leastByChildren_53 (Nat.le_refl _) (Nat.le_refl _) ⟨by simp, rfl, rfl⟩
  · subst e
    refine J.tableIn (pc := 6) (tgt := 48) G dX2_leastByChildren_6 (by decide) (by decide) (by decide) (by decide) rfl (by decide) ?_
    refine J.aload_n (pc := 48) G dX2_leastByChildren_48 rfl ?_
    refine J.iload_n (pc := 49) G dX2_leastByChildren_49 rfl ?_
    refine J.callV (pc := 50) (na := 1) G (c_sumOfChildren n M hT hnd hi) q589 q591 qp28 q592 q2 (by decide +kernel) dX2_leastByChildren_50 (hT.at 0 rfl) rfl rfl (Nat.le_of_ble_eq_true rfl) rfl ⟨by omega, by decide, by omega, by omega⟩ ?_
    rintro r9 n9 M9 ⟨hr9, hn9, hM9⟩
    subst hr9
    rw [hn9, hM9]
    clear hn9 hM9 n9 M9
    dsimp only [Option.toList, List.cons_append, List.nil_append]
    exact J.iret (pc := 53) G hO dX2_leastByChildren_53 (Nat.le_refl _) (Nat.le_refl _) ⟨by simp, rfl, rfl⟩
  · subst e
    have h1 := hch (Or.inr rfl)
    have hin0 := chl_in (nd := nd) (i := i) (c := 0) (by omega)
    refine J.tableIn (pc := 6) (tgt := 54) G dX2_leastByChildren_6 (by decide) (by decide) (by decide) (by decide) rfl (by decide) ?_
    refine J.aload_n (pc := 54) G dX2_leastByChildren_54 rfl ?_
    refine J.getf (pc := 55) (ci := 2) G inX2 rfl 5 q43 dX2_leastByChildren_55 (hT.at 0 rfl) (by decide) rfl ?_
    refine J.aload_n (pc := 58) G dX2_leastByChildren_58 rfl ?_
    refine J.iload_n (pc := 59) G dX2_leastByChildren_59 rfl ?_
    refine J.iconstN (pc := 60) G dX2_leastByChildren_60 0 rfl ?_
    refine J.callV (pc := 61) (na := 2) G (c_childOf n M hT hnd hi h1) q585 q563 q564 q565 q2 (by decide +kernel) dX2_leastByChildren_61 (hT.at 0 rfl) rfl rfl (Nat.le_of_ble_eq_true rfl) rfl ⟨by omega, by decide, by omega, by omega⟩ ?_
    rintro r9 n9 M9 ⟨hr9, hn9, hM9⟩
    subst hr9
    rw [hn9, hM9]
    clear hn9 hM9 n9 M9
    dsimp only [Option.toList, List.cons_append, List.nil_append]
    refine J.ialdN (pc := 64) G dX2_leastByChildren_64 (hT.at 6 rfl) (by omega) (by decide) ?_
    exact J.iret (pc := 65) G hO dX2_leastByChildren_65 (Nat.le_refl _) (Nat.le_refl _) ⟨by simp, rfl, rfl⟩
  · refine J.tableOut (pc := 6) (tgt := 66) G dX2_leastByChildren_6 (by omega) (by omega) (by omega) (by decide) ?_
    refine J.iconstN (pc := 66) G dX2_leastByChildren_66 0 rfl ?_
    refine J.iret (pc := 67) G hO dX2_leastByChildren_67 (Nat.le_refl _) (Nat.le_refl _) ⟨?_, rfl, rfl⟩
    rw [if_neg (by omega), if_neg (by omega), if_neg (by omega), if_neg (by omega)]
/-- the least lengths, from the last node on -/
def lsF (nd : List Nd) (f : Nat → Nat) (k : Nat) : Nat → Nat := it (fun j f => upN f (nd.length - 1 - j) (lbC nd f (nd.length - 1 - j))) f k
theorem lsF_rt {nd : List Nd} {f : Nat → Nat} (hp : ∀ i, i < nd.length → ndP nd i < (i : Int)) (hch : ChOk nd) : ∀ k, k ≤ nd.length → rtS nd (lsF nd f k) (nd.length - k) ≤ k
  | 0, _ => by
    have : rtS nd (lsF nd f 0) (nd.length - 0) ≤ sm (fun _ => 0) nd.length := sm_le (fun i hi => by rw [if_neg (by omega)]; exact Nat.le_refl _)
    have z : ∀ m, sm (fun _ => 0) m = 0 := fun m => by
      induction m with
      | zero => rfl
      | succ m ih => show sm (fun _ => 0) m + 0 = 0; rw [ih]
    rw [z] at this
    exact this
  | k + 1, h => by
    have ih := lsF_rt (f := f) hp hch k (by omega)
    have hs : lsF nd f (k + 1) = upN (lsF nd f k) (nd.length - 1 - k) (lbC nd (lsF nd f k) (nd.length - 1 - k)) := rfl
    have hx : nd.length - 1 - k < nd.length := by omega
    have h1 := rtS_step (f := lsF nd f k) hp hx (lbC_le (f := lsF nd f k) (hch _ hx))
    rw [hs, show nd.length - (k + 1) = nd.length - 1 - k by omega]
    rw [show nd.length - 1 - k + 1 = nd.length - k by omega] at h1
    omega
set_option maxRecDepth 100000 in
set_option maxHeartbeats 4000000 in
theorem c_leastLabels (n : Nat) (M0 : AH) {a i : Nat} {A : Nat → Nat → Nat} {P : Nat → Int} {S : Nat → Nat} {nd : List Nd} (hT : Cl M0 a (treeC a A P S)) (hnd : TreeIs A P S nd) (hi : i < nd.length) (hkd : KdOk nd) (hch : ChOk nd) : Fn yX2_leastLabels cX2_leastLabels 3 (some .int) 3 [.ref a, .int (iI (i : Int))] n M0 0 0 (fun r n' M' => r = some (.int (iI ((lsF nd (A 6) (nd.length - i) i : Nat) : Int))) ∧ n' = n ∧ (∃ f, Cl M' a (treeC a (upAN A 6 f) P S)) ∧ Fr a (a + 7) M0 M') := by
  refine Fn.of (by decide) [some _, some _, none] rfl rfl (Nat.le_of_ble_eq_true rfl) ?_
  intro g G hin hO
  have h64 := hnd.2.1
  have g6 := hnd.1
  have hp := hnd.2.2.2
  refine J.aload_n (pc := 0) G dX2_leastLabels_0 rfl ?_
  refine J.getf (pc := 1) (ci := 2) G inX2 rfl 6 q44 dX2_leastLabels_1 (hT.at 0 rfl) (by decide) rfl ?_
  rw [g6]
  refine J.iconstN (pc := 4) G dX2_leastLabels_4 1 rfl ?_
  refine J.isubN (pc := 5) G dX2_leastLabels_5 (by omega) ?_
  refine J.istore_n (L' := [_, _, _]) (pc := 6) G dX2_leastLabels_6 rfl (Nat.le_of_ble_eq_true rfl) rfl ?_
  have K1 : ∀ q : Nat × AH, (q.1 ≤ nd.length - i ∧ Cl q.2 a (treeC a (upAN A 6 (lsF nd (A 6) q.1)) P S) ∧ Fr a (a + 7) M0 q.2) → J g 0 0 n q.2 [some (.ref a), some (.int (iI (i : Int))), some (.int (iI ((nd.length : Int) - (q.1 : Int) - 1)))] 7 [] := by
    refine loopJ (fun q => nd.length - q.1) _ _ ?_
    clear hT
    rintro ⟨j, M⟩ ⟨hj, hT, hFr⟩ ih
    dsimp only at hj hT hFr ih ⊢
    have hrt := lsF_rt (f := A 6) hp hch j (by omega)
    have hstep : lsF nd (A 6) (j + 1) = upN (lsF nd (A 6) j) (nd.length - 1 - j) (lbC nd (lsF nd (A 6) j) (nd.length - 1 - j)) := rfl
    have hend : j = nd.length - i → lsF nd (A 6) j = lsF nd (A 6) (nd.length - i) := fun e => by rw [e]
    generalize lsF nd (A 6) j = e at hT hrt hstep hend
    refine J.iload_n (pc := 7) G dX2_leastLabels_7 rfl ?_
    refine J.iload_n (pc := 8) G dX2_leastLabels_8 rfl ?_
    refine J.icmp_lt (pc := 9) (tgt := 29) G dX2_leastLabels_9 (by decide) (by omega) (by omega) (by omega) (by omega) (fun h => ?_) (fun h => ?_)
    · rw [← hend (by omega)] at hO
      refine J.aload_n (pc := 29) G dX2_leastLabels_29 rfl ?_
      refine J.getf (pc := 30) (ci := 2) G inX2 rfl 5 q43 dX2_leastLabels_30 (hT.at 0 rfl) (by decide) rfl ?_
      refine J.iload_n (pc := 33) G dX2_leastLabels_33 rfl ?_
      refine J.ialdN (pc := 34) G dX2_leastLabels_34 (hT.at 6 rfl) (by omega) (by decide) ?_
      exact J.iret (pc := 35) G hO dX2_leastLabels_35 (Nat.le_refl _) (Nat.le_refl _) ⟨rfl, rfl, ⟨_, hT⟩, hFr⟩
    · have hx : nd.length - 1 - j < nd.length := by omega
      rw [show ((nd.length : Int) - (j : Int) - 1) = ((nd.length - 1 - j : Nat) : Int) by omega]
      rw [show nd.length - j = nd.length - 1 - j + 1 by omega] at hrt
      have nx : ∀ M, Cl M a (treeC a (upAN A 6 (lsF nd (A 6) (j + 1))) P S) → Fr a (a + 7) M0 M → J g 0 0 n M [some (.ref a), some (.int (iI (i : Int))), some (.int (iI (((nd.length - 1 - j : Nat) : Int) + (-1))))] 7 [] := by
        intro M hT hFr
        have := ih (j + 1, M) ⟨by dsimp only; omega, hT, hFr⟩ (by dsimp only; omega)
        dsimp only at this
        rw [show ((nd.length : Int) - ((j + 1 : Nat) : Int) - 1) = ((nd.length - 1 - j : Nat) : Int) + (-1) by omega] at this
        exact this
      rw [hstep] at nx
      generalize nd.length - 1 - j = x at hx nx hrt ⊢
      refine J.aload_n (pc := 12) G dX2_leastLabels_12 rfl ?_
      refine J.getf (pc := 13) (ci := 2) G inX2 rfl 5 q43 dX2_leastLabels_13 (hT.at 0 rfl) (by decide) rfl ?_
      refine J.iload_n (pc := 16) G dX2_leastLabels_16 rfl ?_
      refine J.aload_n (pc := 17) G dX2_leastLabels_17 rfl ?_
      refine J.iload_n (pc := 18) G dX2_leastLabels_18 rfl ?_
      refine J.callV (pc := 19) (na := 1) G (c_leastByChildren n M (i := x) hT (hnd.sums e) hx (hkd x hx) (hch x hx) (fun c hc => by have h1 := child_sum (f := e) hc; have h2 := kids_le (f := e) (k := x) hp; show e _ < _; omega)) q577 q579 qp26 q580 q2 (by decide +kernel) dX2_leastLabels_19 (hT.at 0 rfl) rfl rfl (Nat.le_of_ble_eq_true rfl) rfl ⟨by omega, by decide, by omega, by omega⟩ ?_
      rintro r9 n9 M9 ⟨hr9, hn9, hM9⟩
      subst hr9
      rw [hn9, hM9]
      clear hn9 hM9 n9 M9
      dsimp only [Option.toList, List.cons_append, List.nil_append]
      rw [show lbC nd (upAN A 6 e 6) x = lbC nd e x from rfl]
      refine J.iastN (pc := 22) G dX2_leastLabels_22 (hT.at 6 rfl) (by omega) (by decide) (fun M2 hput hag => ?_)
      have hT2 := treeA6 hT hput hag
      rw [upAN2] at hT2
      have hFr2 := hFr.put hag (by omega) (by omega)
      refine J.iinc (L' := [_, _, _]) (pc := 23) G dX2_leastLabels_23 rfl rfl rfl ?_
      refine J.goto (pc := 26) (tgt := 7) G dX2_leastLabels_26 (by decide) ?_
      exact nx M2 hT2 hFr2
  have := K1 (0, M0) ⟨Nat.zero_le _, by dsimp only; rw [show lsF nd (A 6) 0 = A 6 from rfl, upAN_same]; exact hT, Fr.rf⟩
  dsimp only at this
  rw [show ((nd.length : Int) - ((0 : Nat) : Int) - 1) = ((nd.length - 1 : Nat) : Int) by omega] at this
  exact this
end TREE4
