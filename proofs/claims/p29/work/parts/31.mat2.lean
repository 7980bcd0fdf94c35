section MAT2
theorem eChi_lt {nd : List Nd} {wd en : Nat → Nat} {wl nod c s : Nat} (hen : ∀ i, i < 832 → en i < 8192) (hc : c < 64) (hs : s ≤ 12) : eChi nd wd en wl nod c s < 8192 := and_lt13 (hen _ (by omega))
def eAlt (nd : List Nd) (wd en : Nat → Nat) (wl nod f s k : Nat) : Nat := it (fun i v => v ||| eChi nd wd en wl nod (gd (chl nd nod) (f + i)) s) 0 k
theorem eAlt_lt {nd : List Nd} {wd en : Nat → Nat} {wl nod f s k : Nat} (hen : ∀ i, i < 832 → en i < 8192) (h64 : nd.length ≤ 64) (hs : s ≤ 12) (hk : f + k ≤ (chl nd nod).length) : eAlt nd wd en wl nod f s k < 8192 :=
  it_inv (fun _ v => v < 8192) k (by decide) (fun i x hi hx => or_lt13 hx (eChi_lt hen (by have := (chl_in (nd := nd) (i := nod) (c := f + i) (by omega)).1; omega) hs))
set_option maxRecDepth 100000 in
set_option maxHeartbeats 4000000 in
theorem c_endsOfAlternatives (n : Nat) (M : AH) {a t s nod f : Nat} {A : Nat → Nat → Nat} {S : Nat → Nat} {nd : List Nd} (hm : Mt M a t A S nd) (hs : s ≤ S 2) (hn : nod < nd.length) (hf : f ≤ 1) : Fn yX1_endsOfAlternatives cX1_endsOfAlternatives 6 (some .int) 1 [.ref a, .int (iI (nod : Int)), .int (iI (f : Int)), .int (iI (s : Int))] n M 0 0 (fun r n' M' => r = some (.int (iI ((eAlt nd (A 1) (A 2) (S 2) nod f s ((chl nd nod).length - f) : Nat) : Int))) ∧ n' = n ∧ M' = M) := by
  refine Fn.of (by decide) [some _, some _, some _, some _, none, none] rfl rfl (Nat.le_of_ble_eq_true rfl) ?_
  intro g G hin hO
  obtain ⟨hQ, ⟨B, P, T, hT, hnd⟩, hwl, hen, hst, hwd, -⟩ := id hm
  have h64 := hnd.2.1
  have hk := hnd.kids hn
  refine J.iconstN (pc := 0) G dX1_endsOfAlternatives_0 0 rfl ?_
  refine J.istore (L' := [_, _, _, _, _, _]) (pc := 1) G dX1_endsOfAlternatives_1 rfl (Nat.le_of_ble_eq_true rfl) rfl ?_
  refine J.iload_n (pc := 3) G dX1_endsOfAlternatives_3 rfl ?_
  refine J.istore (L' := [_, _, _, _, _, _]) (pc := 4) G dX1_endsOfAlternatives_4 rfl (Nat.le_of_ble_eq_true rfl) rfl ?_
  have K1 : ∀ q : Nat, (q = 0 ∨ f + q ≤ (chl nd nod).length) → J g 0 0 n M [some (.ref a), some (.int (iI (nod : Int))), some (.int (iI (f : Int))), some (.int (iI (s : Int))), some (.int (iI (eAlt nd (A 1) (A 2) (S 2) nod f s q : Int))), some (.int (iI ((f + q : Nat) : Int)))] 6 [] := by
    refine loopJ (fun q => (chl nd nod).length + 1 - q) _ _ ?_
    intro i hi ih
    try dsimp only at hi ih ⊢
    have hstep : eAlt nd (A 1) (A 2) (S 2) nod f s (i + 1) = eAlt nd (A 1) (A 2) (S 2) nod f s i ||| eChi nd (A 1) (A 2) (S 2) nod (gd (chl nd nod) (f + i)) s := rfl
    have hend : i = (chl nd nod).length - f → eAlt nd (A 1) (A 2) (S 2) nod f s i = eAlt nd (A 1) (A 2) (S 2) nod f s ((chl nd nod).length - f) := fun e => by rw [e]
    generalize eAlt nd (A 1) (A 2) (S 2) nod f s i = v at hstep hend
    refine J.iload (pc := 6) G dX1_endsOfAlternatives_6 rfl ?_
    refine J.aload_n (pc := 8) G dX1_endsOfAlternatives_8 rfl ?_
    refine J.getf (pc := 9) (ci := 1) G inX1 rfl 0 q69 dX1_endsOfAlternatives_9 (hQ.a0) (by decide) rfl ?_
    refine J.getf (pc := 12) (ci := 2) G inX2 rfl 3 q40 dX1_endsOfAlternatives_12 (hT.at 0 rfl) (by decide) rfl ?_
    refine J.iload_n (pc := 15) G dX1_endsOfAlternatives_15 rfl ?_
    refine J.ialdN (pc := 16) G dX1_endsOfAlternatives_16 (hT.at 4 rfl) (by omega) (by decide) ?_
    rw [hk.1]
    refine J.icmp_geN (pc := 17) (tgt := 47) G dX1_endsOfAlternatives_17 (by decide) (by omega) (by omega) (fun h => ?_) (fun h => ?_)
    · refine J.iload (pc := 47) G dX1_endsOfAlternatives_47 rfl ?_
      exact J.iret (pc := 49) G hO dX1_endsOfAlternatives_49 (Nat.le_refl _) (Nat.le_refl _) ⟨by rw [hend (by omega)], rfl, rfl⟩
    · have hci := chl_in (nd := nd) (i := nod) (c := f + i) (by omega)
      refine J.iload (pc := 20) G dX1_endsOfAlternatives_20 rfl ?_
      refine J.aload_n (pc := 22) G dX1_endsOfAlternatives_22 rfl ?_
      refine J.iload_n (pc := 23) G dX1_endsOfAlternatives_23 rfl ?_
      refine J.aload_n (pc := 24) G dX1_endsOfAlternatives_24 rfl ?_
      refine J.getf (pc := 25) (ci := 1) G inX1 rfl 0 q69 dX1_endsOfAlternatives_25 (hQ.a0) (by decide) rfl ?_
      refine J.iload_n (pc := 28) G dX1_endsOfAlternatives_28 rfl ?_
      refine J.iload (pc := 29) G dX1_endsOfAlternatives_29 rfl ?_
      refine J.callV (pc := 31) (na := 2) G (c_childOf n M (i := nod) (c := f + i) hT hnd hn (by omega)) q634 q563 q564 q565 q2 (by decide +kernel) dX1_endsOfAlternatives_31 (hT.at 0 rfl) rfl rfl (Nat.le_of_ble_eq_true rfl) rfl ⟨by omega, by decide, by omega, by omega⟩ ?_
      rintro r9 n9 M9 ⟨hr9, hn9, hM9⟩
      subst hr9
      rw [hn9, hM9]
      clear hn9 hM9 n9 M9
      dsimp only [Option.toList, List.cons_append, List.nil_append]
      refine J.iload_n (pc := 34) G dX1_endsOfAlternatives_34 rfl ?_
      refine J.callV (pc := 35) (na := 3) G (c_endsOfChild n M (nod := nod) (c := gd (chl nd nod) (f + i)) hm hs hn hci.1) q635 q637 qp33 q638 q3 (by decide +kernel) dX1_endsOfAlternatives_35 (hQ.a0) rfl rfl (Nat.le_of_ble_eq_true rfl) rfl ⟨by omega, by decide, by omega, by omega⟩ ?_
      rintro r9 n9 M9 ⟨hr9, hn9, hM9⟩
      subst hr9
      rw [hn9, hM9]
      clear hn9 hM9 n9 M9
      dsimp only [Option.toList, List.cons_append, List.nil_append]
      refine J.iorN (pc := 38) G dX1_endsOfAlternatives_38 ?_
      refine J.istore (L' := [_, _, _, _, _, _]) (pc := 39) G dX1_endsOfAlternatives_39 rfl (Nat.le_of_ble_eq_true rfl) rfl ?_
      refine J.iincN (L' := [_, _, _, _, _, _]) (pc := 41) G dX1_endsOfAlternatives_41 1 rfl rfl rfl rfl ?_
      refine J.goto (tgt := 6) (pc := 44) G dX1_endsOfAlternatives_44 (by decide) ?_
      have := ih (i + 1) (by omega) (by omega)
      rw [hstep] at this
      exact this
  exact K1 0 (Or.inl rfl)
def ordI (nd : List Nd) (wd en : Nat → Nat) (wl nod s r i k : Nat) : Nat := it (fun j v => if r.testBit (s + j) then v ||| eChi nd wd en wl nod (gd (chl nd nod) i) (s + j) else v) 0 k
def eOrd (nd : List Nd) (wd en : Nat → Nat) (wl nod s k : Nat) : Nat := it (fun i r => ordI nd wd en wl nod s r i (wl + 1 - s)) (2 ^ s) k
theorem ordI_lt {nd : List Nd} {wd en : Nat → Nat} {wl nod s r i k : Nat} (hen : ∀ i, i < 832 → en i < 8192) (h64 : nd.length ≤ 64) (hw : wl ≤ 12) (hi : i < (chl nd nod).length) (hk : s + k ≤ wl + 1) : ordI nd wd en wl nod s r i k < 8192 :=
  it_inv (fun _ v => v < 8192) k (by decide) (fun j x hj hx => by
    try dsimp only
    split
    · exact or_lt13 hx (eChi_lt hen (by have := (chl_in hi).1; omega) (by omega))
    · exact hx)
theorem eOrd_lt {nd : List Nd} {wd en : Nat → Nat} {wl nod s k : Nat} (hen : ∀ i, i < 832 → en i < 8192) (h64 : nd.length ≤ 64) (hw : wl ≤ 12) (hs : s ≤ wl) (hk : k ≤ (chl nd nod).length) : eOrd nd wd en wl nod s k < 8192 :=
  it_inv (fun _ v => v < 8192) k (pow_lt13 (by omega)) (fun i x hi _ => ordI_lt hen h64 hw (by omega) (by omega))
set_option maxRecDepth 100000 in
set_option maxHeartbeats 4000000 in
theorem c_endsOfOrder (n : Nat) (M : AH) {a t s nod : Nat} {A : Nat → Nat → Nat} {S : Nat → Nat} {nd : List Nd} (hm : Mt M a t A S nd) (hs : s ≤ S 2) (hn : nod < nd.length) : Fn yX1_endsOfOrder cX1_endsOfOrder 7 (some .int) 1 [.ref a, .int (iI (nod : Int)), .int (iI (s : Int))] n M 0 0 (fun r n' M' => r = some (.int (iI ((eOrd nd (A 1) (A 2) (S 2) nod s (chl nd nod).length : Nat) : Int))) ∧ n' = n ∧ M' = M) := by
  refine Fn.of (by decide) [some _, some _, some _, none, none, none, none] rfl rfl (Nat.le_of_ble_eq_true rfl) ?_
  intro g G hin hO
  obtain ⟨hQ, ⟨B, P, T, hT, hnd⟩, hwl, hen, hst, hwd, -⟩ := id hm
  have h64 := hnd.2.1
  have hk := hnd.kids hn
  refine J.iconstN (pc := 0) G dX1_endsOfOrder_0 1 rfl ?_
  refine J.iload_n (pc := 1) G dX1_endsOfOrder_1 rfl ?_
  refine J.ishl1 (pc := 2) G dX1_endsOfOrder_2 (by omega) ?_
  refine J.istore_n (L' := [_, _, _, _, _, _, _]) (pc := 3) G dX1_endsOfOrder_3 rfl (Nat.le_of_ble_eq_true rfl) rfl ?_
  refine J.iconstN (pc := 4) G dX1_endsOfOrder_4 0 rfl ?_
  refine J.istore (L' := [_, _, _, _, _, _, _]) (pc := 5) G dX1_endsOfOrder_5 rfl (Nat.le_of_ble_eq_true rfl) rfl ?_
  have K1 : ∀ q : Nat, (q ≤ (chl nd nod).length) → J g 0 0 n M [some (.ref a), some (.int (iI (nod : Int))), some (.int (iI (s : Int))), some (.int (iI (eOrd nd (A 1) (A 2) (S 2) nod s q : Int))), some (.int (iI (q : Int))), none, none] 7 [] := by
    refine loopJ (fun q => (chl nd nod).length - q) _ _ ?_
    intro i hi ih
    try dsimp only at hi ih ⊢
    have hlt := eOrd_lt (nd := nd) (wd := A 1) (nod := nod) hen h64 hwl hs hi
    have hstep : eOrd nd (A 1) (A 2) (S 2) nod s (i + 1) = ordI nd (A 1) (A 2) (S 2) nod s (eOrd nd (A 1) (A 2) (S 2) nod s i) i (S 2 + 1 - s) := rfl
    have hend : i = (chl nd nod).length → eOrd nd (A 1) (A 2) (S 2) nod s i = eOrd nd (A 1) (A 2) (S 2) nod s (chl nd nod).length := fun e => by rw [e]
    generalize eOrd nd (A 1) (A 2) (S 2) nod s i = r at hstep hend hlt
    refine J.iload (pc := 7) G dX1_endsOfOrder_7 rfl ?_
    refine J.aload_n (pc := 9) G dX1_endsOfOrder_9 rfl ?_
    refine J.getf (pc := 10) (ci := 1) G inX1 rfl 0 q69 dX1_endsOfOrder_10 (hQ.a0) (by decide) rfl ?_
    refine J.getf (pc := 13) (ci := 2) G inX2 rfl 3 q40 dX1_endsOfOrder_13 (hT.at 0 rfl) (by decide) rfl ?_
    refine J.iload_n (pc := 16) G dX1_endsOfOrder_16 rfl ?_
    refine J.ialdN (pc := 17) G dX1_endsOfOrder_17 (hT.at 4 rfl) (by omega) (by decide) ?_
    rw [hk.1]
    refine J.icmp_geN (pc := 18) (tgt := 82) G dX1_endsOfOrder_18 (by decide) (by omega) (by omega) (fun h => ?_) (fun h => ?_)
    · refine J.iload_n (pc := 82) G dX1_endsOfOrder_82 rfl ?_
      exact J.iret (pc := 83) G hO dX1_endsOfOrder_83 (Nat.le_refl _) (Nat.le_refl _) ⟨by rw [hend (by omega)], rfl, rfl⟩
    · have hi2 : i < (chl nd nod).length := by omega
      have hci := chl_in (nd := nd) (i := nod) hi2
      refine J.iconstN (pc := 21) G dX1_endsOfOrder_21 0 rfl ?_
      refine J.istore (L' := [_, _, _, _, _, _, _]) (pc := 22) G dX1_endsOfOrder_22 rfl (Nat.le_of_ble_eq_true rfl) rfl ?_
      refine J.iload_n (pc := 24) G dX1_endsOfOrder_24 rfl ?_
      refine J.istore (L' := [_, _, _, _, _, _, _]) (pc := 25) G dX1_endsOfOrder_25 rfl (Nat.le_of_ble_eq_true rfl) rfl ?_
      have K2 : ∀ q : Nat, (s + q ≤ S 2 + 1) → J g 0 0 n M [some (.ref a), some (.int (iI (nod : Int))), some (.int (iI (s : Int))), some (.int (iI (r : Int))), some (.int (iI (i : Int))), some (.int (iI (ordI nd (A 1) (A 2) (S 2) nod s r i q : Int))), some (.int (iI ((s + q : Nat) : Int)))] 27 [] := by
        refine loopJ (fun q => S 2 + 1 - q) _ _ ?_
        intro j hj ih3
        try dsimp only at hj ih3 ⊢
        have hstep2 : ordI nd (A 1) (A 2) (S 2) nod s r i (j + 1) = if r.testBit (s + j) then ordI nd (A 1) (A 2) (S 2) nod s r i j ||| eChi nd (A 1) (A 2) (S 2) nod (gd (chl nd nod) i) (s + j) else ordI nd (A 1) (A 2) (S 2) nod s r i j := rfl
        have hend2 : j = S 2 + 1 - s → ordI nd (A 1) (A 2) (S 2) nod s r i j = ordI nd (A 1) (A 2) (S 2) nod s r i (S 2 + 1 - s) := fun e => by rw [e]
        generalize ordI nd (A 1) (A 2) (S 2) nod s r i j = v at hstep2 hend2
        refine J.iload (pc := 27) G dX1_endsOfOrder_27 rfl ?_
        refine J.aload_n (pc := 29) G dX1_endsOfOrder_29 rfl ?_
        refine J.getf (pc := 30) (ci := 1) G inX1 rfl 2 q71 dX1_endsOfOrder_30 (hQ.a0) (by decide) rfl ?_
        refine J.icmp_gtN (pc := 33) (tgt := 73) G dX1_endsOfOrder_33 (by decide) (by omega) (by omega) (fun h9 => ?_) (fun h9 => ?_)
        · refine J.fgt (L' := [_, _, _, _, _, _, _]) 6 rfl ?_
          refine J.iload (pc := 73) G dX1_endsOfOrder_73 rfl ?_
          refine J.istore_n (L' := [_, _, _, _, _, _, _]) (pc := 75) G dX1_endsOfOrder_75 rfl (Nat.le_of_ble_eq_true rfl) rfl ?_
          refine J.fgt (L' := [_, _, _, _, _, _, _]) 5 rfl ?_
          refine J.iincN (L' := [_, _, _, _, _, _, _]) (pc := 76) G dX1_endsOfOrder_76 1 rfl rfl rfl rfl ?_
          refine J.goto (tgt := 7) (pc := 79) G dX1_endsOfOrder_79 (by decide) ?_
          have := ih (i + 1) (by omega) (by omega)
          rw [hstep, ← hend2 (by omega)] at this
          exact this
        · have nx := ih3 (j + 1) (by omega) (by omega)
          rw [hstep2] at nx
          refine J.iload_n (pc := 36) G dX1_endsOfOrder_36 rfl ?_
          refine J.iload (pc := 37) G dX1_endsOfOrder_37 rfl ?_
          refine J.callSN (pc := 39) (na := 2) G (c_contains n M (m := r) (l := s + j) (by omega) (by omega)) (mem_nw 4) q248 q249 q1 (by decide +kernel) dX1_endsOfOrder_39 rfl (Nat.le_of_ble_eq_true rfl) rfl ⟨by omega, by decide, by omega, by omega⟩ ?_
          rintro r9 n9 M9 ⟨hr9, hn9, hM9⟩
          subst hr9
          rw [hn9, hM9]
          clear hn9 hM9 n9 M9
          dsimp only [Option.toList, List.cons_append, List.nil_append]
          refine J.if_eq_b (pc := 42) (tgt := 67) G dX1_endsOfOrder_42 (by decide) (fun hc => ?_) (fun hc => ?_)
          · rw [if_neg (by rw [hc]; decide)] at nx
            refine J.iincN (L' := [_, _, _, _, _, _, _]) (pc := 67) G dX1_endsOfOrder_67 1 rfl rfl rfl rfl ?_
            refine J.goto (tgt := 27) (pc := 70) G dX1_endsOfOrder_70 (by decide) ?_
            exact nx
          · rw [if_pos hc] at nx
            refine J.iload (pc := 45) G dX1_endsOfOrder_45 rfl ?_
            refine J.aload_n (pc := 47) G dX1_endsOfOrder_47 rfl ?_
            refine J.iload_n (pc := 48) G dX1_endsOfOrder_48 rfl ?_
            refine J.aload_n (pc := 49) G dX1_endsOfOrder_49 rfl ?_
            refine J.getf (pc := 50) (ci := 1) G inX1 rfl 0 q69 dX1_endsOfOrder_50 (hQ.a0) (by decide) rfl ?_
            refine J.iload_n (pc := 53) G dX1_endsOfOrder_53 rfl ?_
            refine J.iload (pc := 54) G dX1_endsOfOrder_54 rfl ?_
            refine J.callV (pc := 56) (na := 2) G (c_childOf n M (i := nod) (c := i) hT hnd hn hi2) q634 q563 q564 q565 q2 (by decide +kernel) dX1_endsOfOrder_56 (hT.at 0 rfl) rfl rfl (Nat.le_of_ble_eq_true rfl) rfl ⟨by omega, by decide, by omega, by omega⟩ ?_
            rintro r9 n9 M9 ⟨hr9, hn9, hM9⟩
            subst hr9
            rw [hn9, hM9]
            clear hn9 hM9 n9 M9
            dsimp only [Option.toList, List.cons_append, List.nil_append]
            refine J.iload (pc := 59) G dX1_endsOfOrder_59 rfl ?_
            refine J.callV (pc := 61) (na := 3) G (c_endsOfChild n M (s := s + j) (nod := nod) (c := gd (chl nd nod) i) hm (by omega) hn hci.1) q635 q637 qp33 q638 q3 (by decide +kernel) dX1_endsOfOrder_61 (hQ.a0) rfl rfl (Nat.le_of_ble_eq_true rfl) rfl ⟨by omega, by decide, by omega, by omega⟩ ?_
            rintro r9 n9 M9 ⟨hr9, hn9, hM9⟩
            subst hr9
            rw [hn9, hM9]
            clear hn9 hM9 n9 M9
            dsimp only [Option.toList, List.cons_append, List.nil_append]
            refine J.iorN (pc := 64) G dX1_endsOfOrder_64 ?_
            refine J.istore (L' := [_, _, _, _, _, _, _]) (pc := 65) G dX1_endsOfOrder_65 rfl (Nat.le_of_ble_eq_true rfl) rfl ?_
            refine J.iincN (L' := [_, _, _, _, _, _, _]) (pc := 67) G dX1_endsOfOrder_67 1 rfl rfl rfl rfl ?_
            refine J.goto (tgt := 27) (pc := 70) G dX1_endsOfOrder_70 (by decide) ?_
            exact nx
      exact K2 0 (by omega)
  exact K1 0 (by omega)
def eBot (nd : List Nd) (en : Nat → Nat) (wl nod s k : Nat) : Nat := it (fun i v => v &&& en (gd (chl nd nod) i * 13 + s)) (allE wl s (wl + 1 - s)) k
set_option maxRecDepth 100000 in
set_option maxHeartbeats 4000000 in
theorem c_endsOfBoth (n : Nat) (M : AH) {a t s nod : Nat} {A : Nat → Nat → Nat} {S : Nat → Nat} {nd : List Nd} (hm : Mt M a t A S nd) (hs : s ≤ S 2) (hn : nod < nd.length) : Fn yX1_endsOfBoth cX1_endsOfBoth 5 (some .int) 1 [.ref a, .int (iI (nod : Int)), .int (iI (s : Int))] n M 0 0 (fun r n' M' => r = some (.int (iI ((eBot nd (A 2) (S 2) nod s (chl nd nod).length : Nat) : Int))) ∧ n' = n ∧ M' = M) := by
  refine Fn.of (by decide) [some _, some _, some _, none, none] rfl rfl (Nat.le_of_ble_eq_true rfl) ?_
  intro g G hin hO
  obtain ⟨hQ, ⟨B, P, T, hT, hnd⟩, hwl, hen, hst, hwd, -⟩ := id hm
  have h64 := hnd.2.1
  have hk := hnd.kids hn
  refine J.aload_n (pc := 0) G dX1_endsOfBoth_0 rfl ?_
  refine J.iload_n (pc := 1) G dX1_endsOfBoth_1 rfl ?_
  refine J.callV (pc := 2) (na := 1) G (c_allEnds n M hm hs) q648 q650 qp36 q651 q3 (by decide +kernel) dX1_endsOfBoth_2 (hQ.a0) rfl rfl (Nat.le_of_ble_eq_true rfl) rfl ⟨by omega, by decide, by omega, by omega⟩ ?_
  rintro r9 n9 M9 ⟨hr9, hn9, hM9⟩
  subst hr9
  rw [hn9, hM9]
  clear hn9 hM9 n9 M9
  dsimp only [Option.toList, List.cons_append, List.nil_append]
  refine J.istore_n (L' := [_, _, _, _, _]) (pc := 5) G dX1_endsOfBoth_5 rfl (Nat.le_of_ble_eq_true rfl) rfl ?_
  refine J.iconstN (pc := 6) G dX1_endsOfBoth_6 0 rfl ?_
  refine J.istore (L' := [_, _, _, _, _]) (pc := 7) G dX1_endsOfBoth_7 rfl (Nat.le_of_ble_eq_true rfl) rfl ?_
  have K1 : ∀ q : Nat, (q ≤ (chl nd nod).length) → J g 0 0 n M [some (.ref a), some (.int (iI (nod : Int))), some (.int (iI (s : Int))), some (.int (iI (eBot nd (A 2) (S 2) nod s q : Int))), some (.int (iI (q : Int)))] 9 [] := by
    refine loopJ (fun q => (chl nd nod).length - q) _ _ ?_
    intro i hi ih
    try dsimp only at hi ih ⊢
    have hstep : eBot nd (A 2) (S 2) nod s (i + 1) = eBot nd (A 2) (S 2) nod s i &&& A 2 (gd (chl nd nod) i * 13 + s) := rfl
    have hend : i = (chl nd nod).length → eBot nd (A 2) (S 2) nod s i = eBot nd (A 2) (S 2) nod s (chl nd nod).length := fun e => by rw [e]
    generalize eBot nd (A 2) (S 2) nod s i = v at hstep hend
    refine J.iload (pc := 9) G dX1_endsOfBoth_9 rfl ?_
    refine J.aload_n (pc := 11) G dX1_endsOfBoth_11 rfl ?_
    refine J.getf (pc := 12) (ci := 1) G inX1 rfl 0 q69 dX1_endsOfBoth_12 (hQ.a0) (by decide) rfl ?_
    refine J.getf (pc := 15) (ci := 2) G inX2 rfl 3 q40 dX1_endsOfBoth_15 (hT.at 0 rfl) (by decide) rfl ?_
    refine J.iload_n (pc := 18) G dX1_endsOfBoth_18 rfl ?_
    refine J.ialdN (pc := 19) G dX1_endsOfBoth_19 (hT.at 4 rfl) (by omega) (by decide) ?_
    rw [hk.1]
    refine J.icmp_geN (pc := 20) (tgt := 52) G dX1_endsOfBoth_20 (by decide) (by omega) (by omega) (fun h => ?_) (fun h => ?_)
    · refine J.iload_n (pc := 52) G dX1_endsOfBoth_52 rfl ?_
      exact J.iret (pc := 53) G hO dX1_endsOfBoth_53 (Nat.le_refl _) (Nat.le_refl _) ⟨by rw [hend (by omega)], rfl, rfl⟩
    · have hi2 : i < (chl nd nod).length := by omega
      have hci := (chl_in (nd := nd) (i := nod) hi2).1
      refine J.iload_n (pc := 23) G dX1_endsOfBoth_23 rfl ?_
      refine J.aload_n (pc := 24) G dX1_endsOfBoth_24 rfl ?_
      refine J.getf (pc := 25) (ci := 1) G inX1 rfl 3 q72 dX1_endsOfBoth_25 (hQ.a0) (by decide) rfl ?_
      refine J.aload_n (pc := 28) G dX1_endsOfBoth_28 rfl ?_
      refine J.getf (pc := 29) (ci := 1) G inX1 rfl 0 q69 dX1_endsOfBoth_29 (hQ.a0) (by decide) rfl ?_
      refine J.iload_n (pc := 32) G dX1_endsOfBoth_32 rfl ?_
      refine J.iload (pc := 33) G dX1_endsOfBoth_33 rfl ?_
      refine J.callV (pc := 35) (na := 2) G (c_childOf n M (i := nod) (c := i) hT hnd hn hi2) q634 q563 q564 q565 q2 (by decide +kernel) dX1_endsOfBoth_35 (hT.at 0 rfl) rfl rfl (Nat.le_of_ble_eq_true rfl) rfl ⟨by omega, by decide, by omega, by omega⟩ ?_
      rintro r9 n9 M9 ⟨hr9, hn9, hM9⟩
      subst hr9
      rw [hn9, hM9]
      clear hn9 hM9 n9 M9
      dsimp only [Option.toList, List.cons_append, List.nil_append]
      refine J.bipushN (pc := 38) G dX1_endsOfBoth_38 13 (by decide +kernel) ?_
      refine J.imulN (pc := 40) G dX1_endsOfBoth_40 ?_
      refine J.iload_n (pc := 41) G dX1_endsOfBoth_41 rfl ?_
      refine J.iaddN (pc := 42) G dX1_endsOfBoth_42 ?_
      refine J.ialdN (pc := 43) G dX1_endsOfBoth_43 (hQ.a2) (by omega) (by decide) ?_
      refine J.iandN (pc := 44) G dX1_endsOfBoth_44 ?_
      refine J.istore_n (L' := [_, _, _, _, _]) (pc := 45) G dX1_endsOfBoth_45 rfl (Nat.le_of_ble_eq_true rfl) rfl ?_
      refine J.iincN (L' := [_, _, _, _, _]) (pc := 46) G dX1_endsOfBoth_46 1 rfl rfl rfl rfl ?_
      refine J.goto (tgt := 9) (pc := 49) G dX1_endsOfBoth_49 (by decide) ?_
      have := ih (i + 1) (by omega) (by omega)
      rw [hstep] at this
      exact this
  exact K1 0 (by omega)
def agnB (nd : List Nd) (wd en : Nat → Nat) (wl nod s once k : Nat) : Nat := it (fun j v => if once.testBit (s + j) then v ||| eAlt nd wd en wl nod 1 (s + j) ((chl nd nod).length - 1) else v) 0 k
def agnR (en : Nat → Nat) (nod s once bet k : Nat) : Nat := it (fun j v => if bet.testBit (s + 1 + j) then v ||| en (nod * 13 + (s + 1 + j)) else v) once k
def eAgn (nd : List Nd) (wd en : Nat → Nat) (wl nod s : Nat) : Nat := agnR en nod s (eChi nd wd en wl nod (gd (chl nd nod) 0) s) (agnB nd wd en wl nod s (eChi nd wd en wl nod (gd (chl nd nod) 0) s) (wl + 1 - s)) (wl - s)
theorem agnB_lt {nd : List Nd} {wd en : Nat → Nat} {wl nod s once k : Nat} (hen : ∀ i, i < 832 → en i < 8192) (h64 : nd.length ≤ 64) (hw : wl ≤ 12) (h1 : 1 ≤ (chl nd nod).length) (hk : s + k ≤ wl + 1) : agnB nd wd en wl nod s once k < 8192 :=
  it_inv (fun _ v => v < 8192) k (by decide) (fun j x hj hx => by
    try dsimp only
    split
    · exact or_lt13 hx (eAlt_lt hen h64 (by omega) (by omega))
    · exact hx)
set_option maxRecDepth 100000 in
set_option maxHeartbeats 4000000 in
theorem c_endsOfAgain (n : Nat) (M : AH) {a t s nod : Nat} {A : Nat → Nat → Nat} {S : Nat → Nat} {nd : List Nd} (hm : Mt M a t A S nd) (hs : s ≤ S 2) (hn : nod < nd.length) (h1 : 1 ≤ (chl nd nod).length) : Fn yX1_endsOfAgain cX1_endsOfAgain 7 (some .int) 2 [.ref a, .int (iI (nod : Int)), .int (iI (s : Int))] n M 0 0 (fun r n' M' => r = some (.int (iI ((eAgn nd (A 1) (A 2) (S 2) nod s : Nat) : Int))) ∧ n' = n ∧ M' = M) := by
  refine Fn.of (by decide) [some _, some _, some _, none, none, none, none] rfl rfl (Nat.le_of_ble_eq_true rfl) ?_
  intro g G hin hO
  obtain ⟨hQ, ⟨B, P, T, hT, hnd⟩, hwl, hen, hst, hwd, -⟩ := id hm
  have h64 := hnd.2.1
  have hk := hnd.kids hn
  have hc0 := (chl_in (nd := nd) (i := nod) (c := 0) (by omega)).1
  unfold eAgn at hO
  refine J.aload_n (pc := 0) G dX1_endsOfAgain_0 rfl ?_
  refine J.iload_n (pc := 1) G dX1_endsOfAgain_1 rfl ?_
  refine J.aload_n (pc := 2) G dX1_endsOfAgain_2 rfl ?_
  refine J.getf (pc := 3) (ci := 1) G inX1 rfl 0 q69 dX1_endsOfAgain_3 (hQ.a0) (by decide) rfl ?_
  refine J.iload_n (pc := 6) G dX1_endsOfAgain_6 rfl ?_
  refine J.iconstN (pc := 7) G dX1_endsOfAgain_7 0 rfl ?_
  refine J.callV (pc := 8) (na := 2) G (c_childOf n M (i := nod) (c := 0) hT hnd hn (by omega)) q634 q563 q564 q565 q2 (by decide +kernel) dX1_endsOfAgain_8 (hT.at 0 rfl) rfl rfl (Nat.le_of_ble_eq_true rfl) rfl ⟨by omega, by decide, by omega, by omega⟩ ?_
  rintro r9 n9 M9 ⟨hr9, hn9, hM9⟩
  subst hr9
  rw [hn9, hM9]
  clear hn9 hM9 n9 M9
  dsimp only [Option.toList, List.cons_append, List.nil_append]
  refine J.iload_n (pc := 11) G dX1_endsOfAgain_11 rfl ?_
  refine J.callV (pc := 12) (na := 3) G (c_endsOfChild n M (nod := nod) (c := gd (chl nd nod) 0) hm hs hn hc0) q635 q637 qp33 q638 q3 (by decide +kernel) dX1_endsOfAgain_12 (hQ.a0) rfl rfl (Nat.le_of_ble_eq_true rfl) rfl ⟨by omega, by decide, by omega, by omega⟩ ?_
  rintro r9 n9 M9 ⟨hr9, hn9, hM9⟩
  subst hr9
  rw [hn9, hM9]
  clear hn9 hM9 n9 M9
  dsimp only [Option.toList, List.cons_append, List.nil_append]
  have hon : eChi nd (A 1) (A 2) (S 2) nod (gd (chl nd nod) 0) s < 8192 := eChi_lt hen (by omega) (by omega)
  generalize eChi nd (A 1) (A 2) (S 2) nod (gd (chl nd nod) 0) s = once at hO hon ⊢
  refine J.istore_n (L' := [_, _, _, _, _, _, _]) (pc := 15) G dX1_endsOfAgain_15 rfl (Nat.le_of_ble_eq_true rfl) rfl ?_
  refine J.iconstN (pc := 16) G dX1_endsOfAgain_16 0 rfl ?_
  refine J.istore (L' := [_, _, _, _, _, _, _]) (pc := 17) G dX1_endsOfAgain_17 rfl (Nat.le_of_ble_eq_true rfl) rfl ?_
  refine J.iload_n (pc := 19) G dX1_endsOfAgain_19 rfl ?_
  refine J.istore (L' := [_, _, _, _, _, _, _]) (pc := 20) G dX1_endsOfAgain_20 rfl (Nat.le_of_ble_eq_true rfl) rfl ?_
  have K1 : ∀ q : Nat, (s + q ≤ S 2 + 1) → J g 0 0 n M [some (.ref a), some (.int (iI (nod : Int))), some (.int (iI (s : Int))), some (.int (iI (once : Int))), some (.int (iI (agnB nd (A 1) (A 2) (S 2) nod s once q : Int))), some (.int (iI ((s + q : Nat) : Int))), none] 22 [] := by
    refine loopJ (fun q => S 2 + 1 - q) _ _ ?_
    intro j hj ih
    try dsimp only at hj ih ⊢
    have hblt := agnB_lt (nd := nd) (wd := A 1) (nod := nod) (once := once) hen h64 hwl h1 hj
    have hstep : agnB nd (A 1) (A 2) (S 2) nod s once (j + 1) = if once.testBit (s + j) then agnB nd (A 1) (A 2) (S 2) nod s once j ||| eAlt nd (A 1) (A 2) (S 2) nod 1 (s + j) ((chl nd nod).length - 1) else agnB nd (A 1) (A 2) (S 2) nod s once j := rfl
    have hend : j = S 2 + 1 - s → agnB nd (A 1) (A 2) (S 2) nod s once j = agnB nd (A 1) (A 2) (S 2) nod s once (S 2 + 1 - s) := fun e => by rw [e]
    generalize agnB nd (A 1) (A 2) (S 2) nod s once j = v at hstep hend hblt
    refine J.iload (pc := 22) G dX1_endsOfAgain_22 rfl ?_
    refine J.aload_n (pc := 24) G dX1_endsOfAgain_24 rfl ?_
    refine J.getf (pc := 25) (ci := 1) G inX1 rfl 2 q71 dX1_endsOfAgain_25 (hQ.a0) (by decide) rfl ?_
    refine J.icmp_gtN (pc := 28) (tgt := 59) G dX1_endsOfAgain_28 (by decide) (by omega) (by omega) (fun h => ?_) (fun h => ?_)
    · rw [← hend (by omega)] at hO
      refine J.fgt (L' := [_, _, _, _, _, _, _]) 5 rfl ?_
      refine J.iload_n (pc := 59) G dX1_endsOfAgain_59 rfl ?_
      refine J.istore (L' := [_, _, _, _, _, _, _]) (pc := 60) G dX1_endsOfAgain_60 rfl (Nat.le_of_ble_eq_true rfl) rfl ?_
      refine J.iload_n (pc := 62) G dX1_endsOfAgain_62 rfl ?_
      refine J.iconstN (pc := 63) G dX1_endsOfAgain_63 1 rfl ?_
      refine J.iaddN (pc := 64) G dX1_endsOfAgain_64 ?_
      refine J.istore (L' := [_, _, _, _, _, _, _]) (pc := 65) G dX1_endsOfAgain_65 rfl (Nat.le_of_ble_eq_true rfl) rfl ?_
      have K2 : ∀ q : Nat, (s + 1 + q ≤ S 2 + 1) → J g 0 0 n M [some (.ref a), some (.int (iI (nod : Int))), some (.int (iI (s : Int))), some (.int (iI (once : Int))), some (.int (iI (v : Int))), some (.int (iI (agnR (A 2) nod s once v q : Int))), some (.int (iI ((s + 1 + q : Nat) : Int)))] 67 [] := by
        refine loopJ (fun q => S 2 + 1 - q) _ _ ?_
        intro j hj ih3
        try dsimp only at hj ih3 ⊢
        have hstep2 : agnR (A 2) nod s once v (j + 1) = if v.testBit (s + 1 + j) then agnR (A 2) nod s once v j ||| A 2 (nod * 13 + (s + 1 + j)) else agnR (A 2) nod s once v j := rfl
        have hend2 : j = S 2 - s → agnR (A 2) nod s once v j = agnR (A 2) nod s once v (S 2 - s) := fun e => by rw [e]
        generalize agnR (A 2) nod s once v j = w at hstep2 hend2
        refine J.iload (pc := 67) G dX1_endsOfAgain_67 rfl ?_
        refine J.aload_n (pc := 69) G dX1_endsOfAgain_69 rfl ?_
        refine J.getf (pc := 70) (ci := 1) G inX1 rfl 2 q71 dX1_endsOfAgain_70 (hQ.a0) (by decide) rfl ?_
        refine J.icmp_gtN (pc := 73) (tgt := 109) G dX1_endsOfAgain_73 (by decide) (by omega) (by omega) (fun h9 => ?_) (fun h9 => ?_)
        · refine J.iload (pc := 109) G dX1_endsOfAgain_109 rfl ?_
          exact J.iret (pc := 111) G hO dX1_endsOfAgain_111 (Nat.le_refl _) (Nat.le_refl _) ⟨by rw [hend2 (by omega)], rfl, rfl⟩
        · have nx := ih3 (j + 1) (by omega) (by omega)
          rw [hstep2] at nx
          refine J.iload (pc := 76) G dX1_endsOfAgain_76 rfl ?_
          refine J.iload (pc := 78) G dX1_endsOfAgain_78 rfl ?_
          refine J.callSN (pc := 80) (na := 2) G (c_contains n M (m := v) (l := s + 1 + j) (by omega) (by omega)) (mem_nw 4) q248 q249 q1 (by decide +kernel) dX1_endsOfAgain_80 rfl (Nat.le_of_ble_eq_true rfl) rfl ⟨by omega, by decide, by omega, by omega⟩ ?_
          rintro r9 n9 M9 ⟨hr9, hn9, hM9⟩
          subst hr9
          rw [hn9, hM9]
          clear hn9 hM9 n9 M9
          dsimp only [Option.toList, List.cons_append, List.nil_append]
          refine J.if_eq_b (pc := 83) (tgt := 103) G dX1_endsOfAgain_83 (by decide) (fun hc => ?_) (fun hc => ?_)
          · rw [if_neg (by rw [hc]; decide)] at nx
            refine J.iincN (L' := [_, _, _, _, _, _, _]) (pc := 103) G dX1_endsOfAgain_103 1 rfl rfl rfl rfl ?_
            refine J.goto (tgt := 67) (pc := 106) G dX1_endsOfAgain_106 (by decide) ?_
            exact nx
          · rw [if_pos hc] at nx
            refine J.iload (pc := 86) G dX1_endsOfAgain_86 rfl ?_
            refine J.aload_n (pc := 88) G dX1_endsOfAgain_88 rfl ?_
            refine J.getf (pc := 89) (ci := 1) G inX1 rfl 3 q72 dX1_endsOfAgain_89 (hQ.a0) (by decide) rfl ?_
            refine J.iload_n (pc := 92) G dX1_endsOfAgain_92 rfl ?_
            refine J.bipushN (pc := 93) G dX1_endsOfAgain_93 13 (by decide +kernel) ?_
            refine J.imulN (pc := 95) G dX1_endsOfAgain_95 ?_
            refine J.iload (pc := 96) G dX1_endsOfAgain_96 rfl ?_
            refine J.iaddN (pc := 98) G dX1_endsOfAgain_98 ?_
            refine J.ialdN (pc := 99) G dX1_endsOfAgain_99 (hQ.a2) (by omega) (by decide) ?_
            refine J.iorN (pc := 100) G dX1_endsOfAgain_100 ?_
            refine J.istore (L' := [_, _, _, _, _, _, _]) (pc := 101) G dX1_endsOfAgain_101 rfl (Nat.le_of_ble_eq_true rfl) rfl ?_
            refine J.iincN (L' := [_, _, _, _, _, _, _]) (pc := 103) G dX1_endsOfAgain_103 1 rfl rfl rfl rfl ?_
            refine J.goto (tgt := 67) (pc := 106) G dX1_endsOfAgain_106 (by decide) ?_
            exact nx
      exact K2 0 (by omega)
    · have nx := ih (j + 1) (by omega) (by omega)
      rw [hstep] at nx
      refine J.iload_n (pc := 31) G dX1_endsOfAgain_31 rfl ?_
      refine J.iload (pc := 32) G dX1_endsOfAgain_32 rfl ?_
      refine J.callSN (pc := 34) (na := 2) G (c_contains n M (m := once) (l := s + j) (by omega) (by omega)) (mem_nw 4) q248 q249 q1 (by decide +kernel) dX1_endsOfAgain_34 rfl (Nat.le_of_ble_eq_true rfl) rfl ⟨by omega, by decide, by omega, by omega⟩ ?_
      rintro r9 n9 M9 ⟨hr9, hn9, hM9⟩
      subst hr9
      rw [hn9, hM9]
      clear hn9 hM9 n9 M9
      dsimp only [Option.toList, List.cons_append, List.nil_append]
      refine J.if_eq_b (pc := 37) (tgt := 53) G dX1_endsOfAgain_37 (by decide) (fun hc => ?_) (fun hc => ?_)
      · rw [if_neg (by rw [hc]; decide)] at nx
        refine J.iincN (L' := [_, _, _, _, _, _, _]) (pc := 53) G dX1_endsOfAgain_53 1 rfl rfl rfl rfl ?_
        refine J.goto (tgt := 22) (pc := 56) G dX1_endsOfAgain_56 (by decide) ?_
        exact nx
      · rw [if_pos hc] at nx
        refine J.iload (pc := 40) G dX1_endsOfAgain_40 rfl ?_
        refine J.aload_n (pc := 42) G dX1_endsOfAgain_42 rfl ?_
        refine J.iload_n (pc := 43) G dX1_endsOfAgain_43 rfl ?_
        refine J.iconstN (pc := 44) G dX1_endsOfAgain_44 1 rfl ?_
        refine J.iload (pc := 45) G dX1_endsOfAgain_45 rfl ?_
        refine J.callV (pc := 47) (na := 3) G (c_endsOfAlternatives n M (s := s + j) (nod := nod) (f := 1) hm (by omega) hn (Nat.le_refl 1)) q630 q632 qp32 q633 q3 (by decide +kernel) dX1_endsOfAgain_47 (hQ.a0) rfl rfl (Nat.le_of_ble_eq_true rfl) rfl ⟨by omega, by decide, by omega, by omega⟩ ?_
        rintro r9 n9 M9 ⟨hr9, hn9, hM9⟩
        subst hr9
        rw [hn9, hM9]
        clear hn9 hM9 n9 M9
        dsimp only [Option.toList, List.cons_append, List.nil_append]
        refine J.iorN (pc := 50) G dX1_endsOfAgain_50 ?_
        refine J.istore (L' := [_, _, _, _, _, _, _]) (pc := 51) G dX1_endsOfAgain_51 rfl (Nat.le_of_ble_eq_true rfl) rfl ?_
        refine J.iincN (L' := [_, _, _, _, _, _, _]) (pc := 53) G dX1_endsOfAgain_53 1 rfl rfl rfl rfl ?_
        refine J.goto (tgt := 22) (pc := 56) G dX1_endsOfAgain_56 (by decide) ?_
        exact nx
  exact K1 0 (by omega)
end MAT2
