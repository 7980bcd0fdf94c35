section MIN6
def cpS (A : Nat → Nat → Nat) (t u v j c : Nat) : Nat := if A 2 (t * 12 + (1 + j) - 1) = u then (if A 2 (t * 12 + (1 + j)) = v then c + 1 else c) else c
/-- how often v comes right behind u in a stored trace -/
def cpF (A : Nat → Nat → Nat) (t u v k : Nat) : Nat := it (cpS A t u v) 0 k
set_option maxRecDepth 100000 in
set_option maxHeartbeats 4000000 in
theorem c_countPairs (n : Nat) (M : AH) {a t u v : Nat} {A : Nat → Nat → Nat} {S : Nat → Nat} (hX : Cl M a (minC a A S)) (hok : MnOk A S) (ht : t < 10) (hu : u < 8) (hv : v < 8) : Fn yX3_countPairs cX3_countPairs 7 (some .int) 0 [.ref a, .int (iI (t : Int)), .int (iI (u : Int)), .int (iI (v : Int))] n M 0 0 (fun r n' M' => r = some (.int (iI ((cpF A t u v (A 3 t - 1) : Nat) : Int))) ∧ n' = n ∧ M' = M) := by
  refine Fn.of (by decide) [some _, some _, some _, some _, none, none, none] rfl rfl (Nat.le_of_ble_eq_true rfl) ?_
  intro g G hin hO
  obtain ⟨h1, h5, h9, hbu, hev, hle, hti⟩ := id hok
  have h3 := hle t ht
  refine J.iload_n (pc := 0) G dX3_countPairs_0 rfl ?_
  refine J.bipushN (pc := 1) G dX3_countPairs_1 12 (by decide +kernel) ?_
  refine J.imulN (pc := 3) G dX3_countPairs_3 ?_
  refine J.istore (L' := [_, _, _, _, _, _, _]) (pc := 4) G dX3_countPairs_4 rfl (Nat.le_of_ble_eq_true rfl) rfl ?_
  refine J.iconstN (pc := 6) G dX3_countPairs_6 0 rfl ?_
  refine J.istore (L' := [_, _, _, _, _, _, _]) (pc := 7) G dX3_countPairs_7 rfl (Nat.le_of_ble_eq_true rfl) rfl ?_
  refine J.iconstN (pc := 9) G dX3_countPairs_9 1 rfl ?_
  refine J.istore (L' := [_, _, _, _, _, _, _]) (pc := 10) G dX3_countPairs_10 rfl (Nat.le_of_ble_eq_true rfl) rfl ?_
  have K1 : ∀ j : Nat, j ≤ A 3 t - 1 → J g 0 0 n M [some (.ref a), some (.int (iI (t : Int))), some (.int (iI (u : Int))), some (.int (iI (v : Int))), some (.int (iI ((t * 12 : Nat) : Int))), some (.int (iI (cpF A t u v j : Int))), some (.int (iI ((1 + j : Nat) : Int)))] 12 [] := by
    refine loopJ (fun j => A 3 t - j) _ _ ?_
    intro j hj ih
    have hstep : cpF A t u v (j + 1) = cpS A t u v j (cpF A t u v j) := rfl
    refine J.iload (pc := 12) G dX3_countPairs_12 rfl ?_
    refine J.aload_n (pc := 14) G dX3_countPairs_14 rfl ?_
    refine J.getf (pc := 15) (ci := 3) G inX3 rfl 3 q138 dX3_countPairs_15 (hX.at 0 rfl) (by decide) rfl ?_
    refine J.iload_n (pc := 18) G dX3_countPairs_18 rfl ?_
    refine J.ialdN (pc := 19) G dX3_countPairs_19 (hX.at 3 rfl) (by omega) (by decide) ?_
    refine J.icmp_geN (pc := 20) (tgt := 62) G dX3_countPairs_20 (by decide) (by omega) (by omega) (fun h => ?_) (fun h => ?_)
    · refine J.iload (pc := 62) G dX3_countPairs_62 rfl ?_
      exact J.iret (pc := 64) G hO dX3_countPairs_64 (Nat.le_refl _) (Nat.le_refl _) ⟨by rw [show j = A 3 t - 1 by omega], rfl, rfl⟩
    · have e1 := hev (t * 12 + (1 + j) - 1) (by omega)
      have e2 := hev (t * 12 + (1 + j)) (by omega)
      have nx : ∀ c : Nat, c = cpF A t u v (j + 1) → J g 0 0 n M [some (.ref a), some (.int (iI (t : Int))), some (.int (iI (u : Int))), some (.int (iI (v : Int))), some (.int (iI ((t * 12 : Nat) : Int))), some (.int (iI (c : Int))), some (.int (iI ((1 + j : Nat) : Int)))] 56 [] := by
        intro c hc
        refine J.iincN (L' := [_, _, _, _, _, _, _]) (pc := 56) G dX3_countPairs_56 1 rfl rfl rfl rfl ?_
        refine J.goto (pc := 59) (tgt := 12) G dX3_countPairs_59 (by decide) ?_
        rw [hc]
        exact ih (j + 1) (by omega) (by omega)
      refine J.aload_n (pc := 23) G dX3_countPairs_23 rfl ?_
      refine J.getf (pc := 24) (ci := 3) G inX3 rfl 2 q137 dX3_countPairs_24 (hX.at 0 rfl) (by decide) rfl ?_
      refine J.iload (pc := 27) G dX3_countPairs_27 rfl ?_
      refine J.iload (pc := 29) G dX3_countPairs_29 rfl ?_
      refine J.iaddN (pc := 31) G dX3_countPairs_31 ?_
      refine J.iconstN (pc := 32) G dX3_countPairs_32 1 rfl ?_
      refine J.isubN (pc := 33) G dX3_countPairs_33 (by omega) ?_
      refine J.ialdN (pc := 34) G dX3_countPairs_34 (hX.at 2 rfl) (by omega) (by decide) ?_
      refine J.iload_n (pc := 35) G dX3_countPairs_35 rfl ?_
      refine J.icmp_neN (pc := 36) (tgt := 56) G dX3_countPairs_36 (by decide) (by omega) (by omega) (fun g1 => ?_) (fun g1 => ?_)
      · exact nx _ (by rw [hstep]; unfold cpS; rw [if_neg g1])
      · refine J.aload_n (pc := 39) G dX3_countPairs_39 rfl ?_
        refine J.getf (pc := 40) (ci := 3) G inX3 rfl 2 q137 dX3_countPairs_40 (hX.at 0 rfl) (by decide) rfl ?_
        refine J.iload (pc := 43) G dX3_countPairs_43 rfl ?_
        refine J.iload (pc := 45) G dX3_countPairs_45 rfl ?_
        refine J.iaddN (pc := 47) G dX3_countPairs_47 ?_
        refine J.ialdN (pc := 48) G dX3_countPairs_48 (hX.at 2 rfl) (by omega) (by decide) ?_
        refine J.iload_n (pc := 49) G dX3_countPairs_49 rfl ?_
        refine J.icmp_neN (pc := 50) (tgt := 56) G dX3_countPairs_50 (by decide) (by omega) (by omega) (fun g2 => ?_) (fun g2 => ?_)
        · exact nx _ (by rw [hstep]; unfold cpS; rw [if_pos g1, if_neg g2])
        · refine J.iincN (L' := [_, _, _, _, _, _, _]) (pc := 53) G dX3_countPairs_53 1 rfl rfl rfl rfl ?_
          exact nx _ (by rw [hstep]; unfold cpS; rw [if_pos g1, if_pos g2])
  exact K1 0 (Nat.zero_le _)
def flF (A : Nat → Nat → Nat) (u v k : Nat) : Nat := it (fun t s => s + A 4 t * cpF A t u v (A 3 t - 1)) 0 k
set_option maxRecDepth 100000 in
set_option maxHeartbeats 4000000 in
theorem c_follows (n : Nat) (M : AH) {a : Nat} {u v : Int} {A : Nat → Nat → Nat} {S : Nat → Nat} (hX : Cl M a (minC a A S)) (hok : MnOk A S) (hu : Rng u) (hv : Rng v) : Fx yX3_follows cX3_follows 5 (some .int) 7 [.ref a, .int (iI u), .int (iI v)] n M 2 12 (fun r n' M' => r = some (.int (iI ((flF A u.toNat v.toNat (S 5) : Nat) : Int))) ∧ n' = n ∧ M' = M ∧ (0 ≤ u ∧ u < 8) ∧ 0 ≤ v ∧ v < 8) (LbX n M u v) := by
  refine Fx.of (by decide) [some _, some _, some _, none, none] rfl rfl (Nat.le_of_ble_eq_true rfl) ?_
  intro g G hO hT htab
  obtain ⟨h1, h5, h9, hbu, hev, hle, hti⟩ := id hok
  refine J.iload_n (pc := 0) G dX3_follows_0 rfl ?_
  refine J.callXS (pc := 1) (na := 1) G (c_checkLabel n M hu) q339 q340 q341 q1 (by decide +kernel) dX3_follows_1 rfl (Nat.le_of_ble_eq_true rfl) rfl ⟨by omega, by decide, by omega, by omega⟩ (fun E9 n9 M9 h9 => JX.out G hT htab (by omega) (by omega) (⟨h9.1, h9.2.1, h9.2.2.1, fun h => h9.2.2.2 h.1⟩)) ?_
  rintro r9 n9 M9 ⟨hr9, hn9, hM9, ⟨hu0, hu8⟩⟩
  subst hr9
  rw [hn9, hM9]
  clear hn9 hM9 n9 M9
  dsimp only [Option.toList, List.cons_append, List.nil_append]
  refine J.iload_n (pc := 4) G dX3_follows_4 rfl ?_
  refine J.callXS (pc := 5) (na := 1) G (c_checkLabel n M hv) q339 q340 q341 q1 (by decide +kernel) dX3_follows_5 rfl (Nat.le_of_ble_eq_true rfl) rfl ⟨by omega, by decide, by omega, by omega⟩ (fun E9 n9 M9 h9 => JX.out G hT htab (by omega) (by omega) (⟨h9.1, h9.2.1, h9.2.2.1, fun h => h9.2.2.2 h.2⟩)) ?_
  rintro r9 n9 M9 ⟨hr9, hn9, hM9, ⟨hv0, hv8⟩⟩
  subst hr9
  rw [hn9, hM9]
  clear hn9 hM9 n9 M9
  dsimp only [Option.toList, List.cons_append, List.nil_append]
  have eu : ((u.toNat : Nat) : Int) = u := by omega
  have ev : ((v.toNat : Nat) : Int) = v := by omega
  generalize u.toNat = u1 at hO eu
  generalize v.toNat = v1 at hO ev
  subst eu; subst ev
  refine J.iconstN (pc := 8) G dX3_follows_8 0 rfl ?_
  refine J.istore_n (L' := [_, _, _, _, _]) (pc := 9) G dX3_follows_9 rfl (Nat.le_of_ble_eq_true rfl) rfl ?_
  refine J.iconstN (pc := 10) G dX3_follows_10 0 rfl ?_
  refine J.istore (L' := [_, _, _, _, _]) (pc := 11) G dX3_follows_11 rfl (Nat.le_of_ble_eq_true rfl) rfl ?_
  have K1 : ∀ t : Nat, t ≤ S 5 → J g 2 12 n M [some (.ref a), some (.int (iI (u1 : Int))), some (.int (iI (v1 : Int))), some (.int (iI (flF A u1 v1 t : Int))), some (.int (iI (t : Int)))] 13 [] := by
    refine loopJ (fun t => S 5 - t) _ _ ?_
    intro t ht ih
    refine J.iload (pc := 13) G dX3_follows_13 rfl ?_
    refine J.aload_n (pc := 15) G dX3_follows_15 rfl ?_
    refine J.getf (pc := 16) (ci := 3) G inX3 rfl 5 q140 dX3_follows_16 (hX.at 0 rfl) (by decide) rfl ?_
    refine J.icmp_geN (pc := 19) (tgt := 47) G dX3_follows_19 (by decide) (by omega) (by omega) (fun h => ?_) (fun h => ?_)
    · refine J.iload_n (pc := 47) G dX3_follows_47 rfl ?_
      exact J.iret (pc := 48) G hO dX3_follows_48 (by decide) (by decide) ⟨by rw [show t = S 5 by omega], rfl, rfl, ⟨hu0, hu8⟩, hv0, hv8⟩
    · refine J.iload_n (pc := 22) G dX3_follows_22 rfl ?_
      refine J.aload_n (pc := 23) G dX3_follows_23 rfl ?_
      refine J.getf (pc := 24) (ci := 3) G inX3 rfl 4 q139 dX3_follows_24 (hX.at 0 rfl) (by decide) rfl ?_
      refine J.iload (pc := 27) G dX3_follows_27 rfl ?_
      refine J.ialdN (pc := 29) G dX3_follows_29 (hX.at 4 rfl) (by omega) (by decide) ?_
      refine J.aload_n (pc := 30) G dX3_follows_30 rfl ?_
      refine J.iload (pc := 31) G dX3_follows_31 rfl ?_
      refine J.iload_n (pc := 33) G dX3_follows_33 rfl ?_
      refine J.iload_n (pc := 34) G dX3_follows_34 rfl ?_
      refine J.callV (pc := 35) (na := 3) G (c_countPairs n M (t := t) (u := u1) (v := v1) hX hok (by omega) (by omega) (by omega)) q496 q498 qp23 q499 q1 (by decide +kernel) dX3_follows_35 (hX.at 0 rfl) rfl rfl (Nat.le_of_ble_eq_true rfl) rfl ⟨by omega, by decide, by omega, by omega⟩ ?_
      rintro r9 n9 M9 ⟨hr9, hn9, hM9⟩
      subst hr9
      rw [hn9, hM9]
      clear hn9 hM9 n9 M9
      dsimp only [Option.toList, List.cons_append, List.nil_append]
      refine J.imulN (pc := 38) G dX3_follows_38 ?_
      refine J.iaddN (pc := 39) G dX3_follows_39 ?_
      refine J.istore_n (L' := [_, _, _, _, _]) (pc := 40) G dX3_follows_40 rfl (Nat.le_of_ble_eq_true rfl) rfl ?_
      refine J.iincN (L' := [_, _, _, _, _]) (pc := 41) G dX3_follows_41 1 rfl rfl rfl rfl ?_
      refine J.goto (pc := 44) (tgt := 13) G dX3_follows_44 (by decide) ?_
      exact ih (t + 1) (by omega) (by omega)
  exact K1 0 (Nat.zero_le _)
abbrev rwT (A : Nat → Nat → Nat) (t : Nat) : List Nat := rwL A t (A 3 t)
theorem rwL_eq {A : Nat → Nat → Nat} {t o k : Nat} (h : ∀ i, i < k → A 2 (t * 12 + i) = A 2 (o * 12 + i)) : rwL A t k = rwL A o k := by
  unfold rwL
  exact List.map_congr_left (fun i hi => h i (List.mem_range.mp hi))
set_option maxRecDepth 100000 in
set_option maxHeartbeats 4000000 in
theorem c_isSame (n : Nat) (M : AH) {a t o : Nat} {A : Nat → Nat → Nat} {S : Nat → Nat} (hX : Cl M a (minC a A S)) (hok : MnOk A S) (ht : t < 10) (ho : o < 10) : Fn yX3_isSame cX3_isSame 4 (some .boolean) 0 [.ref a, .int (iI (t : Int)), .int (iI (o : Int))] n M 0 0 (fun r n' M' => r = some (.int (bI (decide (rwT A t = rwT A o)))) ∧ n' = n ∧ M' = M) := by
  refine Fn.of (by decide) [some _, some _, some _, none] rfl rfl (Nat.le_of_ble_eq_true rfl) ?_
  intro g G hin hO
  obtain ⟨h1, h5, h9, hbu, hev, hle, hti⟩ := id hok
  have h3 := hle t ht
  have h3o := hle o ho
  refine J.aload_n (pc := 0) G dX3_isSame_0 rfl ?_
  refine J.getf (pc := 1) (ci := 3) G inX3 rfl 3 q138 dX3_isSame_1 (hX.at 0 rfl) (by decide) rfl ?_
  refine J.iload_n (pc := 4) G dX3_isSame_4 rfl ?_
  refine J.ialdN (pc := 5) G dX3_isSame_5 (hX.at 3 rfl) (by omega) (by decide) ?_
  refine J.aload_n (pc := 6) G dX3_isSame_6 rfl ?_
  refine J.getf (pc := 7) (ci := 3) G inX3 rfl 3 q138 dX3_isSame_7 (hX.at 0 rfl) (by decide) rfl ?_
  refine J.iload_n (pc := 10) G dX3_isSame_10 rfl ?_
  refine J.ialdN (pc := 11) G dX3_isSame_11 (hX.at 3 rfl) (by omega) (by decide) ?_
  refine J.icmp_eqN (pc := 12) (tgt := 17) G dX3_isSame_12 (by decide) (by omega) (by omega) (fun h => ?_) (fun h => ?_)
  · refine J.iconstN (pc := 17) G dX3_isSame_17 0 rfl ?_
    refine J.istore_n (L' := [_, _, _, _]) (pc := 18) G dX3_isSame_18 rfl (Nat.le_of_ble_eq_true rfl) rfl ?_
    have K1 : ∀ j : Nat, (j ≤ A 3 t ∧ ∀ i, i < j → A 2 (t * 12 + i) = A 2 (o * 12 + i)) → J g 0 0 n M [some (.ref a), some (.int (iI (t : Int))), some (.int (iI (o : Int))), some (.int (iI (j : Int)))] 19 [] := by
      refine loopJ (fun j => A 3 t - j) _ _ ?_
      rintro j ⟨hj, hs⟩ ih
      refine J.iload_n (pc := 19) G dX3_isSame_19 rfl ?_
      refine J.aload_n (pc := 20) G dX3_isSame_20 rfl ?_
      refine J.getf (pc := 21) (ci := 3) G inX3 rfl 3 q138 dX3_isSame_21 (hX.at 0 rfl) (by decide) rfl ?_
      refine J.iload_n (pc := 24) G dX3_isSame_24 rfl ?_
      refine J.ialdN (pc := 25) G dX3_isSame_25 (hX.at 3 rfl) (by omega) (by decide) ?_
      refine J.icmp_geN (pc := 26) (tgt := 62) G dX3_isSame_26 (by decide) (by omega) (by omega) (fun h2 => ?_) (fun h2 => ?_)
      · refine J.iconstN (pc := 62) G dX3_isSame_62 1 rfl ?_
        exact J.zret1 (pc := 63) G hO dX3_isSame_63 (Nat.le_refl _) (Nat.le_refl _) ⟨by rw [decide_eq_true (show rwT A t = rwT A o by unfold rwT; rw [← h]; exact rwL_eq (fun i hi => hs i (by omega)))], rfl, rfl⟩
      · have e1 := hev (t * 12 + j) (by omega)
        have e2 := hev (o * 12 + j) (by omega)
        refine J.aload_n (pc := 29) G dX3_isSame_29 rfl ?_
        refine J.getf (pc := 30) (ci := 3) G inX3 rfl 2 q137 dX3_isSame_30 (hX.at 0 rfl) (by decide) rfl ?_
        refine J.iload_n (pc := 33) G dX3_isSame_33 rfl ?_
        refine J.bipushN (pc := 34) G dX3_isSame_34 12 (by decide +kernel) ?_
        refine J.imulN (pc := 36) G dX3_isSame_36 ?_
        refine J.iload_n (pc := 37) G dX3_isSame_37 rfl ?_
        refine J.iaddN (pc := 38) G dX3_isSame_38 ?_
        refine J.ialdN (pc := 39) G dX3_isSame_39 (hX.at 2 rfl) (by omega) (by decide) ?_
        refine J.aload_n (pc := 40) G dX3_isSame_40 rfl ?_
        refine J.getf (pc := 41) (ci := 3) G inX3 rfl 2 q137 dX3_isSame_41 (hX.at 0 rfl) (by decide) rfl ?_
        refine J.iload_n (pc := 44) G dX3_isSame_44 rfl ?_
        refine J.bipushN (pc := 45) G dX3_isSame_45 12 (by decide +kernel) ?_
        refine J.imulN (pc := 47) G dX3_isSame_47 ?_
        refine J.iload_n (pc := 48) G dX3_isSame_48 rfl ?_
        refine J.iaddN (pc := 49) G dX3_isSame_49 ?_
        refine J.ialdN (pc := 50) G dX3_isSame_50 (hX.at 2 rfl) (by omega) (by decide) ?_
        refine J.icmp_eqN (pc := 51) (tgt := 56) G dX3_isSame_51 (by decide) (by omega) (by omega) (fun g1 => ?_) (fun g1 => ?_)
        · refine J.iincN (L' := [_, _, _, _]) (pc := 56) G dX3_isSame_56 1 rfl rfl rfl rfl ?_
          refine J.goto (pc := 59) (tgt := 19) G dX3_isSame_59 (by decide) ?_
          refine ih (j + 1) ⟨by omega, fun i hi => ?_⟩ (by omega)
          by_cases q : i = j
          · rw [q]; exact g1
          · exact hs i (by omega)
        · refine J.iconstN (pc := 54) G dX3_isSame_54 0 rfl ?_
          refine J.zret0 (pc := 55) G hO dX3_isSame_55 (Nat.le_refl _) (Nat.le_refl _) ⟨?_, rfl, rfl⟩
          rw [decide_eq_false (fun e => g1 ?_)]
          have : gd (rwL A t (A 3 t)) j = gd (rwL A o (A 3 o)) j := congrArg (fun l => gd l j) e
          rw [rwL_gd (by omega), rwL_gd (by omega)] at this
          exact this
    exact K1 0 ⟨Nat.zero_le _, fun i hi => absurd hi (Nat.not_lt_zero i)⟩
  · refine J.iconstN (pc := 15) G dX3_isSame_15 0 rfl ?_
    refine J.zret0 (pc := 16) G hO dX3_isSame_16 (Nat.le_refl _) (Nat.le_refl _) ⟨?_, rfl, rfl⟩
    rw [decide_eq_false (fun e => h ?_)]
    have := congrArg List.length e
    unfold rwT at this
    rw [rwL_len, rwL_len] at this
    exact this
/-- an earlier stored trace with a time or more reads the same -/
def repF (A : Nat → Nat → Nat) (t k : Nat) : Bool := it (fun o b => b || (decide (0 < A 4 o) && decide (rwT A o = rwT A t))) false k
theorem repF_up {A : Nat → Nat → Nat} {t k : Nat} (h : repF A t k = true) : ∀ d, repF A t (k + d) = true
  | 0 => h
  | d + 1 => by
    show (repF A t (k + d) || _) = true
    rw [repF_up h d]; rfl
set_option maxRecDepth 100000 in
set_option maxHeartbeats 4000000 in
theorem c_isRepeated (n : Nat) (M : AH) {a t : Nat} {A : Nat → Nat → Nat} {S : Nat → Nat} (hX : Cl M a (minC a A S)) (hok : MnOk A S) (ht : t < 10) : Fn yX3_isRepeated cX3_isRepeated 3 (some .boolean) 1 [.ref a, .int (iI (t : Int))] n M 0 0 (fun r n' M' => r = some (.int (bI (repF A t t))) ∧ n' = n ∧ M' = M) := by
  refine Fn.of (by decide) [some _, some _, none] rfl rfl (Nat.le_of_ble_eq_true rfl) ?_
  intro g G hin hO
  obtain ⟨h1, h5, h9, hbu, hev, hle, hti⟩ := id hok
  refine J.iconstN (pc := 0) G dX3_isRepeated_0 0 rfl ?_
  refine J.istore_n (L' := [_, _, _]) (pc := 1) G dX3_isRepeated_1 rfl (Nat.le_of_ble_eq_true rfl) rfl ?_
  have K1 : ∀ o : Nat, (o ≤ t ∧ repF A t o = false) → J g 0 0 n M [some (.ref a), some (.int (iI (t : Int))), some (.int (iI (o : Int)))] 2 [] := by
    refine loopJ (fun o => t - o) _ _ ?_
    rintro o ⟨ho, hr⟩ ih
    have hstep : repF A t (o + 1) = (repF A t o || (decide (0 < A 4 o) && decide (rwT A o = rwT A t))) := rfl
    rw [hr, Bool.false_or] at hstep
    refine J.iload_n (pc := 2) G dX3_isRepeated_2 rfl ?_
    refine J.iload_n (pc := 3) G dX3_isRepeated_3 rfl ?_
    refine J.icmp_geN (pc := 4) (tgt := 33) G dX3_isRepeated_4 (by decide) (by omega) (by omega) (fun h => ?_) (fun h => ?_)
    · refine J.iconstN (pc := 33) G dX3_isRepeated_33 0 rfl ?_
      exact J.zret0 (pc := 34) G hO dX3_isRepeated_34 (Nat.le_refl _) (Nat.le_refl _) ⟨by rw [show repF A t t = false by rw [← show o = t by omega]; rw [show o = t by omega] at hr ⊢; exact hr], rfl, rfl⟩
    · have h4 := hti o (by omega)
      have nx : repF A t (o + 1) = false → J g 0 0 n M [some (.ref a), some (.int (iI (t : Int))), some (.int (iI (o : Int)))] 27 [] := by
        intro hf
        refine J.iincN (L' := [_, _, _]) (pc := 27) G dX3_isRepeated_27 1 rfl rfl rfl rfl ?_
        refine J.goto (pc := 30) (tgt := 2) G dX3_isRepeated_30 (by decide) ?_
        exact ih (o + 1) ⟨by omega, hf⟩ (by omega)
      refine J.aload_n (pc := 7) G dX3_isRepeated_7 rfl ?_
      refine J.getf (pc := 8) (ci := 3) G inX3 rfl 4 q139 dX3_isRepeated_8 (hX.at 0 rfl) (by decide) rfl ?_
      refine J.iload_n (pc := 11) G dX3_isRepeated_11 rfl ?_
      refine J.ialdN (pc := 12) G dX3_isRepeated_12 (hX.at 4 rfl) (by omega) (by decide) ?_
      refine J.if_le (pc := 13) (tgt := 27) G dX3_isRepeated_13 (by decide) (by omega) (by omega) (fun h0 => ?_) (fun h0 => ?_)
      · exact nx (by rw [hstep, decide_eq_false (by omega)]; rfl)
      · rw [decide_eq_true (show 0 < A 4 o by omega), Bool.true_and] at hstep
        refine J.aload_n (pc := 16) G dX3_isRepeated_16 rfl ?_
        refine J.iload_n (pc := 17) G dX3_isRepeated_17 rfl ?_
        refine J.iload_n (pc := 18) G dX3_isRepeated_18 rfl ?_
        refine J.callV (pc := 19) (na := 2) G (c_isSame n M (t := o) (o := t) hX hok (by omega) ht) q210 q212 qp3 q213 q1 (by decide +kernel) dX3_isRepeated_19 (hX.at 0 rfl) rfl rfl (Nat.le_of_ble_eq_true rfl) rfl ⟨by omega, by decide, by omega, by omega⟩ ?_
        rintro r9 n9 M9 ⟨hr9, hn9, hM9⟩
        subst hr9
        rw [hn9, hM9]
        clear hn9 hM9 n9 M9
        dsimp only [Option.toList, List.cons_append, List.nil_append]
        refine J.if_eq_b (pc := 22) (tgt := 27) G dX3_isRepeated_22 (by decide) (fun hb => ?_) (fun hb => ?_)
        · exact nx (by rw [hstep, hb])
        · refine J.iconstN (pc := 25) G dX3_isRepeated_25 1 rfl ?_
          refine J.zret1 (pc := 26) G hO dX3_isRepeated_26 (Nat.le_refl _) (Nat.le_refl _) ⟨?_, rfl, rfl⟩
          have := repF_up (hstep.trans hb) (t - (o + 1))
          rw [show o + 1 + (t - (o + 1)) = t by omega] at this
          rw [this]
  exact K1 0 ⟨Nat.zero_le _, rfl⟩
def vaF (A : Nat → Nat → Nat) (k : Nat) : Nat := it (fun t c => if 0 < A 4 t then (if repF A t t then c else c + 1) else c) 0 k
set_option maxRecDepth 100000 in
set_option maxHeartbeats 4000000 in
theorem c_variants (n : Nat) (M : AH) {a : Nat} {A : Nat → Nat → Nat} {S : Nat → Nat} (hX : Cl M a (minC a A S)) (hok : MnOk A S) : Fn yX3_variants cX3_variants 3 (some .int) 2 [.ref a] n M 0 0 (fun r n' M' => r = some (.int (iI ((vaF A (S 5) : Nat) : Int))) ∧ n' = n ∧ M' = M) := by
  refine Fn.of (by decide) [some _, none, none] rfl rfl (Nat.le_of_ble_eq_true rfl) ?_
  intro g G hin hO
  obtain ⟨h1, h5, h9, hbu, hev, hle, hti⟩ := id hok
  refine J.iconstN (pc := 0) G dX3_variants_0 0 rfl ?_
  refine J.istore_n (L' := [_, _, _]) (pc := 1) G dX3_variants_1 rfl (Nat.le_of_ble_eq_true rfl) rfl ?_
  refine J.iconstN (pc := 2) G dX3_variants_2 0 rfl ?_
  refine J.istore_n (L' := [_, _, _]) (pc := 3) G dX3_variants_3 rfl (Nat.le_of_ble_eq_true rfl) rfl ?_
  have K1 : ∀ t : Nat, t ≤ S 5 → J g 0 0 n M [some (.ref a), some (.int (iI (vaF A t : Int))), some (.int (iI (t : Int)))] 4 [] := by
    refine loopJ (fun t => S 5 - t) _ _ ?_
    intro t ht ih
    have hstep : vaF A (t + 1) = if 0 < A 4 t then (if repF A t t then vaF A t else vaF A t + 1) else vaF A t := rfl
    refine J.iload_n (pc := 4) G dX3_variants_4 rfl ?_
    refine J.aload_n (pc := 5) G dX3_variants_5 rfl ?_
    refine J.getf (pc := 6) (ci := 3) G inX3 rfl 5 q140 dX3_variants_6 (hX.at 0 rfl) (by decide) rfl ?_
    refine J.icmp_geN (pc := 9) (tgt := 38) G dX3_variants_9 (by decide) (by omega) (by omega) (fun h => ?_) (fun h => ?_)
    · refine J.iload_n (pc := 38) G dX3_variants_38 rfl ?_
      exact J.iret (pc := 39) G hO dX3_variants_39 (Nat.le_refl _) (Nat.le_refl _) ⟨by rw [show t = S 5 by omega], rfl, rfl⟩
    · have h4 := hti t (by omega)
      have nx : ∀ c : Nat, c = vaF A (t + 1) → J g 0 0 n M [some (.ref a), some (.int (iI (c : Int))), some (.int (iI (t : Int)))] 32 [] := by
        intro c hc
        refine J.iincN (L' := [_, _, _]) (pc := 32) G dX3_variants_32 1 rfl rfl rfl rfl ?_
        refine J.goto (pc := 35) (tgt := 4) G dX3_variants_35 (by decide) ?_
        rw [hc]
        exact ih (t + 1) (by omega) (by omega)
      refine J.aload_n (pc := 12) G dX3_variants_12 rfl ?_
      refine J.getf (pc := 13) (ci := 3) G inX3 rfl 4 q139 dX3_variants_13 (hX.at 0 rfl) (by decide) rfl ?_
      refine J.iload_n (pc := 16) G dX3_variants_16 rfl ?_
      refine J.ialdN (pc := 17) G dX3_variants_17 (hX.at 4 rfl) (by omega) (by decide) ?_
      refine J.if_le (pc := 18) (tgt := 32) G dX3_variants_18 (by decide) (by omega) (by omega) (fun h0 => ?_) (fun h0 => ?_)
      · exact nx _ (by rw [hstep, if_neg (by omega)])
      · rw [if_pos (by omega)] at hstep
        refine J.aload_n (pc := 21) G dX3_variants_21 rfl ?_
        refine J.iload_n (pc := 22) G dX3_variants_22 rfl ?_
        refine J.callV (pc := 23) (na := 1) G (c_isRepeated n M (t := t) hX hok (by omega)) q206 q208 qp2 q209 q1 (by decide +kernel) dX3_variants_23 (hX.at 0 rfl) rfl rfl (Nat.le_of_ble_eq_true rfl) rfl ⟨by omega, by decide, by omega, by omega⟩ ?_
        rintro r9 n9 M9 ⟨hr9, hn9, hM9⟩
        subst hr9
        rw [hn9, hM9]
        clear hn9 hM9 n9 M9
        dsimp only [Option.toList, List.cons_append, List.nil_append]
        refine J.if_ne_b (pc := 26) (tgt := 32) G dX3_variants_26 (by decide) (fun hb => ?_) (fun hb => ?_)
        · exact nx _ (by rw [hstep, hb]; rfl)
        · refine J.iincN (L' := [_, _, _]) (pc := 29) G dX3_variants_29 1 rfl rfl rfl rfl ?_
          exact nx _ (by rw [hstep, hb]; rfl)
  exact K1 0 (Nat.zero_le _)
end MIN6
