section MOD3
set_option maxRecDepth 100000 in
set_option maxHeartbeats 4000000 in
theorem m_endTrace (n : Nat) (M0 : AH) {a : Nat} {v : Int} {R : Nat → Nat → Nat} {P : Nat → Int} {Z : Nat → Nat} {A : Nat → Nat → Nat} {S : Nat → Nat} (hM : Cl M0 a (modC a R P Z)) (hw : Vw R Z A S) (hok : MnOk A S) (hv : Rng v) : Fn yX4_endTrace cX4_endTrace 3 (some .int) 1 [.ref a, .int (iI v)] n M0 0 0 (MPost n M0 a R P Z (fun x c A' S' => ((0 ≤ v ∧ v ≤ 99) ∧ S 5 < 10 ∧ x = iI ((S 5 : Nat) : Int) ∧ c = 0 ∧ A' = etA A S v.toNat ∧ S' = etS S) ∨ (¬ (0 ≤ v ∧ v ≤ 99) ∧ c = 1 ∧ A' = A ∧ S' = S) ∨ ((0 ≤ v ∧ v ≤ 99) ∧ ¬ S 5 < 10 ∧ c = 2 ∧ A' = A ∧ S' = S))) := by
  refine Fn.of (by decide) [some _, some _, none] rfl rfl (Nat.le_of_ble_eq_true rfl) ?_
  intro g G hin hO
  obtain ⟨w1, w2, w3, w4, z1, z3, z7⟩ := hw
  obtain ⟨h1, h5, -⟩ := hok
  have hFr : Fr a (a + 9) M0 M0 := Fr.rf
  generalize hM1 : M0 = M1 at hM hFr
  refine J.aload_n (pc := 0) G dX4_endTrace_0 rfl ?_
  refine J.iconstN (pc := 1) G dX4_endTrace_1 0 rfl ?_
  refine J.putf (pc := 2) (ci := 4) G inX4 rfl tyX4 tyX4_ok nmX4 0 q695 dX4_endTrace_2 (hM.at 0 rfl) (by decide) (Nat.le_of_ble_eq_true rfl) (Or.inl rfl) (tyX4_ok 0 (by decide)) (by first | rfl | decide +kernel) (by first | rfl | decide +kernel) (fun M hput hag => ?_)
  have hM := modS0 hM hput hag
  have hFr := hFr.put hag (by omega) (by omega)
  clear hput hag
  refine J.iload_n (pc := 5) G dX4_endTrace_5 rfl ?_
  refine J.callS (pc := 6) (na := 1) G (m_isTimes n M hv) q754 q755 q756 q5 (by decide +kernel) dX4_endTrace_6 rfl (Nat.le_of_ble_eq_true rfl) rfl ⟨by omega, by decide, by omega, by omega⟩ ?_
  rintro r9 n9 M9 ⟨hr9, hn9, hM9⟩
  subst hr9
  rw [hn9, hM9]
  clear hn9 hM9 n9 M9
  dsimp only [Option.toList, List.cons_append, List.nil_append]
  have hFr0 : Fr a (a + 9) M0 M := hM1 ▸ hFr
  refine J.if_ne_b (pc := 9) (tgt := 18) G dX4_endTrace_9 (by decide) (fun hb => ?_) (fun hb => ?_)
  · have hl := of_decide_eq_true hb
    have z3' : upN Z 0 0 3 = S 5 := z3
    have z1' : upN Z 0 0 1 = S 1 := z1
    refine J.aload_n (pc := 18) G dX4_endTrace_18 rfl ?_
    refine J.getf (pc := 19) (ci := 4) G inX4 rfl 3 q698 dX4_endTrace_19 (hM.at 0 rfl) (by decide) rfl ?_
    refine J.bipushN (pc := 22) G dX4_endTrace_22 10 (by decide +kernel) ?_
    refine J.icmp_neN (pc := 24) (tgt := 33) G dX4_endTrace_24 (by decide) (by omega) (by omega) (fun h => ?_) (fun h => ?_)
    · rw [show v = ((v.toNat : Nat) : Int) by omega]
      clear hFr
      have hFr := hFr0
      clear hFr0 hM1
      refine J.aload_n (pc := 33) G dX4_endTrace_33 rfl ?_
      refine J.getf (pc := 34) (ci := 4) G inX4 rfl 4 q699 dX4_endTrace_34 (hM.at 0 rfl) (by decide) rfl ?_
      refine J.aload_n (pc := 37) G dX4_endTrace_37 rfl ?_
      refine J.getf (pc := 38) (ci := 4) G inX4 rfl 3 q698 dX4_endTrace_38 (hM.at 0 rfl) (by decide) rfl ?_
      rw [z3']
      refine J.iload_n (pc := 41) G dX4_endTrace_41 rfl ?_
      refine J.iastN (pc := 42) G dX4_endTrace_42 (hM.at 2 rfl) (by omega) (by decide) (fun M hput hag => ?_)
      have hM := modA2 hM hput hag
      have hFr := hFr.put hag (by omega) (by omega)
      clear hput hag
      refine J.aload_n (pc := 43) G dX4_endTrace_43 rfl ?_
      refine J.getf (pc := 44) (ci := 4) G inX4 rfl 5 q700 dX4_endTrace_44 (hM.at 0 rfl) (by decide) rfl ?_
      refine J.aload_n (pc := 47) G dX4_endTrace_47 rfl ?_
      refine J.getf (pc := 48) (ci := 4) G inX4 rfl 3 q698 dX4_endTrace_48 (hM.at 0 rfl) (by decide) rfl ?_
      rw [z3']
      refine J.aload_n (pc := 51) G dX4_endTrace_51 rfl ?_
      refine J.getf (pc := 52) (ci := 4) G inX4 rfl 1 q696 dX4_endTrace_52 (hM.at 0 rfl) (by decide) rfl ?_
      rw [z1']
      refine J.iastN (pc := 55) G dX4_endTrace_55 (hM.at 3 rfl) (by omega) (by decide) (fun M hput hag => ?_)
      have hM := modA3 hM hput hag
      have hFr := hFr.put hag (by omega) (by omega)
      clear hput hag
      refine J.iconstN (pc := 56) G dX4_endTrace_56 0 rfl ?_
      refine J.istore_n (L' := [_, _, _]) (pc := 57) G dX4_endTrace_57 rfl (Nat.le_of_ble_eq_true rfl) rfl ?_
      have K1 : ∀ q : Nat × AH, (q.1 ≤ S 1 ∧ Cl q.2 a (modC a (upAN (upAN (upAN R 2 (upN (R 2) (S 5) v.toNat)) 3 (upN (R 3) (S 5) (S 1))) 4 (etE A S q.1)) P (upN Z 0 0)) ∧ Fr a (a + 9) M0 q.2) → J g 0 0 n q.2 [some (.ref a), some (.int (iI ((v.toNat : Nat) : Int))), some (.int (iI (q.1 : Int)))] 58 [] := by
        refine loopJ (fun q => S 1 - q.1) _ _ ?_
        clear hM hFr
        rintro ⟨j, M⟩ ⟨hj, hM, hFr⟩ ih
        dsimp only at hj hM hFr ih ⊢
        have hstep : etE A S (j + 1) = upN (etE A S j) (S 5 * 12 + j) (A 1 j) := rfl
        refine J.iload_n (pc := 58) G dX4_endTrace_58 rfl ?_
        refine J.aload_n (pc := 59) G dX4_endTrace_59 rfl ?_
        refine J.getf (pc := 60) (ci := 4) G inX4 rfl 1 q696 dX4_endTrace_60 (hM.at 0 rfl) (by decide) rfl ?_
        rw [z1']
        refine J.icmp_geN (pc := 63) (tgt := 92) G dX4_endTrace_63 (by decide) (by omega) (by omega) (fun h2 => ?_) (fun h2 => ?_)
        · have hj1 : j = S 1 := by omega
          subst hj1
          refine J.aload_n (pc := 92) G dX4_endTrace_92 rfl ?_
          refine J.iconstN (pc := 93) G dX4_endTrace_93 0 rfl ?_
          refine J.putf (pc := 94) (ci := 4) G inX4 rfl tyX4 tyX4_ok nmX4 1 q696 dX4_endTrace_94 (hM.at 0 rfl) (by decide) (Nat.le_of_ble_eq_true rfl) (Or.inl rfl) (tyX4_ok 1 (by decide)) (by first | rfl | decide +kernel) (by first | rfl | decide +kernel) (fun M hput hag => ?_)
          have hM := modS1 hM hput hag
          have hFr := hFr.put hag (by omega) (by omega)
          clear hput hag
          refine J.aload_n (pc := 97) G dX4_endTrace_97 rfl ?_
          refine J.dup (pc := 98) G dX4_endTrace_98 rfl ?_
          refine J.getf (pc := 99) (ci := 4) G inX4 rfl 3 q698 dX4_endTrace_99 (hM.at 0 rfl) (by decide) rfl ?_
          refine J.topv (b := iI (S 5 : Int)) (by rw [← z3]; rfl) ?_
          refine J.iconstN (pc := 102) G dX4_endTrace_102 1 rfl ?_
          refine J.iaddN (pc := 103) G dX4_endTrace_103 ?_
          refine J.putf (pc := 104) (ci := 4) G inX4 rfl tyX4 tyX4_ok nmX4 3 q698 dX4_endTrace_104 (hM.at 0 rfl) (by decide) (Nat.le_of_ble_eq_true rfl) (Or.inl rfl) (tyX4_ok 3 (by decide)) (by first | rfl | decide +kernel) (by first | rfl | decide +kernel) (fun M hput hag => ?_)
          have hM := modS3 hM hput hag
          have hFr := hFr.put hag (by omega) (by omega)
          clear hput hag
          refine J.aload_n (pc := 107) G dX4_endTrace_107 rfl ?_
          refine J.iconstN (pc := 108) G dX4_endTrace_108 0 rfl ?_
          refine J.putf (pc := 109) (ci := 4) G inX4 rfl tyX4 tyX4_ok nmX4 7 q702 dX4_endTrace_109 (hM.at 0 rfl) (by decide) (Nat.le_of_ble_eq_true rfl) (Or.inl rfl) (tyX4_ok 7 (by decide)) (by first | rfl | decide +kernel) (by first | rfl | decide +kernel) (fun M hput hag => ?_)
          have hM := modS7 hM hput hag
          have hFr := hFr.put hag (by omega) (by omega)
          clear hput hag
          refine J.aload_n (pc := 112) G dX4_endTrace_112 rfl ?_
          refine J.getf (pc := 113) (ci := 4) G inX4 rfl 3 q698 dX4_endTrace_113 (hM.at 0 rfl) (by decide) rfl ?_
          refine J.topv (b := iI ((S 5 + 1 : Nat) : Int)) rfl ?_
          refine J.iconstN (pc := 116) G dX4_endTrace_116 1 rfl ?_
          refine J.isubN (pc := 117) G dX4_endTrace_117 (by omega) ?_
          exact J.iret (pc := 118) G hO dX4_endTrace_118 (by decide) (by decide) ⟨rfl, hFr, _, _, _, rfl, hM, Kp.rf, etA A S v.toNat, etS S, ⟨w1, rfl, by show upN (R 3) (S 5) (S 1) = upN (A 3) (S 5) (S 1); rw [w3], by show upN (R 2) (S 5) v.toNat = upN (A 4) (S 5) v.toNat; rw [w4], rfl, rfl, rfl⟩, Or.inl ⟨hl, by omega, rfl, rfl, rfl, rfl⟩⟩
        · refine J.aload_n (pc := 66) G dX4_endTrace_66 rfl ?_
          refine J.getf (pc := 67) (ci := 4) G inX4 rfl 6 q701 dX4_endTrace_67 (hM.at 0 rfl) (by decide) rfl ?_
          refine J.bipushN (pc := 70) G dX4_endTrace_70 12 (by decide +kernel) ?_
          refine J.aload_n (pc := 72) G dX4_endTrace_72 rfl ?_
          refine J.getf (pc := 73) (ci := 4) G inX4 rfl 3 q698 dX4_endTrace_73 (hM.at 0 rfl) (by decide) rfl ?_
          rw [z3']
          refine J.imulN (pc := 76) G dX4_endTrace_76 ?_
          refine J.iload_n (pc := 77) G dX4_endTrace_77 rfl ?_
          refine J.iaddN (pc := 78) G dX4_endTrace_78 ?_
          refine J.aload_n (pc := 79) G dX4_endTrace_79 rfl ?_
          refine J.getf (pc := 80) (ci := 4) G inX4 rfl 2 q697 dX4_endTrace_80 (hM.at 0 rfl) (by decide) rfl ?_
          refine J.iload_n (pc := 83) G dX4_endTrace_83 rfl ?_
          refine J.ialdN (pc := 84) G dX4_endTrace_84 (hM.at 1 rfl) (by omega) (by decide) ?_
          refine J.iastN (pc := 85) G dX4_endTrace_85 (hM.at 4 rfl) (by omega) (by decide) (fun M hput hag => ?_)
          have hM := modA4 hM hput hag
          have hFr := hFr.put hag (by omega) (by omega)
          clear hput hag
          refine J.iincN (L' := [_, _, _]) (pc := 86) G dX4_endTrace_86 1 rfl rfl rfl rfl ?_
          rw [upAN2] at hM
          refine J.goto (pc := 89) (tgt := 58) G dX4_endTrace_89 (by decide) ?_
          refine ih (j + 1, M) ⟨by dsimp only; omega, ?_, hFr⟩ (by dsimp only; omega)
          dsimp only
          rw [hstep, ← w1, show S 5 * 12 + j = 12 * S 5 + j by omega]
          exact hM
      refine K1 (0, M) ⟨Nat.zero_le _, ?_, hFr⟩
      dsimp only
      rw [show etE A S 0 = upAN (upAN R 2 (upN (R 2) (S 5) v.toNat)) 3 (upN (R 3) (S 5) (S 1)) 4 from w2.symm, upAN_same]
      exact hM
    · refine J.aload_n (pc := 27) G dX4_endTrace_27 rfl ?_
      refine J.iconstN (pc := 28) G dX4_endTrace_28 2 rfl ?_
      refine J.callV (pc := 29) (na := 1) G (m_fail n M (c := 2) hM) q746 q748 qp39 q749 q5 (by decide +kernel) dX4_endTrace_29 (hM.at 0 rfl) rfl rfl (Nat.le_of_ble_eq_true rfl) rfl ⟨by omega, by decide, by omega, by omega⟩ ?_
      rintro r9 n9 M7 ⟨hr9, hn9, ⟨hM7, hFr7⟩⟩
      subst hr9
      rw [hn9]
      clear hn9 n9
      dsimp only [Option.toList, List.cons_append, List.nil_append]
      exact J.iret (pc := 32) G hO dX4_endTrace_32 (by decide) (by decide) ⟨rfl, hFr0.trans hFr7, _, _, _, rfl, hM7, Kp.rf, A, S, ⟨w1, w2, w3, w4, z1, z3, z7⟩, Or.inr (Or.inr ⟨hl, by omega, rfl, rfl, rfl⟩)⟩
  · refine J.aload_n (pc := 12) G dX4_endTrace_12 rfl ?_
    refine J.iconstN (pc := 13) G dX4_endTrace_13 1 rfl ?_
    refine J.callV (pc := 14) (na := 1) G (m_fail n M (c := 1) hM) q746 q748 qp39 q749 q5 (by decide +kernel) dX4_endTrace_14 (hM.at 0 rfl) rfl rfl (Nat.le_of_ble_eq_true rfl) rfl ⟨by omega, by decide, by omega, by omega⟩ ?_
    rintro r9 n9 M7 ⟨hr9, hn9, ⟨hM7, hFr7⟩⟩
    subst hr9
    rw [hn9]
    clear hn9 n9
    dsimp only [Option.toList, List.cons_append, List.nil_append]
    exact J.iret (pc := 17) G hO dX4_endTrace_17 (by decide) (by decide) ⟨rfl, hFr0.trans hFr7, _, _, _, rfl, hM7, Kp.rf, A, S, ⟨w1, w2, w3, w4, z1, z3, z7⟩, Or.inr (Or.inl ⟨of_decide_eq_false hb, rfl, rfl, rfl⟩)⟩
set_option maxRecDepth 100000 in
set_option maxHeartbeats 4000000 in
theorem m_setTimes (n : Nat) (M0 : AH) {a : Nat} {u v : Int} {R : Nat → Nat → Nat} {P : Nat → Int} {Z : Nat → Nat} {A : Nat → Nat → Nat} {S : Nat → Nat} (hM : Cl M0 a (modC a R P Z)) (hw : Vw R Z A S) (hok : MnOk A S) (hu : Rng u) (hv : Rng v) : Fn yX4_setTimes cX4_setTimes 4 (some .int) 1 [.ref a, .int (iI u), .int (iI v)] n M0 0 0 (MPost n M0 a R P Z (fun x c A' S' => ((0 ≤ u ∧ u < (S 5 : Int)) ∧ (0 ≤ v ∧ v ≤ 99) ∧ x = iI ((A 4 u.toNat : Nat) : Int) ∧ c = 0 ∧ A' = upAN A 4 (upN (A 4) u.toNat v.toNat) ∧ S' = upN S 9 0) ∨ (¬ (0 ≤ u ∧ u < (S 5 : Int)) ∧ c = 1 ∧ A' = A ∧ S' = S) ∨ ((0 ≤ u ∧ u < (S 5 : Int)) ∧ ¬ (0 ≤ v ∧ v ≤ 99) ∧ c = 2 ∧ A' = A ∧ S' = S))) := by
  refine Fn.of (by decide) [some _, some _, some _, none] rfl rfl (Nat.le_of_ble_eq_true rfl) ?_
  intro g G hin hO
  obtain ⟨w1, w2, w3, w4, z1, z3, z7⟩ := hw
  obtain ⟨h1, h5, -⟩ := hok
  have hFr : Fr a (a + 9) M0 M0 := Fr.rf
  generalize hM1 : M0 = M1 at hM hFr
  have z3' : upN Z 0 0 3 = S 5 := z3
  refine J.aload_n (pc := 0) G dX4_setTimes_0 rfl ?_
  refine J.iconstN (pc := 1) G dX4_setTimes_1 0 rfl ?_
  refine J.putf (pc := 2) (ci := 4) G inX4 rfl tyX4 tyX4_ok nmX4 0 q695 dX4_setTimes_2 (hM.at 0 rfl) (by decide) (Nat.le_of_ble_eq_true rfl) (Or.inl rfl) (tyX4_ok 0 (by decide)) (by first | rfl | decide +kernel) (by first | rfl | decide +kernel) (fun M hput hag => ?_)
  have hM := modS0 hM hput hag
  have hFr := hFr.put hag (by omega) (by omega)
  clear hput hag
  refine J.aload_n (pc := 5) G dX4_setTimes_5 rfl ?_
  refine J.iload_n (pc := 6) G dX4_setTimes_6 rfl ?_
  refine J.callV (pc := 7) (na := 1) G (m_isTrace n M hM hu (by omega)) q761 q763 qp40 q764 q5 (by decide +kernel) dX4_setTimes_7 (hM.at 0 rfl) rfl rfl (Nat.le_of_ble_eq_true rfl) rfl ⟨by omega, by decide, by omega, by omega⟩ ?_
  rintro r9 n9 M9 ⟨hr9, hn9, hM9⟩
  subst hr9
  rw [hn9, hM9]
  clear hn9 hM9 n9 M9
  dsimp only [Option.toList, List.cons_append, List.nil_append]
  rw [z3']
  have hFr0 : Fr a (a + 9) M0 M := hM1 ▸ hFr
  refine J.if_ne_b (pc := 10) (tgt := 19) G dX4_setTimes_10 (by decide) (fun hb => ?_) (fun hb => ?_)
  · have hl := of_decide_eq_true hb
    refine J.iload_n (pc := 19) G dX4_setTimes_19 rfl ?_
    refine J.callS (pc := 20) (na := 1) G (m_isTimes n M hv) q754 q755 q756 q5 (by decide +kernel) dX4_setTimes_20 rfl (Nat.le_of_ble_eq_true rfl) rfl ⟨by omega, by decide, by omega, by omega⟩ ?_
    rintro r9 n9 M9 ⟨hr9, hn9, hM9⟩
    subst hr9
    rw [hn9, hM9]
    clear hn9 hM9 n9 M9
    dsimp only [Option.toList, List.cons_append, List.nil_append]
    refine J.if_ne_b (pc := 23) (tgt := 32) G dX4_setTimes_23 (by decide) (fun hb2 => ?_) (fun hb2 => ?_)
    · have hl2 := of_decide_eq_true hb2
      rw [show v = ((v.toNat : Nat) : Int) by omega, show u = ((u.toNat : Nat) : Int) by omega]
      clear hFr
      have hFr := hFr0
      clear hFr0 hM1
      refine J.aload_n (pc := 32) G dX4_setTimes_32 rfl ?_
      refine J.getf (pc := 33) (ci := 4) G inX4 rfl 4 q699 dX4_setTimes_33 (hM.at 0 rfl) (by decide) rfl ?_
      refine J.iload_n (pc := 36) G dX4_setTimes_36 rfl ?_
      refine J.ialdN (pc := 37) G dX4_setTimes_37 (hM.at 2 rfl) (by omega) (by decide) ?_
      refine J.istore_n (L' := [_, _, _, _]) (pc := 38) G dX4_setTimes_38 rfl (Nat.le_of_ble_eq_true rfl) rfl ?_
      refine J.aload_n (pc := 39) G dX4_setTimes_39 rfl ?_
      refine J.getf (pc := 40) (ci := 4) G inX4 rfl 4 q699 dX4_setTimes_40 (hM.at 0 rfl) (by decide) rfl ?_
      refine J.iload_n (pc := 43) G dX4_setTimes_43 rfl ?_
      refine J.iload_n (pc := 44) G dX4_setTimes_44 rfl ?_
      refine J.iastN (pc := 45) G dX4_setTimes_45 (hM.at 2 rfl) (by omega) (by decide) (fun M hput hag => ?_)
      have hM := modA2 hM hput hag
      have hFr := hFr.put hag (by omega) (by omega)
      clear hput hag
      refine J.aload_n (pc := 46) G dX4_setTimes_46 rfl ?_
      refine J.iconstN (pc := 47) G dX4_setTimes_47 0 rfl ?_
      refine J.putf (pc := 48) (ci := 4) G inX4 rfl tyX4 tyX4_ok nmX4 7 q702 dX4_setTimes_48 (hM.at 0 rfl) (by decide) (Nat.le_of_ble_eq_true rfl) (Or.inl rfl) (tyX4_ok 7 (by decide)) (by first | rfl | decide +kernel) (by first | rfl | decide +kernel) (fun M hput hag => ?_)
      have hM := modS7 hM hput hag
      have hFr := hFr.put hag (by omega) (by omega)
      clear hput hag
      refine J.iload_n (pc := 51) G dX4_setTimes_51 rfl ?_
      exact J.iret (pc := 52) G hO dX4_setTimes_52 (by decide) (by decide) ⟨rfl, hFr, _, _, _, rfl, hM, Kp.rf, upAN A 4 (upN (A 4) u.toNat v.toNat), upN S 9 0, ⟨w1, w2, w3, by show upN (R 2) u.toNat v.toNat = upN (A 4) u.toNat v.toNat; rw [w4], z1, z3, rfl⟩, Or.inl ⟨hl, hl2, by rw [w4], rfl, rfl, rfl⟩⟩
    · refine J.aload_n (pc := 26) G dX4_setTimes_26 rfl ?_
      refine J.iconstN (pc := 27) G dX4_setTimes_27 2 rfl ?_
      refine J.callV (pc := 28) (na := 1) G (m_fail n M (c := 2) hM) q746 q748 qp39 q749 q5 (by decide +kernel) dX4_setTimes_28 (hM.at 0 rfl) rfl rfl (Nat.le_of_ble_eq_true rfl) rfl ⟨by omega, by decide, by omega, by omega⟩ ?_
      rintro r9 n9 M7 ⟨hr9, hn9, ⟨hM7, hFr7⟩⟩
      subst hr9
      rw [hn9]
      clear hn9 n9
      dsimp only [Option.toList, List.cons_append, List.nil_append]
      exact J.iret (pc := 31) G hO dX4_setTimes_31 (by decide) (by decide) ⟨rfl, hFr0.trans hFr7, _, _, _, rfl, hM7, Kp.rf, A, S, ⟨w1, w2, w3, w4, z1, z3, z7⟩, Or.inr (Or.inr ⟨hl, of_decide_eq_false hb2, rfl, rfl, rfl⟩)⟩
  · refine J.aload_n (pc := 13) G dX4_setTimes_13 rfl ?_
    refine J.iconstN (pc := 14) G dX4_setTimes_14 1 rfl ?_
    refine J.callV (pc := 15) (na := 1) G (m_fail n M (c := 1) hM) q746 q748 qp39 q749 q5 (by decide +kernel) dX4_setTimes_15 (hM.at 0 rfl) rfl rfl (Nat.le_of_ble_eq_true rfl) rfl ⟨by omega, by decide, by omega, by omega⟩ ?_
    rintro r9 n9 M7 ⟨hr9, hn9, ⟨hM7, hFr7⟩⟩
    subst hr9
    rw [hn9]
    clear hn9 n9
    dsimp only [Option.toList, List.cons_append, List.nil_append]
    exact J.iret (pc := 18) G hO dX4_setTimes_18 (by decide) (by decide) ⟨rfl, hFr0.trans hFr7, _, _, _, rfl, hM7, Kp.rf, A, S, ⟨w1, w2, w3, w4, z1, z3, z7⟩, Or.inr (Or.inl ⟨of_decide_eq_false hb, rfl, rfl, rfl⟩)⟩
set_option maxRecDepth 100000 in
set_option maxHeartbeats 4000000 in
theorem m_length (n : Nat) (M0 : AH) {a : Nat} {v : Int} {R : Nat → Nat → Nat} {P : Nat → Int} {Z : Nat → Nat} {A : Nat → Nat → Nat} {S : Nat → Nat} (hM : Cl M0 a (modC a R P Z)) (hw : Vw R Z A S) (hok : MnOk A S) (hv : Rng v) : Fn yX4_length cX4_length 2 (some .int) 1 [.ref a, .int (iI v)] n M0 0 0 (MPost n M0 a R P Z (fun x c A' S' => A' = A ∧ S' = S ∧ (((0 ≤ v ∧ v < (S 5 : Int)) ∧ x = iI ((A 3 v.toNat : Nat) : Int) ∧ c = 0) ∨ (¬ (0 ≤ v ∧ v < (S 5 : Int)) ∧ c = 1)))) := by
  refine Fn.of (by decide) [some _, some _] rfl rfl (Nat.le_of_ble_eq_true rfl) ?_
  intro g G hin hO
  obtain ⟨w1, w2, w3, w4, z1, z3, z7⟩ := hw
  obtain ⟨h1, h5, -⟩ := hok
  have hFr : Fr a (a + 9) M0 M0 := Fr.rf
  generalize hM1 : M0 = M1 at hM hFr
  have z3' : upN Z 0 0 3 = S 5 := z3
  refine J.aload_n (pc := 0) G dX4_length_0 rfl ?_
  refine J.iconstN (pc := 1) G dX4_length_1 0 rfl ?_
  refine J.putf (pc := 2) (ci := 4) G inX4 rfl tyX4 tyX4_ok nmX4 0 q695 dX4_length_2 (hM.at 0 rfl) (by decide) (Nat.le_of_ble_eq_true rfl) (Or.inl rfl) (tyX4_ok 0 (by decide)) (by first | rfl | decide +kernel) (by first | rfl | decide +kernel) (fun M hput hag => ?_)
  have hM := modS0 hM hput hag
  have hFr := hFr.put hag (by omega) (by omega)
  clear hput hag
  refine J.aload_n (pc := 5) G dX4_length_5 rfl ?_
  refine J.iload_n (pc := 6) G dX4_length_6 rfl ?_
  refine J.callV (pc := 7) (na := 1) G (m_isTrace n M hM hv (by omega)) q761 q763 qp40 q764 q5 (by decide +kernel) dX4_length_7 (hM.at 0 rfl) rfl rfl (Nat.le_of_ble_eq_true rfl) rfl ⟨by omega, by decide, by omega, by omega⟩ ?_
  rintro r9 n9 M9 ⟨hr9, hn9, hM9⟩
  subst hr9
  rw [hn9, hM9]
  clear hn9 hM9 n9 M9
  dsimp only [Option.toList, List.cons_append, List.nil_append]
  rw [z3']
  have hFr0 : Fr a (a + 9) M0 M := hM1 ▸ hFr
  refine J.if_eq_b (pc := 10) (tgt := 22) G dX4_length_10 (by decide) (fun hb => ?_) (fun hb => ?_)
  · refine J.aload_n (pc := 22) G dX4_length_22 rfl ?_
    refine J.iconstN (pc := 23) G dX4_length_23 1 rfl ?_
    refine J.callV (pc := 24) (na := 1) G (m_fail n M (c := 1) hM) q746 q748 qp39 q749 q5 (by decide +kernel) dX4_length_24 (hM.at 0 rfl) rfl rfl (Nat.le_of_ble_eq_true rfl) rfl ⟨by omega, by decide, by omega, by omega⟩ ?_
    rintro r9 n9 M7 ⟨hr9, hn9, ⟨hM7, hFr7⟩⟩
    subst hr9
    rw [hn9]
    clear hn9 n9
    dsimp only [Option.toList, List.cons_append, List.nil_append]
    exact J.iret (pc := 27) G hO dX4_length_27 (by decide) (by decide) ⟨rfl, hFr0.trans hFr7, _, _, _, rfl, hM7, Kp.rf, A, S, ⟨w1, w2, w3, w4, z1, z3, z7⟩, rfl, rfl, Or.inr ⟨of_decide_eq_false hb, rfl⟩⟩
  · have hl := of_decide_eq_true hb
    rw [show v = ((v.toNat : Nat) : Int) by omega]
    refine J.aload_n (pc := 13) G dX4_length_13 rfl ?_
    refine J.getf (pc := 14) (ci := 4) G inX4 rfl 5 q700 dX4_length_14 (hM.at 0 rfl) (by decide) rfl ?_
    refine J.iload_n (pc := 17) G dX4_length_17 rfl ?_
    refine J.ialdN (pc := 18) G dX4_length_18 (hM.at 3 rfl) (by omega) (by decide) ?_
    refine J.goto (pc := 19) (tgt := 27) G dX4_length_19 (by decide) ?_
    exact J.iret (pc := 27) G hO dX4_length_27 (by decide) (by decide) ⟨rfl, hFr0, _, _, _, rfl, hM, Kp.rf, A, S, ⟨w1, w2, w3, w4, z1, z3, z7⟩, rfl, rfl, Or.inl ⟨hl, by rw [← w3], rfl⟩⟩
end MOD3
