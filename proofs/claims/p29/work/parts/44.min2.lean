section MIN2
def etE (A : Nat → Nat → Nat) (S : Nat → Nat) (k : Nat) : Nat → Nat := it (fun i e => upN e (S 5 * 12 + i) (A 1 i)) (A 2) k
def etA (A : Nat → Nat → Nat) (S : Nat → Nat) (v : Nat) : Nat → Nat → Nat := upAN (upAN (upAN A 2 (etE A S (S 1))) 3 (upN (A 3) (S 5) (S 1))) 4 (upN (A 4) (S 5) v)
def etS (S : Nat → Nat) : Nat → Nat := upN (upN (upN S 5 (S 5 + 1)) 1 0) 9 0
set_option maxRecDepth 100000 in
set_option maxHeartbeats 4000000 in
theorem c_endTrace (n : Nat) (M0 : AH) {a : Nat} {v : Int} {A : Nat → Nat → Nat} {S : Nat → Nat} (hX : Cl M0 a (minC a A S)) (hok : MnOk A S) (hv : Rng v) : Fx yX3_endTrace cX3_endTrace 4 (some .int) 7 [.ref a, .int (iI v)] n M0 2 12 (fun r n' M' => r = some (.int (iI ((S 5 : Nat) : Int))) ∧ n' = n ∧ Cl M' a (minC a (etA A S v.toNat) (etS S)) ∧ Fr a (a + 5) M0 M' ∧ 0 ≤ v ∧ v ≤ 99 ∧ S 5 < 10) (fun E n' M' => n ≤ n' ∧ M' = M0 ∧ ((E = IAE ∧ ¬ (0 ≤ v ∧ v ≤ 99)) ∨ (E = ISE ∧ (0 ≤ v ∧ v ≤ 99) ∧ ¬ S 5 < 10))) := by
  refine Fx.of (by decide) [some _, some _, none, none] rfl rfl (Nat.le_of_ble_eq_true rfl) ?_
  intro g G hO hT htab
  obtain ⟨h1, h5, h9, hbu, -⟩ := hok
  refine J.iload_n (pc := 0) G dX3_endTrace_0 rfl ?_
  refine J.callXS (pc := 1) (na := 1) G (c_checkTimes n M0 hv) q434 q435 q436 q1 (by decide +kernel) dX3_endTrace_1 rfl (Nat.le_of_ble_eq_true rfl) rfl ⟨by omega, by decide, by omega, by omega⟩ (fun E9 n9 M9 h9 => JX.out G hT htab (by omega) (by omega) (⟨h9.2.1, h9.2.2.1, Or.inl ⟨h9.1, h9.2.2.2⟩⟩)) ?_
  rintro r9 n9 M9 ⟨hr9, hn9, hM9, ⟨hv0, hv8⟩⟩
  subst hr9
  rw [hn9, hM9]
  clear hn9 hM9 n9 M9
  dsimp only [Option.toList, List.cons_append, List.nil_append]
  refine J.aload_n (pc := 4) G dX3_endTrace_4 rfl ?_
  refine J.getf (pc := 5) (ci := 3) G inX3 rfl 5 q140 dX3_endTrace_5 (hX.at 0 rfl) (by decide) rfl ?_
  refine J.bipushN (pc := 8) G dX3_endTrace_8 10 (by decide +kernel) ?_
  refine J.icmp_ltN (pc := 10) (tgt := 23) G dX3_endTrace_10 (by decide) (by omega) (by omega) (fun h => ?_) (fun h => ?_)
  · rw [show v = ((v.toNat : Nat) : Int) by omega]
    refine J.aload_n (pc := 23) G dX3_endTrace_23 rfl ?_
    refine J.getf (pc := 24) (ci := 3) G inX3 rfl 5 q140 dX3_endTrace_24 (hX.at 0 rfl) (by decide) rfl ?_
    refine J.istore_n (L' := [_, _, _, _]) (pc := 27) G dX3_endTrace_27 rfl (Nat.le_of_ble_eq_true rfl) rfl ?_
    refine J.iconstN (pc := 28) G dX3_endTrace_28 0 rfl ?_
    refine J.istore_n (L' := [_, _, _, _]) (pc := 29) G dX3_endTrace_29 rfl (Nat.le_of_ble_eq_true rfl) rfl ?_
    have K1 : ∀ q : Nat × AH, (q.1 ≤ S 1 ∧ Cl q.2 a (minC a (upAN A 2 (etE A S q.1)) S) ∧ Fr a (a + 5) M0 q.2) → J g 1 6 n q.2 [some (.ref a), some (.int (iI ((v.toNat : Nat) : Int))), some (.int (iI (S 5 : Int))), some (.int (iI (q.1 : Int)))] 30 [] := by
      refine loopJ (fun q => S 1 - q.1) _ _ ?_
      clear hX
      rintro ⟨j, M⟩ ⟨hj, hX, hFr⟩ ih
      dsimp only at hj hX hFr ih ⊢
      have hstep : etE A S (j + 1) = upN (etE A S j) (S 5 * 12 + j) (A 1 j) := rfl
      have hend : j = S 1 → etE A S j = etE A S (S 1) := fun e => by rw [e]
      generalize etE A S j = e at hX hstep hend
      refine J.iload_n (pc := 30) G dX3_endTrace_30 rfl ?_
      refine J.aload_n (pc := 31) G dX3_endTrace_31 rfl ?_
      refine J.getf (pc := 32) (ci := 3) G inX3 rfl 1 q136 dX3_endTrace_32 (hX.at 0 rfl) (by decide) rfl ?_
      refine J.icmp_geN (pc := 35) (tgt := 61) G dX3_endTrace_35 (by decide) (by omega) (by omega) (fun h2 => ?_) (fun h2 => ?_)
      · have hje := hend (by omega)
        unfold etA at hO
        rw [← hje] at hO
        clear hend hstep
        refine J.aload_n (pc := 61) G dX3_endTrace_61 rfl ?_
        refine J.getf (pc := 62) (ci := 3) G inX3 rfl 3 q138 dX3_endTrace_62 (hX.at 0 rfl) (by decide) rfl ?_
        refine J.iload_n (pc := 65) G dX3_endTrace_65 rfl ?_
        refine J.aload_n (pc := 66) G dX3_endTrace_66 rfl ?_
        refine J.getf (pc := 67) (ci := 3) G inX3 rfl 1 q136 dX3_endTrace_67 (hX.at 0 rfl) (by decide) rfl ?_
        refine J.topv (b := iI (S 1 : Int)) rfl ?_
        refine J.iastN (pc := 70) G dX3_endTrace_70 (hX.at 3 rfl) (by omega) (by decide) (fun M hput hag => ?_)
        have hX := minA3 hX hput hag
        have hFr := hFr.put hag (by omega) (by omega)
        clear hput hag
        refine J.aload_n (pc := 71) G dX3_endTrace_71 rfl ?_
        refine J.getf (pc := 72) (ci := 3) G inX3 rfl 4 q139 dX3_endTrace_72 (hX.at 0 rfl) (by decide) rfl ?_
        refine J.iload_n (pc := 75) G dX3_endTrace_75 rfl ?_
        refine J.iload_n (pc := 76) G dX3_endTrace_76 rfl ?_
        refine J.iastN (pc := 77) G dX3_endTrace_77 (hX.at 4 rfl) (by omega) (by decide) (fun M hput hag => ?_)
        have hX := minA4 hX hput hag
        have hFr := hFr.put hag (by omega) (by omega)
        clear hput hag
        refine J.aload_n (pc := 78) G dX3_endTrace_78 rfl ?_
        refine J.dup (pc := 79) G dX3_endTrace_79 rfl ?_
        refine J.getf (pc := 80) (ci := 3) G inX3 rfl 5 q140 dX3_endTrace_80 (hX.at 0 rfl) (by decide) rfl ?_
        refine J.iconstN (pc := 83) G dX3_endTrace_83 1 rfl ?_
        refine J.iaddN (pc := 84) G dX3_endTrace_84 ?_
        refine J.putf (pc := 85) (ci := 3) G inX3 rfl tyX3 tyX3_ok nmX3 5 q140 dX3_endTrace_85 (hX.at 0 rfl) (by decide) (Nat.le_of_ble_eq_true rfl) (Or.inl rfl) (tyX3_ok 5 (by decide)) (by first | rfl | decide +kernel) (by first | rfl | decide +kernel) (fun M hput hag => ?_)
        have hX := minS5 hX hput hag
        have hFr := hFr.put hag (by omega) (by omega)
        clear hput hag
        refine J.aload_n (pc := 88) G dX3_endTrace_88 rfl ?_
        refine J.iconstN (pc := 89) G dX3_endTrace_89 0 rfl ?_
        refine J.putf (pc := 90) (ci := 3) G inX3 rfl tyX3 tyX3_ok nmX3 1 q136 dX3_endTrace_90 (hX.at 0 rfl) (by decide) (Nat.le_of_ble_eq_true rfl) (Or.inl rfl) (tyX3_ok 1 (by decide)) (by first | rfl | decide +kernel) (by first | rfl | decide +kernel) (fun M hput hag => ?_)
        have hX := minS1 hX hput hag
        have hFr := hFr.put hag (by omega) (by omega)
        clear hput hag
        refine J.aload_n (pc := 93) G dX3_endTrace_93 rfl ?_
        refine J.iconstN (pc := 94) G dX3_endTrace_94 0 rfl ?_
        refine J.putf (pc := 95) (ci := 3) G inX3 rfl tyX3 tyX3_ok nmX3 9 q144 dX3_endTrace_95 (hX.at 0 rfl) (by decide) (Nat.le_of_ble_eq_true rfl) (Or.inl rfl) (tyX3_ok 9 (by decide)) (by first | rfl | decide +kernel) (by first | rfl | decide +kernel) (fun M hput hag => ?_)
        have hX := minS9 hX hput hag
        have hFr := hFr.put hag (by omega) (by omega)
        clear hput hag
        refine J.iload_n (pc := 98) G dX3_endTrace_98 rfl ?_
        exact J.iret (pc := 99) G hO dX3_endTrace_99 (by decide) (by decide) ⟨rfl, rfl, hX, hFr, hv0, hv8, h⟩
      · refine J.aload_n (pc := 38) G dX3_endTrace_38 rfl ?_
        refine J.getf (pc := 39) (ci := 3) G inX3 rfl 2 q137 dX3_endTrace_39 (hX.at 0 rfl) (by decide) rfl ?_
        refine J.iload_n (pc := 42) G dX3_endTrace_42 rfl ?_
        refine J.bipushN (pc := 43) G dX3_endTrace_43 12 (by decide +kernel) ?_
        refine J.imulN (pc := 45) G dX3_endTrace_45 ?_
        refine J.iload_n (pc := 46) G dX3_endTrace_46 rfl ?_
        refine J.iaddN (pc := 47) G dX3_endTrace_47 ?_
        refine J.aload_n (pc := 48) G dX3_endTrace_48 rfl ?_
        refine J.getf (pc := 49) (ci := 3) G inX3 rfl 0 q135 dX3_endTrace_49 (hX.at 0 rfl) (by decide) rfl ?_
        refine J.iload_n (pc := 52) G dX3_endTrace_52 rfl ?_
        refine J.ialdN (pc := 53) G dX3_endTrace_53 (hX.at 1 rfl) (by omega) (by decide) ?_
        refine J.iastN (pc := 54) G dX3_endTrace_54 (hX.at 2 rfl) (by omega) (by decide) (fun M hput hag => ?_)
        have hX := minA2 hX hput hag
        have hFr := hFr.put hag (by omega) (by omega)
        clear hput hag
        refine J.iincN (L' := [_, _, _, _]) (pc := 55) G dX3_endTrace_55 1 rfl rfl rfl rfl ?_
        rw [upAN2] at hX
        refine J.goto (pc := 58) (tgt := 30) G dX3_endTrace_58 (by decide) ?_
        exact ih (j + 1, M) ⟨by dsimp only; omega, by dsimp only; rw [hstep]; exact hX, hFr⟩ (by dsimp only; omega)
    exact K1 (0, M0) ⟨Nat.zero_le _, by dsimp only; rw [show etE A S 0 = A 2 from rfl, upAN_same]; exact hX, Fr.rf⟩
  · exact J.throwS (pc := 13) G hT htab twS (text := "the log is full") (by decide) dX3_endTrace_13 dX3_endTrace_16 dX3_endTrace_17 dX3_endTrace_19 dX3_endTrace_22 (by decide) (Nat.le_refl _) (Nat.le_refl _) (by decide) rfl (fun n' hn => ⟨hn, rfl, Or.inr ⟨rfl, ⟨hv0, hv8⟩, by omega⟩⟩)
set_option maxRecDepth 100000 in
set_option maxHeartbeats 4000000 in
theorem c_traceCount (n : Nat) (M : AH) {a : Nat} {A : Nat → Nat → Nat} {S : Nat → Nat} (hX : Cl M a (minC a A S)) : Fn yX3_traceCount cX3_traceCount 1 (some .int) 0 [.ref a] n M 0 0 (fun r n' M' => r = some (.int (iI ((S 5 : Nat) : Int))) ∧ n' = n ∧ M' = M) := by
  refine Fn.of (by decide) [some _] rfl rfl (Nat.le_of_ble_eq_true rfl) ?_
  intro g G hin hO
  refine J.aload_n (pc := 0) G dX3_traceCount_0 rfl ?_
  refine J.getf (pc := 1) (ci := 3) G inX3 rfl 5 q140 dX3_traceCount_1 (hX.at 0 rfl) (by decide) rfl ?_
  exact J.iret (pc := 4) G hO dX3_traceCount_4 (by decide) (by decide) ⟨rfl, rfl, rfl⟩
end MIN2
