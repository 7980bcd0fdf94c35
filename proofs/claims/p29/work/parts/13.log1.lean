section LOG1
set_option maxRecDepth 100000 in
set_option maxHeartbeats 4000000 in
/-- contains: whether a set has a label -/
theorem c_contains (n : Nat) (M : AH) {m l : Nat} (hm : m < 2147483648) (hl9 : l < 31) : Fn yX3_contains cX3_contains 2 (some .boolean) 0 [.int (iI (m : Int)), .int (iI (l : Int))] n M 0 0 (fun r n' M' => r = some (.int (bI (m.testBit l))) ∧ n' = n ∧ M' = M) := by
  refine Fn.of (by decide) [some _, some _] rfl rfl (Nat.le_of_ble_eq_true rfl) ?_
  intro g G hin hO
  refine J.iload_n (pc := 0) G dX3_contains_0 rfl ?_
  refine J.iload_n (pc := 1) G dX3_contains_1 rfl ?_
  refine J.ishrN (pc := 2) G dX3_contains_2 (by omega) (by omega) ?_
  refine J.iconstN (pc := 3) G dX3_contains_3 1 rfl ?_
  refine J.iandN (pc := 4) G dX3_contains_4 ?_
  rw [has_bit]
  refine J.if_eqN (pc := 5) (tgt := 12) G dX3_contains_5 (by decide) (by split <;> omega) (fun h => ?_) (fun h => ?_)
  · refine J.iconstN (pc := 12) G dX3_contains_12 0 rfl ?_
    refine J.zret0 (pc := 13) G hO dX3_contains_13 (Nat.le_refl _) (Nat.le_refl _) ⟨?_, rfl, rfl⟩
    have : m.testBit l = false := by
      cases hb : m.testBit l
      · rfl
      · rw [hb] at h; simp at h
    rw [this]
  · refine J.iconstN (pc := 8) G dX3_contains_8 1 rfl ?_
    refine J.goto (tgt := 13) (pc := 9) G dX3_contains_9 (by decide) ?_
    refine J.zret1 (pc := 13) G hO dX3_contains_13 (Nat.le_refl _) (Nat.le_refl _) ⟨?_, rfl, rfl⟩
    have : m.testBit l = true := by
      cases hb : m.testBit l
      · rw [hb] at h; simp at h
      · rfl
    rw [this]
set_option maxRecDepth 100000 in
set_option maxHeartbeats 4000000 in
theorem c_clear (n : Nat) (M : AH) {a : Nat} {A : Nat → Nat → Nat} {S : Nat → Nat} (hL : Cl M a (logC a A S)) : Fn yX0_clear cX0_clear 1 none 0 [.ref a] n M 0 0 (fun r n' M' => r = none ∧ n' = n ∧ Cl M' a (logC a A (upN (upN S 2 0) 3 0)) ∧ Fr a (a + 7) M M') := by
  refine Fn.of (by decide) [some _] rfl rfl (Nat.le_of_ble_eq_true rfl) ?_
  intro g G hin hO
  have hFr : Fr a (a + 7) M M := Fr.rf
  generalize hM0 : M = M0 at hFr ⊢
  subst hM0
  refine J.aload_n (pc := 0) G dX0_clear_0 rfl ?_
  refine J.iconstN (pc := 1) G dX0_clear_1 0 rfl ?_
  refine J.putf (pc := 2) (ci := 0) G inX0 rfl tyX0 tyX0_ok nmX0 2 q89 dX0_clear_2 (hL.at 0 rfl) (by decide) (Nat.le_of_ble_eq_true rfl) (Or.inl rfl) (tyX0_ok 2 (by decide)) (by first | rfl | decide +kernel) (by first | rfl | decide +kernel) (fun M hput hag => ?_)
  have hL := logS2 hL hput hag
  have hFr := hFr.put hag (by omega) (by omega)
  clear hput hag
  refine J.aload_n (pc := 5) G dX0_clear_5 rfl ?_
  refine J.iconstN (pc := 6) G dX0_clear_6 0 rfl ?_
  refine J.putf (pc := 7) (ci := 0) G inX0 rfl tyX0 tyX0_ok nmX0 3 q90 dX0_clear_7 (hL.at 0 rfl) (by decide) (Nat.le_of_ble_eq_true rfl) (Or.inl rfl) (tyX0_ok 3 (by decide)) (by first | rfl | decide +kernel) (by first | rfl | decide +kernel) (fun M hput hag => ?_)
  have hL := logS3 hL hput hag
  have hFr := hFr.put hag (by omega) (by omega)
  clear hput hag
  exact J.vret (pc := 10) G hO dX0_clear_10 (Nat.le_refl _) (Nat.le_refl _) ⟨rfl, rfl, hL, hFr⟩
set_option maxRecDepth 100000 in
set_option maxHeartbeats 4000000 in
theorem c_append (n : Nat) (M : AH) {a v : Nat} {A : Nat → Nat → Nat} {S : Nat → Nat} (hL : Cl M a (logC a A S)) (h2 : S 2 < 120) : Fn yX0_append cX0_append 2 none 0 [.ref a, .int (iI (v : Int))] n M 0 0 (fun r n' M' => r = none ∧ n' = n ∧ Cl M' a (logC a (upAN A 1 (upN (A 1) (S 2) v)) (upN S 2 (S 2 + 1))) ∧ Fr a (a + 7) M M') := by
  refine Fn.of (by decide) [some _, some _] rfl rfl (Nat.le_of_ble_eq_true rfl) ?_
  intro g G hin hO
  have hFr : Fr a (a + 7) M M := Fr.rf
  refine J.aload_n (pc := 0) G dX0_append_0 rfl ?_
  refine J.getf (pc := 1) (ci := 0) G inX0 rfl 2 q89 dX0_append_1 (hL.at 0 rfl) (by decide) rfl ?_
  refine J.aload_n (pc := 4) G dX0_append_4 rfl ?_
  refine J.getf (pc := 5) (ci := 0) G inX0 rfl 0 q87 dX0_append_5 (hL.at 0 rfl) (by decide) rfl ?_
  refine J.alenI (pc := 8) G dX0_append_8 (hL.at 1 rfl) ?_
  refine J.icmp_geN (pc := 9) (tgt := 32) G dX0_append_9 (by decide) (by omega) (by omega) (fun h => ?_) (fun h => ?_)
  · omega
  · refine J.aload_n (pc := 12) G dX0_append_12 rfl ?_
    refine J.getf (pc := 13) (ci := 0) G inX0 rfl 0 q87 dX0_append_13 (hL.at 0 rfl) (by decide) rfl ?_
    refine J.aload_n (pc := 16) G dX0_append_16 rfl ?_
    refine J.getf (pc := 17) (ci := 0) G inX0 rfl 2 q89 dX0_append_17 (hL.at 0 rfl) (by decide) rfl ?_
    refine J.iload_n (pc := 20) G dX0_append_20 rfl ?_
    refine J.iastN (pc := 21) G dX0_append_21 (hL.at 1 rfl) (by omega) (by decide) (fun M hput hag => ?_)
    have hL := logA1 hL hput hag
    have hFr := hFr.put hag (by omega) (by omega)
    clear hput hag
    refine J.aload_n (pc := 22) G dX0_append_22 rfl ?_
    refine J.dup (pc := 23) G dX0_append_23 rfl ?_
    refine J.getf (pc := 24) (ci := 0) G inX0 rfl 2 q89 dX0_append_24 (hL.at 0 rfl) (by decide) rfl ?_
    refine J.iconstN (pc := 27) G dX0_append_27 1 rfl ?_
    refine J.iaddN (pc := 28) G dX0_append_28 ?_
    refine J.putf (pc := 29) (ci := 0) G inX0 rfl tyX0 tyX0_ok nmX0 2 q89 dX0_append_29 (hL.at 0 rfl) (by decide) (Nat.le_of_ble_eq_true rfl) (Or.inl rfl) (tyX0_ok 2 (by decide)) (by first | rfl | decide +kernel) (by first | rfl | decide +kernel) (fun M hput hag => ?_)
    have hL := logS2 hL hput hag
    have hFr := hFr.put hag (by omega) (by omega)
    clear hput hag
    exact J.vret (pc := 32) G hO dX0_append_32 (Nat.le_refl _) (Nat.le_refl _) ⟨rfl, rfl, hL, hFr⟩
set_option maxRecDepth 100000 in
set_option maxHeartbeats 4000000 in
theorem c_closeTrace (n : Nat) (M : AH) {a : Nat} {A : Nat → Nat → Nat} {S : Nat → Nat} (hL : Cl M a (logC a A S)) (h3 : S 3 < 120) : Fn yX0_closeTrace cX0_closeTrace 1 none 0 [.ref a] n M 0 0 (fun r n' M' => r = none ∧ n' = n ∧ Cl M' a (logC a (upAN A 2 (upN (A 2) (S 3) (S 2))) (upN S 3 (S 3 + 1))) ∧ Fr a (a + 7) M M') := by
  refine Fn.of (by decide) [some _] rfl rfl (Nat.le_of_ble_eq_true rfl) ?_
  intro g G hin hO
  have hFr : Fr a (a + 7) M M := Fr.rf
  refine J.aload_n (pc := 0) G dX0_closeTrace_0 rfl ?_
  refine J.getf (pc := 1) (ci := 0) G inX0 rfl 3 q90 dX0_closeTrace_1 (hL.at 0 rfl) (by decide) rfl ?_
  refine J.aload_n (pc := 4) G dX0_closeTrace_4 rfl ?_
  refine J.getf (pc := 5) (ci := 0) G inX0 rfl 1 q88 dX0_closeTrace_5 (hL.at 0 rfl) (by decide) rfl ?_
  refine J.alenI (pc := 8) G dX0_closeTrace_8 (hL.at 2 rfl) ?_
  refine J.icmp_geN (pc := 9) (tgt := 35) G dX0_closeTrace_9 (by decide) (by omega) (by omega) (fun h => ?_) (fun h => ?_)
  · omega
  · refine J.aload_n (pc := 12) G dX0_closeTrace_12 rfl ?_
    refine J.getf (pc := 13) (ci := 0) G inX0 rfl 1 q88 dX0_closeTrace_13 (hL.at 0 rfl) (by decide) rfl ?_
    refine J.aload_n (pc := 16) G dX0_closeTrace_16 rfl ?_
    refine J.getf (pc := 17) (ci := 0) G inX0 rfl 3 q90 dX0_closeTrace_17 (hL.at 0 rfl) (by decide) rfl ?_
    refine J.aload_n (pc := 20) G dX0_closeTrace_20 rfl ?_
    refine J.getf (pc := 21) (ci := 0) G inX0 rfl 2 q89 dX0_closeTrace_21 (hL.at 0 rfl) (by decide) rfl ?_
    refine J.iastN (pc := 24) G dX0_closeTrace_24 (hL.at 2 rfl) (by omega) (by decide) (fun M hput hag => ?_)
    have hL := logA2 hL hput hag
    have hFr := hFr.put hag (by omega) (by omega)
    clear hput hag
    refine J.aload_n (pc := 25) G dX0_closeTrace_25 rfl ?_
    refine J.dup (pc := 26) G dX0_closeTrace_26 rfl ?_
    refine J.getf (pc := 27) (ci := 0) G inX0 rfl 3 q90 dX0_closeTrace_27 (hL.at 0 rfl) (by decide) rfl ?_
    refine J.iconstN (pc := 30) G dX0_closeTrace_30 1 rfl ?_
    refine J.iaddN (pc := 31) G dX0_closeTrace_31 ?_
    refine J.putf (pc := 32) (ci := 0) G inX0 rfl tyX0 tyX0_ok nmX0 3 q90 dX0_closeTrace_32 (hL.at 0 rfl) (by decide) (Nat.le_of_ble_eq_true rfl) (Or.inl rfl) (tyX0_ok 3 (by decide)) (by first | rfl | decide +kernel) (by first | rfl | decide +kernel) (fun M hput hag => ?_)
    have hL := logS3 hL hput hag
    have hFr := hFr.put hag (by omega) (by omega)
    clear hput hag
    exact J.vret (pc := 35) G hO dX0_closeTrace_35 (Nat.le_refl _) (Nat.le_refl _) ⟨rfl, rfl, hL, hFr⟩
set_option maxRecDepth 100000 in
set_option maxHeartbeats 4000000 in
theorem c_openStart (n : Nat) (M : AH) {a : Nat} {A : Nat → Nat → Nat} {S : Nat → Nat} (hL : Cl M a (logC a A S)) (h3 : S 3 ≤ 120) : Fn yX0_openStart cX0_openStart 1 (some .int) 0 [.ref a] n M 0 0 (fun r n' M' => r = some (.int (iI ((if 0 < S 3 then A 2 (S 3 - 1) else 0 : Nat) : Int))) ∧ n' = n ∧ M' = M) := by
  refine Fn.of (by decide) [some _] rfl rfl (Nat.le_of_ble_eq_true rfl) ?_
  intro g G hin hO
  refine J.aload_n (pc := 0) G dX0_openStart_0 rfl ?_
  refine J.getf (pc := 1) (ci := 0) G inX0 rfl 3 q90 dX0_openStart_1 (hL.at 0 rfl) (by decide) rfl ?_
  refine J.if_leN (pc := 4) (tgt := 21) G dX0_openStart_4 (by decide) (by omega) (fun h => ?_) (fun h => ?_)
  · refine J.iconstN (pc := 21) G dX0_openStart_21 0 rfl ?_
    exact J.iret (pc := 22) G hO dX0_openStart_22 (Nat.le_refl _) (Nat.le_refl _) ⟨by rw [if_neg (by omega)], rfl, rfl⟩
  · refine J.aload_n (pc := 7) G dX0_openStart_7 rfl ?_
    refine J.getf (pc := 8) (ci := 0) G inX0 rfl 1 q88 dX0_openStart_8 (hL.at 0 rfl) (by decide) rfl ?_
    refine J.aload_n (pc := 11) G dX0_openStart_11 rfl ?_
    refine J.getf (pc := 12) (ci := 0) G inX0 rfl 3 q90 dX0_openStart_12 (hL.at 0 rfl) (by decide) rfl ?_
    refine J.iconstN (pc := 15) G dX0_openStart_15 1 rfl ?_
    refine J.isubN (pc := 16) G dX0_openStart_16 (by omega) ?_
    refine J.ialdN (pc := 17) G dX0_openStart_17 (hL.at 2 rfl) (by omega) (by decide) ?_
    refine J.goto (tgt := 22) (pc := 18) G dX0_openStart_18 (by decide) ?_
    exact J.iret (pc := 22) G hO dX0_openStart_22 (Nat.le_refl _) (Nat.le_refl _) ⟨by rw [if_pos h], rfl, rfl⟩
end LOG1
