section MOD1
/-- the model's rows tell what the miner's tell -/
def Vw (R : Nat → Nat → Nat) (Z : Nat → Nat) (A : Nat → Nat → Nat) (S : Nat → Nat) : Prop := R 1 = A 1 ∧ R 4 = A 2 ∧ R 3 = A 3 ∧ R 2 = A 4 ∧ Z 1 = S 1 ∧ Z 3 = S 5 ∧ Z 7 = S 9
/-- the model's tree stays -/
def Kp (R : Nat → Nat → Nat) (Z : Nat → Nat) (R' : Nat → Nat → Nat) (Z' : Nat → Nat) : Prop := R' 5 = R 5 ∧ R' 7 = R 7 ∧ Z' 8 = Z 8 ∧ R' 8 = R 8
theorem Kp.rf {R : Nat → Nat → Nat} {Z : Nat → Nat} : Kp R Z R Z := ⟨rfl, rfl, rfl, rfl⟩
set_option maxRecDepth 100000 in
set_option maxHeartbeats 4000000 in
theorem m_thrown (n : Nat) (M : AH) {a : Nat} {R : Nat → Nat → Nat} {P : Nat → Int} {Z : Nat → Nat} (hM : Cl M a (modC a R P Z)) : Fn yX4_thrown cX4_thrown 1 (some .int) 0 [.ref a] n M 0 0 (fun r n' M' => r = some (.int (iI ((Z 0 : Nat) : Int))) ∧ n' = n ∧ M' = M) := by
  refine Fn.of (by decide) [some _] rfl rfl (Nat.le_of_ble_eq_true rfl) ?_
  intro g G hin hO
  refine J.aload_n (pc := 0) G dX4_thrown_0 rfl ?_
  refine J.getf (pc := 1) (ci := 4) G inX4 rfl 0 q695 dX4_thrown_1 (hM.at 0 rfl) (by decide) rfl ?_
  exact J.iret (pc := 4) G hO dX4_thrown_4 (by decide) (by decide) ⟨rfl, rfl, rfl⟩
set_option maxRecDepth 100000 in
set_option maxHeartbeats 4000000 in
theorem m_fail (n : Nat) (M0 : AH) {a c : Nat} {R : Nat → Nat → Nat} {P : Nat → Int} {Z : Nat → Nat} (hM : Cl M0 a (modC a R P Z)) : Fn yX4_fail cX4_fail 2 (some .int) 0 [.ref a, .int (iI (c : Int))] n M0 0 0 (fun r n' M' => r = some (.int (iI ((0 : Nat) : Int))) ∧ n' = n ∧ Cl M' a (modC a R P (upN Z 0 c)) ∧ Fr a (a + 9) M0 M') := by
  refine Fn.of (by decide) [some _, some _] rfl rfl (Nat.le_of_ble_eq_true rfl) ?_
  intro g G hin hO
  have hFr : Fr a (a + 9) M0 M0 := Fr.rf
  generalize hM1 : M0 = M1 at hM hFr
  refine J.aload_n (pc := 0) G dX4_fail_0 rfl ?_
  refine J.iload_n (pc := 1) G dX4_fail_1 rfl ?_
  refine J.putf (pc := 2) (ci := 4) G inX4 rfl tyX4 tyX4_ok nmX4 0 q695 dX4_fail_2 (hM.at 0 rfl) (by decide) (Nat.le_of_ble_eq_true rfl) (Or.inl rfl) (tyX4_ok 0 (by decide)) (by first | rfl | decide +kernel) (by first | rfl | decide +kernel) (fun M hput hag => ?_)
  have hM := modS0 hM hput hag
  have hFr := hFr.put hag (by omega) (by omega)
  clear hput hag
  refine J.iconstN (pc := 5) G dX4_fail_5 0 rfl ?_
  exact J.iret (pc := 6) G hO dX4_fail_6 (by decide) (by decide) ⟨rfl, rfl, hM, hM1 ▸ hFr⟩
set_option maxRecDepth 100000 in
set_option maxHeartbeats 4000000 in
theorem m_isLabel (n : Nat) (M : AH) {v : Int} (hv : Rng v) : Fn yX4_isLabel cX4_isLabel 1 (some .boolean) 0 [.int (iI v)] n M 0 0 (fun r n' M' => r = some (.int (bI (decide (0 ≤ v ∧ v < 8)))) ∧ n' = n ∧ M' = M) := by
  refine Fn.of (by decide) [some _] rfl rfl (Nat.le_of_ble_eq_true rfl) ?_
  intro g G hin hO
  obtain ⟨hv1, hv2⟩ := hv
  have k0 : ¬ (0 ≤ v ∧ v < 8) → J g 0 0 n M [some (.int (iI v))] 14 [] := by
    intro h
    refine J.iconstN (pc := 14) G dX4_isLabel_14 0 rfl ?_
    exact J.zret0 (pc := 15) G hO dX4_isLabel_15 (by decide) (by decide) ⟨by rw [decide_eq_false h], rfl, rfl⟩
  refine J.iload_n (pc := 0) G dX4_isLabel_0 rfl ?_
  refine J.if_lt (pc := 1) (tgt := 14) G dX4_isLabel_1 (by decide) hv1 hv2 (fun h => k0 (by omega)) (fun h => ?_)
  refine J.iload_n (pc := 4) G dX4_isLabel_4 rfl ?_
  refine J.bipushN (pc := 5) G dX4_isLabel_5 8 (by decide +kernel) ?_
  refine J.icmp_ge (pc := 7) (tgt := 14) G dX4_isLabel_7 (by decide) hv1 hv2 (by omega) (by omega) (fun h2 => k0 (by omega)) (fun h2 => ?_)
  refine J.iconstN (pc := 10) G dX4_isLabel_10 1 rfl ?_
  refine J.goto (pc := 11) (tgt := 15) G dX4_isLabel_11 (by decide) ?_
  exact J.zret1 (pc := 15) G hO dX4_isLabel_15 (by decide) (by decide) ⟨by rw [decide_eq_true (show 0 ≤ v ∧ v < 8 by omega)], rfl, rfl⟩
set_option maxRecDepth 100000 in
set_option maxHeartbeats 4000000 in
theorem m_isTimes (n : Nat) (M : AH) {v : Int} (hv : Rng v) : Fn yX4_isTimes cX4_isTimes 1 (some .boolean) 0 [.int (iI v)] n M 0 0 (fun r n' M' => r = some (.int (bI (decide (0 ≤ v ∧ v ≤ 99)))) ∧ n' = n ∧ M' = M) := by
  refine Fn.of (by decide) [some _] rfl rfl (Nat.le_of_ble_eq_true rfl) ?_
  intro g G hin hO
  obtain ⟨hv1, hv2⟩ := hv
  have k0 : ¬ (0 ≤ v ∧ v ≤ 99) → J g 0 0 n M [some (.int (iI v))] 14 [] := by
    intro h
    refine J.iconstN (pc := 14) G dX4_isTimes_14 0 rfl ?_
    exact J.zret0 (pc := 15) G hO dX4_isTimes_15 (by decide) (by decide) ⟨by rw [decide_eq_false h], rfl, rfl⟩
  refine J.iload_n (pc := 0) G dX4_isTimes_0 rfl ?_
  refine J.if_lt (pc := 1) (tgt := 14) G dX4_isTimes_1 (by decide) hv1 hv2 (fun h => k0 (by omega)) (fun h => ?_)
  refine J.iload_n (pc := 4) G dX4_isTimes_4 rfl ?_
  refine J.bipushN (pc := 5) G dX4_isTimes_5 99 (by decide +kernel) ?_
  refine J.icmp_gt (pc := 7) (tgt := 14) G dX4_isTimes_7 (by decide) hv1 hv2 (by omega) (by omega) (fun h2 => k0 (by omega)) (fun h2 => ?_)
  refine J.iconstN (pc := 10) G dX4_isTimes_10 1 rfl ?_
  refine J.goto (pc := 11) (tgt := 15) G dX4_isTimes_11 (by decide) ?_
  exact J.zret1 (pc := 15) G hO dX4_isTimes_15 (by decide) (by decide) ⟨by rw [decide_eq_true (show 0 ≤ v ∧ v ≤ 99 by omega)], rfl, rfl⟩
set_option maxRecDepth 100000 in
set_option maxHeartbeats 4000000 in
theorem m_isTrace (n : Nat) (M : AH) {a : Nat} {v : Int} {R : Nat → Nat → Nat} {P : Nat → Int} {Z : Nat → Nat} (hM : Cl M a (modC a R P Z)) (hv : Rng v) (h3 : Z 3 ≤ 10) : Fn yX4_isTrace cX4_isTrace 2 (some .boolean) 0 [.ref a, .int (iI v)] n M 0 0 (fun r n' M' => r = some (.int (bI (decide (0 ≤ v ∧ v < (Z 3 : Int))))) ∧ n' = n ∧ M' = M) := by
  refine Fn.of (by decide) [some _, some _] rfl rfl (Nat.le_of_ble_eq_true rfl) ?_
  intro g G hin hO
  obtain ⟨hv1, hv2⟩ := hv
  have k0 : ¬ (0 ≤ v ∧ v < (Z 3 : Int)) → J g 0 0 n M [some (.ref a), some (.int (iI v))] 16 [] := by
    intro h
    refine J.iconstN (pc := 16) G dX4_isTrace_16 0 rfl ?_
    exact J.zret0 (pc := 17) G hO dX4_isTrace_17 (by decide) (by decide) ⟨by rw [decide_eq_false h], rfl, rfl⟩
  refine J.iload_n (pc := 0) G dX4_isTrace_0 rfl ?_
  refine J.if_lt (pc := 1) (tgt := 16) G dX4_isTrace_1 (by decide) hv1 hv2 (fun h => k0 (by omega)) (fun h => ?_)
  refine J.iload_n (pc := 4) G dX4_isTrace_4 rfl ?_
  refine J.aload_n (pc := 5) G dX4_isTrace_5 rfl ?_
  refine J.getf (pc := 6) (ci := 4) G inX4 rfl 3 q698 dX4_isTrace_6 (hM.at 0 rfl) (by decide) rfl ?_
  refine J.icmp_ge (pc := 9) (tgt := 16) G dX4_isTrace_9 (by decide) hv1 hv2 (by omega) (by omega) (fun h2 => k0 (by omega)) (fun h2 => ?_)
  refine J.iconstN (pc := 12) G dX4_isTrace_12 1 rfl ?_
  refine J.goto (pc := 13) (tgt := 17) G dX4_isTrace_13 (by decide) ?_
  exact J.zret1 (pc := 17) G hO dX4_isTrace_17 (by decide) (by decide) ⟨by rw [decide_eq_true (show 0 ≤ v ∧ v < (Z 3 : Int) by omega)], rfl, rfl⟩
set_option maxRecDepth 100000 in
set_option maxHeartbeats 4000000 in
theorem m_has (n : Nat) (M : AH) {m l : Nat} (hm : m < 2147483648) (hl9 : l < 31) : Fn yX4_has cX4_has 2 (some .boolean) 0 [.int (iI (m : Int)), .int (iI (l : Int))] n M 0 0 (fun r n' M' => r = some (.int (bI (m.testBit l))) ∧ n' = n ∧ M' = M) := by
  refine Fn.of (by decide) [some _, some _] rfl rfl (Nat.le_of_ble_eq_true rfl) ?_
  intro g G hin hO
  refine J.iload_n (pc := 0) G dX4_has_0 rfl ?_
  refine J.iload_n (pc := 1) G dX4_has_1 rfl ?_
  refine J.ishrN (pc := 2) G dX4_has_2 (by omega) (by omega) ?_
  refine J.iconstN (pc := 3) G dX4_has_3 1 rfl ?_
  refine J.iandN (pc := 4) G dX4_has_4 ?_
  rw [has_bit]
  refine J.iconstN (pc := 5) G dX4_has_5 1 rfl ?_
  refine J.icmp_neN (pc := 6) (tgt := 13) G dX4_has_6 (by decide) (by split <;> omega) (by omega) (fun h => ?_) (fun h => ?_)
  · have hb : m.testBit l = false := by cases q : m.testBit l <;> simp_all
    refine J.iconstN (pc := 13) G dX4_has_13 0 rfl ?_
    exact J.zret0 (pc := 14) G hO dX4_has_14 (by decide) (by decide) ⟨by rw [hb], rfl, rfl⟩
  · have hb : m.testBit l = true := by cases q : m.testBit l <;> simp_all
    refine J.iconstN (pc := 9) G dX4_has_9 1 rfl ?_
    refine J.goto (pc := 10) (tgt := 14) G dX4_has_10 (by decide) ?_
    exact J.zret1 (pc := 14) G hO dX4_has_14 (by decide) (by decide) ⟨by rw [hb], rfl, rfl⟩
end MOD1
