section MOD2
/-- how a method of the model ends: its tree stays, its rows tell A', S', it returned x -/
def MPost (n : Nat) (M0 : AH) (a : Nat) (R : Nat → Nat → Nat) (P : Nat → Int) (Z : Nat → Nat) (Q : Int32 → Nat → (Nat → Nat → Nat) → (Nat → Nat) → Prop) : Option Value → Nat → AH → Prop := fun r n' M' => n' = n ∧ Fr a (a + 9) M0 M' ∧ ∃ x R' Z', r = some (.int x) ∧ Cl M' a (modC a R' P Z') ∧ Kp R Z R' Z' ∧ ∃ A' S', Vw R' Z' A' S' ∧ Q x (Z' 0) A' S'
set_option maxRecDepth 100000 in
set_option maxHeartbeats 4000000 in
theorem m_event (n : Nat) (M0 : AH) {a : Nat} {v : Int} {R : Nat → Nat → Nat} {P : Nat → Int} {Z : Nat → Nat} {A : Nat → Nat → Nat} {S : Nat → Nat} (hM : Cl M0 a (modC a R P Z)) (hw : Vw R Z A S) (hok : MnOk A S) (hv : Rng v) : Fn yX4_event cX4_event 2 (some .int) 1 [.ref a, .int (iI v)] n M0 0 0 (MPost n M0 a R P Z (fun x c A' S' => ((0 ≤ v ∧ v < 8) ∧ S 1 < 12 ∧ x = iI ((S 1 + 1 : Nat) : Int) ∧ c = 0 ∧ A' = evA A S v.toNat ∧ S' = upN S 1 (S 1 + 1)) ∨ (¬ (0 ≤ v ∧ v < 8) ∧ c = 1 ∧ A' = A ∧ S' = S) ∨ ((0 ≤ v ∧ v < 8) ∧ ¬ S 1 < 12 ∧ c = 2 ∧ A' = A ∧ S' = S))) := by
  refine Fn.of (by decide) [some _, some _] rfl rfl (Nat.le_of_ble_eq_true rfl) ?_
  intro g G hin hO
  obtain ⟨w1, w2, w3, w4, z1, z3, z7⟩ := hw
  obtain ⟨h1, -⟩ := hok
  have hFr : Fr a (a + 9) M0 M0 := Fr.rf
  generalize hM1 : M0 = M1 at hM hFr
  refine J.aload_n (pc := 0) G dX4_event_0 rfl ?_
  refine J.iconstN (pc := 1) G dX4_event_1 0 rfl ?_
  refine J.putf (pc := 2) (ci := 4) G inX4 rfl tyX4 tyX4_ok nmX4 0 q695 dX4_event_2 (hM.at 0 rfl) (by decide) (Nat.le_of_ble_eq_true rfl) (Or.inl rfl) (tyX4_ok 0 (by decide)) (by first | rfl | decide +kernel) (by first | rfl | decide +kernel) (fun M hput hag => ?_)
  have hM := modS0 hM hput hag
  have hFr := hFr.put hag (by omega) (by omega)
  clear hput hag
  refine J.iload_n (pc := 5) G dX4_event_5 rfl ?_
  refine J.callS (pc := 6) (na := 1) G (m_isLabel n M hv) q743 q744 q745 q5 (by decide +kernel) dX4_event_6 rfl (Nat.le_of_ble_eq_true rfl) rfl ⟨by omega, by decide, by omega, by omega⟩ ?_
  rintro r9 n9 M9 ⟨hr9, hn9, hM9⟩
  subst hr9
  rw [hn9, hM9]
  clear hn9 hM9 n9 M9
  dsimp only [Option.toList, List.cons_append, List.nil_append]
  have hFr0 : Fr a (a + 9) M0 M := hM1 ▸ hFr
  refine J.if_ne_b (pc := 9) (tgt := 18) G dX4_event_9 (by decide) (fun hb => ?_) (fun hb => ?_)
  · have hl := of_decide_eq_true hb
    have z1' : upN Z 0 0 1 = S 1 := z1
    refine J.aload_n (pc := 18) G dX4_event_18 rfl ?_
    refine J.getf (pc := 19) (ci := 4) G inX4 rfl 1 q696 dX4_event_19 (hM.at 0 rfl) (by decide) rfl ?_
    refine J.bipushN (pc := 22) G dX4_event_22 12 (by decide +kernel) ?_
    refine J.icmp_neN (pc := 24) (tgt := 33) G dX4_event_24 (by decide) (by omega) (by omega) (fun h => ?_) (fun h => ?_)
    · rw [show v = ((v.toNat : Nat) : Int) by omega]
      clear hFr
      have hFr := hFr0
      clear hFr0 hM1
      refine J.aload_n (pc := 33) G dX4_event_33 rfl ?_
      refine J.getf (pc := 34) (ci := 4) G inX4 rfl 2 q697 dX4_event_34 (hM.at 0 rfl) (by decide) rfl ?_
      refine J.aload_n (pc := 37) G dX4_event_37 rfl ?_
      refine J.getf (pc := 38) (ci := 4) G inX4 rfl 1 q696 dX4_event_38 (hM.at 0 rfl) (by decide) rfl ?_
      refine J.iload_n (pc := 41) G dX4_event_41 rfl ?_
      refine J.iastN (pc := 42) G dX4_event_42 (hM.at 1 rfl) (by omega) (by decide) (fun M hput hag => ?_)
      have hM := modA1 hM hput hag
      have hFr := hFr.put hag (by omega) (by omega)
      clear hput hag
      refine J.aload_n (pc := 43) G dX4_event_43 rfl ?_
      refine J.dup (pc := 44) G dX4_event_44 rfl ?_
      refine J.getf (pc := 45) (ci := 4) G inX4 rfl 1 q696 dX4_event_45 (hM.at 0 rfl) (by decide) rfl ?_
      refine J.topv (b := iI (Z 1 : Int)) rfl ?_
      refine J.iconstN (pc := 48) G dX4_event_48 1 rfl ?_
      refine J.iaddN (pc := 49) G dX4_event_49 ?_
      refine J.putf (pc := 50) (ci := 4) G inX4 rfl tyX4 tyX4_ok nmX4 1 q696 dX4_event_50 (hM.at 0 rfl) (by decide) (Nat.le_of_ble_eq_true rfl) (Or.inl rfl) (tyX4_ok 1 (by decide)) (by first | rfl | decide +kernel) (by first | rfl | decide +kernel) (fun M hput hag => ?_)
      have hM := modS1 hM hput hag
      have hFr := hFr.put hag (by omega) (by omega)
      clear hput hag
      refine J.aload_n (pc := 53) G dX4_event_53 rfl ?_
      refine J.getf (pc := 54) (ci := 4) G inX4 rfl 1 q696 dX4_event_54 (hM.at 0 rfl) (by decide) rfl ?_
      refine J.topv (b := iI ((S 1 + 1 : Nat) : Int)) (by rw [← z1]; rfl) ?_
      exact J.iret (pc := 57) G hO dX4_event_57 (by decide) (by decide) ⟨rfl, hFr, _, _, _, rfl, hM, Kp.rf, evA A S v.toNat, upN S 1 (S 1 + 1), ⟨by show upN (R 1) (Z 1) v.toNat = upN (A 1) (S 1) v.toNat; rw [w1, z1], w2, w3, w4, by show Z 1 + 1 = S 1 + 1; rw [z1], z3, z7⟩, Or.inl ⟨hl, by omega, rfl, rfl, rfl, rfl⟩⟩
    · refine J.aload_n (pc := 27) G dX4_event_27 rfl ?_
      refine J.iconstN (pc := 28) G dX4_event_28 2 rfl ?_
      refine J.callV (pc := 29) (na := 1) G (m_fail n M (c := 2) hM) q746 q748 qp39 q749 q5 (by decide +kernel) dX4_event_29 (hM.at 0 rfl) rfl rfl (Nat.le_of_ble_eq_true rfl) rfl ⟨by omega, by decide, by omega, by omega⟩ ?_
      rintro r9 n9 M7 ⟨hr9, hn9, ⟨hM7, hFr7⟩⟩
      subst hr9
      rw [hn9]
      clear hn9 n9
      dsimp only [Option.toList, List.cons_append, List.nil_append]
      exact J.iret (pc := 32) G hO dX4_event_32 (by decide) (by decide) ⟨rfl, hFr0.trans hFr7, _, _, _, rfl, hM7, Kp.rf, A, S, ⟨w1, w2, w3, w4, z1, z3, z7⟩, Or.inr (Or.inr ⟨hl, by omega, rfl, rfl, rfl⟩)⟩
  · refine J.aload_n (pc := 12) G dX4_event_12 rfl ?_
    refine J.iconstN (pc := 13) G dX4_event_13 1 rfl ?_
    refine J.callV (pc := 14) (na := 1) G (m_fail n M (c := 1) hM) q746 q748 qp39 q749 q5 (by decide +kernel) dX4_event_14 (hM.at 0 rfl) rfl rfl (Nat.le_of_ble_eq_true rfl) rfl ⟨by omega, by decide, by omega, by omega⟩ ?_
    rintro r9 n9 M7 ⟨hr9, hn9, ⟨hM7, hFr7⟩⟩
    subst hr9
    rw [hn9]
    clear hn9 n9
    dsimp only [Option.toList, List.cons_append, List.nil_append]
    exact J.iret (pc := 17) G hO dX4_event_17 (by decide) (by decide) ⟨rfl, hFr0.trans hFr7, _, _, _, rfl, hM7, Kp.rf, A, S, ⟨w1, w2, w3, w4, z1, z3, z7⟩, Or.inr (Or.inl ⟨of_decide_eq_false hb, rfl, rfl, rfl⟩)⟩
set_option maxRecDepth 100000 in
set_option maxHeartbeats 4000000 in
theorem m_dropTrace (n : Nat) (M0 : AH) {a : Nat} {R : Nat → Nat → Nat} {P : Nat → Int} {Z : Nat → Nat} {A : Nat → Nat → Nat} {S : Nat → Nat} (hM : Cl M0 a (modC a R P Z)) (hw : Vw R Z A S) (hok : MnOk A S) : Fn yX4_dropTrace cX4_dropTrace 1 (some .int) 1 [.ref a] n M0 0 0 (MPost n M0 a R P Z (fun x c A' S' => (0 < S 5 ∧ x = iI ((S 5 - 1 : Nat) : Int) ∧ c = 0 ∧ A' = A ∧ S' = upN (upN S 5 (S 5 - 1)) 9 0) ∨ (S 5 = 0 ∧ c = 1 ∧ A' = A ∧ S' = S))) := by
  refine Fn.of (by decide) [some _] rfl rfl (Nat.le_of_ble_eq_true rfl) ?_
  intro g G hin hO
  obtain ⟨w1, w2, w3, w4, z1, z3, z7⟩ := hw
  obtain ⟨h1, h5, -⟩ := hok
  have hFr : Fr a (a + 9) M0 M0 := Fr.rf
  generalize hM1 : M0 = M1 at hM hFr
  refine J.aload_n (pc := 0) G dX4_dropTrace_0 rfl ?_
  refine J.iconstN (pc := 1) G dX4_dropTrace_1 0 rfl ?_
  refine J.putf (pc := 2) (ci := 4) G inX4 rfl tyX4 tyX4_ok nmX4 0 q695 dX4_dropTrace_2 (hM.at 0 rfl) (by decide) (Nat.le_of_ble_eq_true rfl) (Or.inl rfl) (tyX4_ok 0 (by decide)) (by first | rfl | decide +kernel) (by first | rfl | decide +kernel) (fun M hput hag => ?_)
  have hM := modS0 hM hput hag
  have hFr := hFr.put hag (by omega) (by omega)
  clear hput hag
  refine J.aload_n (pc := 5) G dX4_dropTrace_5 rfl ?_
  refine J.getf (pc := 6) (ci := 4) G inX4 rfl 3 q698 dX4_dropTrace_6 (hM.at 0 rfl) (by decide) rfl ?_
  have hFr0 : Fr a (a + 9) M0 M := hM1 ▸ hFr
  have z3' : upN Z 0 0 3 = S 5 := z3
  refine J.if_neN (pc := 9) (tgt := 18) G dX4_dropTrace_9 (by decide) (by omega) (fun h => ?_) (fun h => ?_)
  · clear hFr
    have hFr := hFr0
    clear hFr0 hM1
    refine J.aload_n (pc := 18) G dX4_dropTrace_18 rfl ?_
    refine J.dup (pc := 19) G dX4_dropTrace_19 rfl ?_
    refine J.getf (pc := 20) (ci := 4) G inX4 rfl 3 q698 dX4_dropTrace_20 (hM.at 0 rfl) (by decide) rfl ?_
    refine J.iconstN (pc := 23) G dX4_dropTrace_23 1 rfl ?_
    refine J.isubN (pc := 24) G dX4_dropTrace_24 (by omega) ?_
    refine J.putf (pc := 25) (ci := 4) G inX4 rfl tyX4 tyX4_ok nmX4 3 q698 dX4_dropTrace_25 (hM.at 0 rfl) (by decide) (Nat.le_of_ble_eq_true rfl) (Or.inl rfl) (tyX4_ok 3 (by decide)) (by first | rfl | decide +kernel) (by first | rfl | decide +kernel) (fun M hput hag => ?_)
    have hM := modS3 hM hput hag
    have hFr := hFr.put hag (by omega) (by omega)
    clear hput hag
    refine J.aload_n (pc := 28) G dX4_dropTrace_28 rfl ?_
    refine J.iconstN (pc := 29) G dX4_dropTrace_29 0 rfl ?_
    refine J.putf (pc := 30) (ci := 4) G inX4 rfl tyX4 tyX4_ok nmX4 7 q702 dX4_dropTrace_30 (hM.at 0 rfl) (by decide) (Nat.le_of_ble_eq_true rfl) (Or.inl rfl) (tyX4_ok 7 (by decide)) (by first | rfl | decide +kernel) (by first | rfl | decide +kernel) (fun M hput hag => ?_)
    have hM := modS7 hM hput hag
    have hFr := hFr.put hag (by omega) (by omega)
    clear hput hag
    refine J.aload_n (pc := 33) G dX4_dropTrace_33 rfl ?_
    refine J.getf (pc := 34) (ci := 4) G inX4 rfl 3 q698 dX4_dropTrace_34 (hM.at 0 rfl) (by decide) rfl ?_
    refine J.topv (b := iI ((S 5 - 1 : Nat) : Int)) (by rw [← z3]; rfl) ?_
    exact J.iret (pc := 37) G hO dX4_dropTrace_37 (by decide) (by decide) ⟨rfl, hFr, _, _, _, rfl, hM, Kp.rf, A, upN (upN S 5 (S 5 - 1)) 9 0, ⟨w1, w2, w3, w4, z1, by show Z 3 - 1 = S 5 - 1; rw [z3], rfl⟩, Or.inl ⟨by omega, rfl, rfl, rfl, rfl⟩⟩
  · refine J.aload_n (pc := 12) G dX4_dropTrace_12 rfl ?_
    refine J.iconstN (pc := 13) G dX4_dropTrace_13 1 rfl ?_
    refine J.callV (pc := 14) (na := 1) G (m_fail n M (c := 1) hM) q746 q748 qp39 q749 q5 (by decide +kernel) dX4_dropTrace_14 (hM.at 0 rfl) rfl rfl (Nat.le_of_ble_eq_true rfl) rfl ⟨by omega, by decide, by omega, by omega⟩ ?_
    rintro r9 n9 M7 ⟨hr9, hn9, ⟨hM7, hFr7⟩⟩
    subst hr9
    rw [hn9]
    clear hn9 n9
    dsimp only [Option.toList, List.cons_append, List.nil_append]
    exact J.iret (pc := 17) G hO dX4_dropTrace_17 (by decide) (by decide) ⟨rfl, hFr0.trans hFr7, _, _, _, rfl, hM7, Kp.rf, A, S, ⟨w1, w2, w3, w4, z1, z3, z7⟩, Or.inr ⟨by omega, rfl, rfl, rfl⟩⟩
set_option maxRecDepth 100000 in
set_option maxHeartbeats 4000000 in
theorem m_traceCount (n : Nat) (M0 : AH) {a : Nat} {R : Nat → Nat → Nat} {P : Nat → Int} {Z : Nat → Nat} {A : Nat → Nat → Nat} {S : Nat → Nat} (hM : Cl M0 a (modC a R P Z)) (hw : Vw R Z A S) : Fn yX4_traceCount cX4_traceCount 1 (some .int) 0 [.ref a] n M0 0 0 (MPost n M0 a R P Z (fun x c A' S' => x = iI ((S 5 : Nat) : Int) ∧ A' = A ∧ S' = S)) := by
  refine Fn.of (by decide) [some _] rfl rfl (Nat.le_of_ble_eq_true rfl) ?_
  intro g G hin hO
  obtain ⟨w1, w2, w3, w4, z1, z3, z7⟩ := hw
  have hFr : Fr a (a + 9) M0 M0 := Fr.rf
  generalize hM1 : M0 = M1 at hM hFr
  have z3' : upN Z 0 0 3 = S 5 := z3
  refine J.aload_n (pc := 0) G dX4_traceCount_0 rfl ?_
  refine J.iconstN (pc := 1) G dX4_traceCount_1 0 rfl ?_
  refine J.putf (pc := 2) (ci := 4) G inX4 rfl tyX4 tyX4_ok nmX4 0 q695 dX4_traceCount_2 (hM.at 0 rfl) (by decide) (Nat.le_of_ble_eq_true rfl) (Or.inl rfl) (tyX4_ok 0 (by decide)) (by first | rfl | decide +kernel) (by first | rfl | decide +kernel) (fun M hput hag => ?_)
  have hM := modS0 hM hput hag
  have hFr := hFr.put hag (by omega) (by omega)
  clear hput hag
  refine J.aload_n (pc := 5) G dX4_traceCount_5 rfl ?_
  refine J.getf (pc := 6) (ci := 4) G inX4 rfl 3 q698 dX4_traceCount_6 (hM.at 0 rfl) (by decide) rfl ?_
  rw [z3']
  exact J.iret (pc := 9) G hO dX4_traceCount_9 (by decide) (by decide) ⟨rfl, hM1 ▸ hFr, _, _, _, rfl, hM, Kp.rf, A, S, ⟨w1, w2, w3, w4, z1, z3, z7⟩, rfl, rfl, rfl⟩
end MOD2
